/-! pure: over, link: two loops, one within the other -/
def nestI (val : Nat → Option Int32) (code : Nat → Int32) : Nat → Nat → Int32 → Int32 → Int32 × Int32
  | 0, _, b, w => (b, w)
  | c + 1, k, b, w => match val k with
    | none => nestI val code c (k + 1) b w
    | some v => if v ≤ b then nestI val code c (k + 1) b w else nestI val code c (k + 1) v (code k)
def nestO (val : Nat → Nat → Option Int32) (code : Nat → Nat → Int32) (fr : Nat → Nat) (N : Nat) : Nat → Nat → Int32 → Int32 → Int32 × Int32
  | 0, _, b, w => (b, w)
  | c + 1, a, b, w => nestO val code fr N c (a + 1) (nestI (val a) (code a) (N - fr a) (fr a) b w).1 (nestI (val a) (code a) (N - fr a) (fr a) b w).2
theorem nestI_no {val : Nat → Option Int32} {code : Nat → Int32} {c k : Nat} {b w : Int32} (h : val k = none) : nestI val code (c + 1) k b w = nestI val code c (k + 1) b w := by
  show (match val k with | none => _ | some v => _) = _
  rw [h]
theorem nestI_le {val : Nat → Option Int32} {code : Nat → Int32} {c k : Nat} {b w v : Int32} (h : val k = some v) (hv : v ≤ b) : nestI val code (c + 1) k b w = nestI val code c (k + 1) b w := by
  show (match val k with | none => _ | some v => if v ≤ b then _ else _) = _
  rw [h]; exact if_pos hv
theorem nestI_gt {val : Nat → Option Int32} {code : Nat → Int32} {c k : Nat} {b w v : Int32} (h : val k = some v) (hv : ¬ v ≤ b) : nestI val code (c + 1) k b w = nestI val code c (k + 1) v (code k) := by
  show (match val k with | none => _ | some v => if v ≤ b then _ else _) = _
  rw [h]; exact if_neg hv
def overP (E : EV) (a b : Nat) : Nat → Int32 := upN (upN E.people a (E.people a - 1)) b (upN E.people a (E.people a - 1) b + 1)
def overV (E : EV) (hi : Nat → Int32) (n a b : Nat) : Option Int32 := if a = b ∨ E.people a = 0 then none else some (downF E.N (goD (withP E (overP E a b)) hi n).hi)
def code10 (a b : Nat) : Int32 := 10 * nI a + nI b
theorem UF_over_inner {E : EV} {hi : Nat → Int32} {n a : Nat} {what : Int32} {Q : Int32 → AH → Prop} {K : Int32 → Int32 → Int32 → Int32 → Int32 → AH → Prop} {h0 : AH} (T0 : Tn E hi h0) (hn : n ≤ 24) (ha : a < E.N) : ∀ (cnt b : Nat) (best way : Int32) (h : AH), b + cnt = E.N → frR h0 h → (∀ h', frR h0 h' → K (nI n) what (nestI (overV E hi n a) (code10 a) cnt b best way).1 (nestI (overV E hi n a) (code10 a) cnt b best way).2 (nI (a + 1)) h') → p_UF_over_63 Q K (cnt + 1) (nI n) what best way (nI a) (nI b) h := by
  intro cnt
  have n7 := T0.1.n7
  induction cnt with
  | zero =>
    intro b best way h hk f HQ
    have hk' : b = E.N := by omega
    subst hk'
    have T := Tn_I (frI_R f) T0
    simp only [p_UF_over_63]
    rw [T.2.2.1.1, pT (Int32.le_refl _), nI_1]
    exact HQ h f
  | succ cnt ih =>
    intro b best way h hk f HQ
    have bN : b < E.N := by omega
    obtain ⟨n', hn'⟩ : ∃ n', n' = cnt + 1 := ⟨_, rfl⟩
    rw [← hn']
    rw [← hn'] at ih
    have T := Tn_I (frI_R f) T0
    have ia : inb (nI a) 7 := inb_nI (by omega) (by omega)
    have ib : inb (nI b) 7 := inb_nI (by omega) (by omega)
    have nxt : ∀ b' w' h2, frR h0 h2 → nestI (overV E hi n a) (code10 a) (cnt + 1) b best way = nestI (overV E hi n a) (code10 a) cnt (b + 1) b' w' → p_UF_over_175 Q K (p_UF_over_63 Q K n') (nI n) what b' w' (nI a) (nI b) h2 := fun b' w' h2 f2 he => by
      unfold p_UF_over_175
      rw [nI_1]
      refine ih (b + 1) b' w' h2 (by omega) f2 (fun h' f' => ?_)
      have H := HQ h' f'
      rwa [he] at H
    simp only [p_UF_over_63]
    rw [T.2.2.1.1, pF (fun z => by have := (nI_leN (by omega) (by omega)).mp z; omega), T.2.2.1.2.2.1 a ha]
    by_cases c1 : a = b
    · subst c1
      rw [pT rfl]
      exact nxt _ _ h f (nestI_no (by unfold overV; rw [if_pos (Or.inl rfl)]))
    · rw [pF (fun z => c1 ((nI_inj (by omega) (by omega)).mp z))]
      refine ⟨ia, ?_⟩
      by_cases c2 : E.people a = 0
      · rw [nT c2]
        exact nxt _ _ h f (nestI_no (by unfold overV; rw [if_pos (Or.inr c2)]))
      · rw [nF c2]
        refine UF_ready_spec T.1 T.2.2.1 (fun h1 f1 R1 M1 => ⟨ia, ib, ?_⟩)
        rw [R1.people a ha]
        have R1' := R1.addP (x := E.people a - 1) n7 ha
        have e2 : (wI h1 16 (nI a) (E.people a - 1)).1 16 (nI b) = upN E.people a (E.people a - 1) b := R1'.people b bN
        rw [e2]
        have R1'' : CRep (withP E (overP E a b)) (wI (wI h1 16 (nI a) (E.people a - 1)) 16 (nI b) (upN E.people a (E.people a - 1) b + 1)) := CRep.addP (E := withP E (upN E.people a (E.people a - 1))) n7 bN R1'
        have M1' : CD E.N (bornF hi) (wI (wI h1 16 (nI a) (E.people a - 1)) 16 (nI b) (upN E.people a (E.people a - 1) b + 1)) := M1
        have ev : overV E hi n a b = some (downF E.N (goD (withP E (overP E a b)) hi n).hi) := by unfold overV; rw [if_neg (fun z => z.elim c1 c2)]
        refine UF_downs_spec (E := withP E (overP E a b)) T.1 hn R1'' M1' T.hiOk (fun h3 f3 => ?_)
        have f03 : frR h0 h3 := frR_tr f (frR_tr (frR_w (frR_w f1 (by decide)) (by decide)) f3)
        by_cases c : downF E.N (goD (withP E (overP E a b)) hi n).hi ≤ best
        · exact (pT c).mpr (nxt _ _ h3 f03 (nestI_le ev c))
        · exact (pF c).mpr (nxt _ _ h3 f03 (nestI_gt ev c))
theorem UF_over_outer {E : EV} {hi : Nat → Int32} {n : Nat} {what : Int32} {Q : Int32 → AH → Prop} {h0 : AH} (T0 : Tn E hi h0) (hn : n ≤ 24) : ∀ (cnt a : Nat) (best way : Int32) (h : AH), a + cnt = E.N → frR h0 h → (∀ h', frR h0 h' → Q (if what = 0 then (nestO (overV E hi n) code10 (fun _ => 0) E.N cnt a best way).2 else (nestO (overV E hi n) code10 (fun _ => 0) E.N cnt a best way).1) h') → p_UF_over_48 Q (cnt + 1) (nI n) what best way (nI a) h := by
  intro cnt
  have n7 := T0.1.n7
  induction cnt with
  | zero =>
    intro a best way h hk f HQ
    have hk' : a = E.N := by omega
    subst hk'
    have T := Tn_I (frI_R f) T0
    simp only [p_UF_over_48]
    rw [T.2.2.1.1, pT (Int32.le_refl _)]
    have H := HQ h f
    by_cases c : what = 0
    · rw [nT c]; rwa [if_pos c] at H
    · rw [nF c]; rwa [if_neg c] at H
  | succ cnt ih =>
    intro a best way h hk f HQ
    obtain ⟨n', hn'⟩ : ∃ n', n' = cnt + 1 := ⟨_, rfl⟩
    rw [← hn']
    rw [← hn'] at ih
    have T := Tn_I (frI_R f) T0
    simp only [p_UF_over_48]
    rw [T.2.2.1.1, pF (fun z => by have := (nI_leN (by omega) (by omega)).mp z; omega)]
    exact ⟨E.N + 1, UF_over_inner T0 hn (by omega) E.N 0 best way h (by omega) f (fun h' f' => ih (a + 1) _ _ h' (by omega) f' (fun h2 f2 => HQ h2 f2))⟩
theorem frV_back2 {h h3 : AH} {a b : Int32} {x y : Int32} (hab : ¬ a = b) (f : frV (wI (wI h 64 a x) 64 b y) h3) : frV h (wI (wI h3 64 a (h.1 64 a)) 64 b (h.1 64 b)) := by
  refine ⟨f.1, fun c hc => ?_, fun j hj => ?_⟩
  · by_cases e : c = 64
    · subst e
      rw [wI_r, if_pos rfl, wI_r, if_pos rfl, f.2.1 64 hc, wI_r, if_pos rfl, wI_r, if_pos rfl]
      funext j
      simp only [up_a]
      by_cases j1 : j = b
      · subst j1; rw [if_pos rfl]
      · rw [if_neg j1]
        by_cases j2 : j = a
        · subst j2; rw [if_pos rfl]
        · rw [if_neg j2, if_neg j1, if_neg j2]
    · rw [wI_r, if_neg e, wI_r, if_neg e, f.2.1 c hc, wI_r, if_neg e, wI_r, if_neg e]
  · exact f.2.2 j hj
theorem MO_over_inner {E : EV} {hi : Nat → Int32} {n a : Nat} {what : Int32} {Q : Int32 → AH → Prop} {K : Int32 → Int32 → Int32 → Int32 → Int32 → AH → Prop} {h0 : AH} (e : E.ok) (pe : ∀ k, k < E.N → 0 ≤ (E.people k).toInt) (R0 : MTn E hi h0) (hn : n ≤ 24) (ha : a < E.N) : ∀ (cnt b : Nat) (best way : Int32) (h : AH), b + cnt = E.N → frV h0 h → (∀ h', frV h0 h' → K (nI n) what (nestI (overV E hi n a) (code10 a) cnt b best way).2 (nestI (overV E hi n a) (code10 a) cnt b best way).1 (nI (a + 1)) h') → p_MO_over_43 Q K (cnt + 1) (nI n) what way best (nI a) (nI b) h := by
  intro cnt
  have n7 := e.n7
  induction cnt with
  | zero =>
    intro b best way h hk f HQ
    have hk' : b = E.N := by omega
    subst hk'
    have R : MTn E hi h := MTn_I (frI_V f) R0
    simp only [p_MO_over_43]
    rw [R.1.n, pT (Int32.le_refl _), nI_1]
    exact HQ h f
  | succ cnt ih =>
    intro b best way h hk f HQ
    have bN : b < E.N := by omega
    obtain ⟨n', hn'⟩ : ∃ n', n' = cnt + 1 := ⟨_, rfl⟩
    rw [← hn']
    rw [← hn'] at ih
    have R : MTn E hi h := MTn_I (frI_V f) R0
    have ia : inb (nI a) 7 := inb_nI (by omega) (by omega)
    have ib : inb (nI b) 7 := inb_nI (by omega) (by omega)
    have nxt : ∀ b' w' h2, frV h0 h2 → nestI (overV E hi n a) (code10 a) (cnt + 1) b best way = nestI (overV E hi n a) (code10 a) cnt (b + 1) b' w' → p_MO_over_156 Q K (p_MO_over_43 Q K n') (nI n) what w' b' (nI a) (nI b) h2 := fun b' w' h2 f2 he => by
      unfold p_MO_over_156
      rw [nI_1]
      refine ih (b + 1) b' w' h2 (by omega) f2 (fun h' f' => ?_)
      have H := HQ h' f'
      rwa [he] at H
    simp only [p_MO_over_43]
    rw [R.1.n, pF (fun z => by have := (nI_leN (by omega) (by omega)).mp z; omega), R.1.people a ha]
    by_cases c1 : a = b
    · subst c1
      rw [pT rfl]
      exact nxt _ _ h f (nestI_no (by unfold overV; rw [if_pos (Or.inl rfl)]))
    · have c1' : ¬ nI a = nI b := fun z => c1 ((nI_inj (by omega) (by omega)).mp z)
      rw [pF c1']
      refine ⟨ia, ?_⟩
      by_cases c2 : E.people a = 0
      · have c2' : E.people a ≤ 0 := by rw [c2]; exact Int32.le_refl _
        rw [pT c2']
        exact nxt _ _ h f (nestI_no (by unfold overV; rw [if_pos (Or.inr c2)]))
      · have c2' : ¬ E.people a ≤ 0 := fun z => c2 (Int32.toInt_inj.mp (by rw [Int32.le_iff_toInt_le, Int32.toInt_zero] at z; have := pe a ha; rw [Int32.toInt_zero]; omega))
        rw [pF c2']
        refine ⟨ib, ?_⟩
        have R1' := R.1.addP (x := E.people a - 1) n7 ha
        have e2 : (wI h 64 (nI a) (E.people a - 1)).1 64 (nI b) = upN E.people a (E.people a - 1) b := R1'.people b bN
        rw [e2]
        have R1'' : MTn (withP E (overP E a b)) hi (wI (wI h 64 (nI a) (E.people a - 1)) 64 (nI b) (upN E.people a (E.people a - 1) b + 1)) := ⟨MRep.addP (E := withP E (upN E.people a (E.people a - 1))) n7 bN R1', R.2⟩
        have ev : overV E hi n a b = some (downF E.N (goD (withP E (overP E a b)) hi n).hi) := by unfold overV; rw [if_neg (fun z => z.elim c1 c2)]
        refine MO_downs_spec (E := withP E (overP E a b)) e hn R1'' (fun h3 f3 => ⟨ia, ib, ?_⟩)
        have r3 : h3.1 64 = up (up (h.1 64) (nI a) (E.people a - 1)) (nI b) (upN E.people a (E.people a - 1) b + 1) := f3.2.1 64 (by decide)
        have ea : h3.1 64 (nI a) + 1 = h.1 64 (nI a) := by
          rw [r3, up_n c1', up_s, Int32.sub_add_cancel, R.1.people a ha]
        have eb : (wI h3 64 (nI a) (h.1 64 (nI a))).1 64 (nI b) - 1 = h.1 64 (nI b) := by
          rw [wI_r, if_pos rfl, up_n (fun z => c1' z.symm), r3, up_s, Int32.add_sub_cancel, upN_n (fun z => c1 z.symm), R.1.people b bN]
        rw [ea, eb]
        have f4 : frV h0 (wI (wI h3 64 (nI a) (h.1 64 (nI a))) 64 (nI b) (h.1 64 (nI b))) := frV_tr f (frV_back2 c1' f3)
        by_cases c : downF E.N (goD (withP E (overP E a b)) hi n).hi ≤ best
        · refine (pT c).mpr ?_
          unfold p_MO_over_139
          refine (pT c).mpr ?_
          unfold p_MO_over_154
          exact nxt _ _ _ f4 (nestI_le ev c)
        · refine (pF c).mpr ?_
          unfold p_MO_over_139
          refine (pF c).mpr ?_
          unfold p_MO_over_154
          exact nxt _ _ _ f4 (nestI_gt ev c)
theorem MO_over_outer {E : EV} {hi : Nat → Int32} {n : Nat} {what : Int32} {Q : Int32 → AH → Prop} {h0 : AH} (e : E.ok) (pe : ∀ k, k < E.N → 0 ≤ (E.people k).toInt) (R0 : MTn E hi h0) (hn : n ≤ 24) : ∀ (cnt a : Nat) (best way : Int32) (h : AH), a + cnt = E.N → frV h0 h → (∀ h', frV h0 h' → Q (if what = 0 then (nestO (overV E hi n) code10 (fun _ => 0) E.N cnt a best way).2 else (nestO (overV E hi n) code10 (fun _ => 0) E.N cnt a best way).1) h') → p_MO_over_31 Q (cnt + 1) (nI n) what way best (nI a) h := by
  intro cnt
  have n7 := e.n7
  induction cnt with
  | zero =>
    intro a best way h hk f HQ
    have hk' : a = E.N := by omega
    subst hk'
    have R : MTn E hi h := MTn_I (frI_V f) R0
    simp only [p_MO_over_31]
    rw [R.1.n, pT (Int32.le_refl _)]
    have H := HQ h f
    by_cases c : what = 0
    · rw [nT c]; rwa [if_pos c] at H
    · rw [nF c]; rwa [if_neg c] at H
  | succ cnt ih =>
    intro a best way h hk f HQ
    obtain ⟨n', hn'⟩ : ∃ n', n' = cnt + 1 := ⟨_, rfl⟩
    rw [← hn']
    rw [← hn'] at ih
    have R : MTn E hi h := MTn_I (frI_V f) R0
    simp only [p_MO_over_31]
    rw [R.1.n, pF (fun z => by have := (nI_leN (by omega) (by omega)).mp z; omega)]
    exact ⟨E.N + 1, MO_over_inner e pe R0 hn (by omega) E.N 0 best way h (by omega) f (fun h' f' => ih (a + 1) _ _ h' (by omega) f' (fun h2 f2 => HQ h2 f2))⟩
theorem both_over {x1 x2 : Int32} {h : AH} (I : Inv h) : p_UF_over (fun r1 h1 => p_MO_over (K2 r1) x1 x2 h1) x1 x2 h := by
  obtain ⟨E, hi, T⟩ := Tn_of I
  unfold p_UF_over
  rw [UF_isSpan_iff]
  by_cases c1 : 0 ≤ x1 ∧ x1 ≤ 24
  · rw [b01_t c1]
    refine (pF (by decide)).mpr ?_
    rw [UF_within_iff]
    by_cases c3 : 0 ≤ x2 ∧ x2 ≤ 1
    · rw [b01_t c3]
      refine (nF (by decide)).mpr ?_
      obtain ⟨n, hn, rfl⟩ := spanN.mp c1
      refine UF_ready_spec T.1 T.2.2.1 (fun h1 f1 R1 M1 => ?_)
      refine UF_downs_spec T.1 hn R1 M1 T.hiOk (fun h2 f2 => ⟨E.N + 1, ?_⟩)
      refine UF_over_outer T hn E.N 0 _ (-1) h2 (by omega) (frR_tr f1 f2) (fun h3 f3 => ?_)
      have T3 := Tn_I (frI_R f3) T
      show p_MO_over (K2 _) _ _ _
      unfold p_MO_over
      rw [MO_isMany_iff, b01_t c1]
      refine (pF (by decide)).mpr ?_
      rw [MO_in_iff, b01_t c3]
      refine (nF (by decide)).mpr ?_
      refine MO_downs_spec T.1 hn T3.2.2.2 (fun h4 f4 => ⟨E.N + 1, ?_⟩)
      exact MO_over_outer T.1 (fun k hk => (T.2.1 k hk).2.1.1) T3.2.2.2 hn E.N 0 _ (-1) h4 (by omega) f4 (fun h5 f5 => ⟨rfl, Inv_I (frI_tr (frI_R f3) (frI_V f5)) I⟩)
    · rw [b01_f c3]
      refine (nT rfl).mpr ?_
      show p_MO_over (K2 _) _ _ _
      unfold p_MO_over
      rw [MO_isMany_iff, b01_t c1]
      refine (pF (by decide)).mpr ?_
      rw [MO_in_iff, b01_f c3]
      exact (nT rfl).mpr ⟨rfl, I⟩
  · rw [b01_f c1]
    refine (pT rfl).mpr ?_
    show p_MO_over (K2 _) _ _ _
    unfold p_MO_over
    rw [MO_isMany_iff, b01_f c1]
    exact (pT rfl).mpr ⟨rfl, I⟩
