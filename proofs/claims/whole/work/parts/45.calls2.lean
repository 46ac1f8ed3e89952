/-! pure: all, bring, weight, first -/
theorem sumOf_loop {N : Nat} {what : Int32} {f : Nat → Int32} {Q : Int32 → AH → Prop} {h : AH} (n7 : N ≤ 7) (hN : h.1 59 0 = nI N) (M : (what = 1 ∧ rowR N (h.1 82) f) ∨ (what = 2 ∧ rowR N (h.1 78) f)) : ∀ (cnt k : Nat) (a : Int32), k + cnt = N → Q (sumL f cnt k a) h → p_MO_sumOf_4 Q (cnt + 1) what a (nI k) h := by
  intro cnt
  induction cnt with
  | zero =>
    intro k a hk HQ
    have hk' : k = N := by omega
    subst hk'
    simp only [p_MO_sumOf_4]
    rw [hN, pT (Int32.le_refl _)]
    exact HQ
  | succ cnt ih =>
    intro k a hk HQ
    obtain ⟨n', hn'⟩ : ∃ n', n' = cnt + 1 := ⟨_, rfl⟩
    rw [← hn']
    rw [← hn'] at ih
    have ik : inb (nI k) 7 := inb_nI (by omega) (by omega)
    simp only [p_MO_sumOf_4]
    rw [hN, pF (fun z => by have := (nI_leN (by omega) (by omega)).mp z; omega)]
    have nx : p_MO_sumOf_80 Q (p_MO_sumOf_4 Q n') what (nI k) a (f k) h := by
      unfold p_MO_sumOf_80; rw [nI_1]; exact ih (k + 1) _ (by omega) HQ
    rcases M with ⟨rfl, M⟩ | ⟨rfl, M⟩
    · rw [nF (by decide), nT rfl, M k (by omega)]; exact ⟨ik, nx⟩
    · rw [nF (by decide), nF (by decide), nT rfl, M k (by omega)]; exact ⟨ik, nx⟩
theorem sS_t {f : Nat → Int32} {k : Nat} {a : Int32} (h : f k = 0) : sS (zB f k) k a = a + (1 <<< (nI k &&& 31)) := by simp [sS, zB, h]
theorem sS_f {f : Nat → Int32} {k : Nat} {a : Int32} (h : ¬ f k = 0) : sS (zB f k) k a = a + 0 := by simp [sS, zB, h]
theorem sumBits_loop {N : Nat} {what : Int32} {f : Nat → Int32} {Q : Int32 → AH → Prop} {h : AH} (n7 : N ≤ 7) (hN : h.1 59 0 = nI N) (M : (what = 0 ∧ rowR N (h.1 78) f) ∨ ((¬ what = 0 ∧ ¬ what = 1 ∧ ¬ what = 2) ∧ rowR N (h.1 79) f)) : ∀ (cnt k : Nat) (a : Int32), k + cnt = N → Q (tally sS (zB f) cnt k a) h → p_MO_sumOf_4 Q (cnt + 1) what a (nI k) h := by
  intro cnt
  induction cnt with
  | zero =>
    intro k a hk HQ
    have hk' : k = N := by omega
    subst hk'
    simp only [p_MO_sumOf_4]
    rw [hN, pT (Int32.le_refl _)]
    exact HQ
  | succ cnt ih =>
    intro k a hk HQ
    obtain ⟨n', hn'⟩ : ∃ n', n' = cnt + 1 := ⟨_, rfl⟩
    rw [← hn']
    rw [← hn'] at ih
    have ik : inb (nI k) 7 := inb_nI (by omega) (by omega)
    simp only [p_MO_sumOf_4]
    rw [hN, pF (fun z => by have := (nI_leN (by omega) (by omega)).mp z; omega)]
    have HQ' : Q (tally sS (zB f) cnt (k + 1) (sS (zB f k) k a)) h := HQ
    have nx : ∀ s, sS (zB f k) k a = a + s → p_MO_sumOf_80 Q (p_MO_sumOf_4 Q n') what (nI k) a s h := fun s hs => by
      rw [hs] at HQ'
      unfold p_MO_sumOf_80; rw [nI_1]; exact ih (k + 1) _ (by omega) HQ'
    rcases M with ⟨rfl, M⟩ | ⟨⟨z0, z1, z2⟩, M⟩
    · rw [nT rfl, M k (by omega)]
      refine ⟨ik, ?_⟩
      by_cases hz : f k = 0
      · rw [nT hz]; exact nx _ (sS_t hz)
      · rw [nF hz]; exact nx _ (sS_f hz)
    · rw [nF z0, nF z1, nF z2, M k (by omega)]
      refine ⟨ik, ?_⟩
      by_cases hz : f k = 0
      · rw [nT hz]; exact nx _ (sS_t hz)
      · rw [nF hz]; exact nx _ (sS_f hz)
theorem both_all {x1 x2 : Int32} {h : AH} (I : Inv h) : p_UF_all (fun r1 h1 => p_MO_all (K2 r1) x1 x2 h1) x1 x2 h := by
  obtain ⟨E, hi, T⟩ := Tn_of I
  have n7 := T.1.n7
  unfold p_UF_all
  rw [UF_isSpan_iff]
  by_cases c1 : 0 ≤ x1 ∧ x1 ≤ 24
  · rw [b01_t c1]
    refine (nF (by decide)).mpr ?_
    rw [UF_within_iff]
    by_cases c3 : 0 ≤ x2 ∧ x2 ≤ 3
    · rw [b01_t c3]
      refine (nF (by decide)).mpr ?_
      obtain ⟨n, hn, rfl⟩ := spanN.mp c1
      refine UF_ready_spec T.1 T.2.2.1 (fun h1 f1 R1 M1 => ?_)
      refine Dusk_go_spec T.1 hn R1 M1 T.hiOk (fun h2 f2 M2 => ?_)
      have R2 := R1.tr f2 (fun _ z => z)
      have f12 : frR h h2 := frR_tr f1 (frR_SC f2)
      have fin : ∀ v, (∀ h4, MRep E h4 → MD E.N (goD E hi n) h4 → frI h h4 → p_MO_sumOf (fun r7 h6 => K2 v r7 h6) x2 h4) → p_MO_all (K2 v) (nI n) x2 h2 := fun v H => by
        have T3 := Tn_I (frI_R f12) T
        unfold p_MO_all
        rw [MO_isMany_iff, b01_t c1]
        refine (nF (by decide)).mpr ?_
        rw [MO_in_iff, b01_t c3]
        refine (nF (by decide)).mpr ?_
        exact MO_lives_spec T.1 hn T3.2.2.2.1 T3.2.2.2.2 (fun h4 f4 M4 => H h4 (T3.2.2.2.1.tr (keepM_frV f4)) M4 (frI_tr (frI_R f12) (frI_V f4)))
      by_cases d0 : x2 = 0
      · subst d0
        refine ⟨fun _ => ?_, fun z => absurd z (by decide), fun z => absurd z (by decide), fun z => absurd rfl z⟩
        refine downBits_spec n7 R2.n M2.hi ?_
        exact fin _ (fun h4 R4 M4 f4 => ⟨E.N + 1, sumBits_loop n7 R4.n (Or.inl ⟨rfl, M4.hi⟩) E.N 0 0 (by omega) ⟨(tally_eq n7).1.symm, Inv_I f4 I⟩⟩)
      by_cases d1 : x2 = 1
      · subst d1
        refine ⟨fun z => absurd z (by decide), fun _ => ?_, fun z => absurd z (by decide), fun _ z => absurd rfl z⟩
        refine ⟨E.N + 1, hits_loop n7 R2.n M2.ht E.N 0 0 (by omega) ?_⟩
        exact fin _ (fun h4 R4 M4 f4 => ⟨E.N + 1, sumOf_loop n7 R4.n (Or.inl ⟨rfl, M4.ht⟩) E.N 0 0 (by omega) ⟨rfl, Inv_I f4 I⟩⟩)
      by_cases d2 : x2 = 2
      · subst d2
        refine ⟨fun z => absurd z (by decide), fun z => absurd z (by decide), fun _ => ?_, fun _ _ z => absurd rfl z⟩
        refine ⟨E.N + 1, high_loop n7 R2.n M2.hi E.N 0 0 (by omega) ?_⟩
        exact fin _ (fun h4 R4 M4 f4 => ⟨E.N + 1, sumOf_loop n7 R4.n (Or.inr ⟨rfl, M4.hi⟩) E.N 0 0 (by omega) ⟨rfl, Inv_I f4 I⟩⟩)
      refine ⟨fun z => absurd z d0, fun z => absurd z d1, fun z => absurd z d2, fun _ _ _ => ?_⟩
      refine stillBits_spec n7 R2.n M2.mv ?_
      exact fin _ (fun h4 R4 M4 f4 => ⟨E.N + 1, sumBits_loop n7 R4.n (Or.inr ⟨⟨d0, d1, d2⟩, M4.mv⟩) E.N 0 0 (by omega) ⟨(tally_eq n7).1.symm, Inv_I f4 I⟩⟩)
    · rw [b01_f c3]
      refine (nT rfl).mpr ?_
      show p_MO_all (K2 _) _ _ _
      unfold p_MO_all
      rw [MO_isMany_iff, b01_t c1]
      refine (nF (by decide)).mpr ?_
      rw [MO_in_iff, b01_f c3]
      exact (nT rfl).mpr ⟨rfl, I⟩
  · rw [b01_f c1]
    refine (nT rfl).mpr ?_
    show p_MO_all (K2 _) _ _ _
    unfold p_MO_all
    rw [MO_isMany_iff, b01_f c1]
    exact (nT rfl).mpr ⟨rfl, I⟩
/-- the model's downs -/
theorem MO_downs_spec {E : EV} {hi : Nat → Int32} {n : Nat} {h : AH} {Q : Int32 → AH → Prop} (e : E.ok) (hn : n ≤ 24) (R : MTn E hi h) (HQ : ∀ h', frV h h' → Q (downF E.N (goD E hi n).hi) h') : p_MO_downs Q (nI n) h :=
  MO_lives_spec e hn R.1 R.2 (fun h4 f4 M4 => downNow_spec e.n7 (R.1.tr (keepM_frV f4)).n M4.hi (HQ h4 f4))
/-- the class's dusk, gone through, of a town -/
theorem UF_downs_spec {E : EV} {h : AH} {hi : Nat → Int32} {n : Nat} {Q : Int32 → AH → Prop} (e : E.ok) (hn : n ≤ 24) (R : CRep E h) (M : CD E.N (bornF hi) h) (hk : hiOk E.N (bornF hi)) (HQ : ∀ h', frR h h' → Q (downF E.N (goD E hi n).hi) h') : p_Dusk_go (fun h3 => p_Town_downCount Q 14 h3) (nI n) h :=
  Dusk_go_spec e hn R M hk (fun h2 f2 M2 => downCount_spec e.n7 (R.tr f2 (fun _ z => z)).n M2.hi (HQ h2 (frR_SC f2)))
def moreE (E : EV) (k : Nat) (x : Int32) : EV := withP E (upN E.people k (E.people k + x))
def bringN (E : EV) (hi : Nat → Int32) (k n : Nat) : Nat → Nat → Int32
  | 0, _ => -1
  | c + 1, m => if (goD (moreE E k (nI m)) hi n).hi k = 0 then nI m else bringN E hi k n c (m + 1)
theorem UF_bring_loop {E : EV} {hi : Nat → Int32} {k n : Nat} {Q : Int32 → AH → Prop} {h0 : AH} (T0 : Tn E hi h0) (hk : k < E.N) (hn : n ≤ 24) : ∀ (cnt m : Nat) (h : AH), m + cnt = 21 → frR h0 h → (∀ h', frR h0 h' → Q (bringN E hi k n cnt m) h') → p_UF_bring_23 Q (cnt + 1) (nI k) (nI n) (nI m) h := by
  intro cnt
  have n7 := T0.1.n7
  induction cnt with
  | zero =>
    intro m h hm f HQ
    have hm' : m = 21 := by omega
    subst hm'
    simp only [p_UF_bring_23]
    rw [pT (by decide)]
    exact HQ h f
  | succ cnt ih =>
    intro m h hm f HQ
    obtain ⟨n', hn'⟩ : ∃ n', n' = cnt + 1 := ⟨_, rfl⟩
    rw [← hn']
    rw [← hn'] at ih
    have T := Tn_I (frI_R f) T0
    have c20 : ¬ (20 : Int32) < nI m := fun z => by have := (nI_ltI (a := 20) (by decide) (by omega)).mp z; omega
    simp only [p_UF_bring_23]
    rw [pF c20]
    refine UF_ready_spec T.1 T.2.2.1 (fun h1 f1 R1 M1 => ⟨inb_nI (by omega) (by omega), ?_⟩)
    rw [R1.people k hk]
    have R1' := R1.addP (x := E.people k + nI m) n7 hk
    have M1' : CD E.N (bornF hi) (wI h1 16 (nI k) (E.people k + nI m)) := M1
    refine Dusk_go_spec (E := moreE E k (nI m)) T.1 hn R1' M1' T.hiOk (fun h3 f3 M3 => ?_)
    have f03 : frR h0 h3 := frR_tr f (frR_tr (frR_w f1 (by decide)) (frR_SC f3))
    rw [isDown14, M3.hi k hk]
    refine ⟨inb_nI (by omega) (by omega), ?_⟩
    by_cases hz : (goD (moreE E k (nI m)) hi n).hi k = 0
    · refine (nT hz).mpr ((pF (by decide)).mpr ?_)
      have H := HQ h3 f03
      unfold bringN at H
      rwa [if_pos hz] at H
    · refine (nF hz).mpr ((pT rfl).mpr ?_)
      rw [nI_1]
      refine ih (m + 1) h3 (by omega) f03 (fun h' f' => ?_)
      have H := HQ h' f'
      unfold bringN at H
      rwa [if_neg hz] at H
theorem MO_bring_loop {E : EV} {hi : Nat → Int32} {k n : Nat} {Q : Int32 → AH → Prop} {h0 : AH} (e : E.ok) (R0 : MTn E hi h0) (hk : k < E.N) (hn : n ≤ 24) : ∀ (cnt m : Nat) (h : AH), m + cnt = 21 → (∃ x, frV (wI h0 64 (nI k) x) h) → (∀ h', frV h0 h' → Q (bringN E hi k n cnt m) h') → p_MO_bring_34 Q (cnt + 1) (nI k) (nI n) (E.people k) (-1) (nI m) h := by
  intro cnt
  have n7 := e.n7
  have i : inb (nI k) 7 := inb_nI (by omega) (by omega)
  have b64 : 64 ∉ (59 :: SM) := by decide
  have back : ∀ h, (∃ x, frV (wI h0 64 (nI k) x) h) → frV h0 (wI h 64 (nI k) (E.people k)) := fun h ⟨x, f⟩ => frV_back f b64 (R0.1.people k hk).symm
  induction cnt with
  | zero =>
    intro m h hm f HQ
    have hm' : m = 21 := by omega
    subst hm'
    simp only [p_MO_bring_34]
    rw [pT (by decide)]
    exact ⟨i, HQ _ (back h f)⟩
  | succ cnt ih =>
    intro m h hm f HQ
    obtain ⟨n', hn'⟩ : ∃ n', n' = cnt + 1 := ⟨_, rfl⟩
    have c20 : ¬ (20 : Int32) < nI m := fun z => by have := (nI_ltI (a := 20) (by decide) (by omega)).mp z; omega
    rw [← hn']
    simp only [p_MO_bring_34]
    rw [pF c20, nT trivial]
    refine ⟨i, ?_⟩
    obtain ⟨x, f⟩ := f
    have fw : frV h0 (wI h 64 (nI k) (E.people k)) := back h ⟨x, f⟩
    have R1 : MTn E hi (wI h 64 (nI k) (E.people k)) := ⟨R0.1.tr (keepM_frV fw), by rw [fw.2.1 63 (by decide)]; exact R0.2⟩
    have eq : wI (wI h 64 (nI k) (E.people k)) 64 (nI k) (E.people k + nI m) = wI h 64 (nI k) (E.people k + nI m) := by
      unfold wI
      congr 1
      funext b
      by_cases hb : b = 64
      · subst hb; simp only [if_true]; exact up_up
      · simp only [if_neg hb]
    have R2 : MTn (moreE E k (nI m)) hi (wI h 64 (nI k) (E.people k + nI m)) := by
      rw [← eq]
      exact ⟨R1.1.addP n7 hk, R1.2⟩
    refine MO_lives_spec (E := moreE E k (nI m)) e hn R2.1 R2.2 (fun h4 f4 M4 => ⟨i, ?_⟩)
    have f04 : ∃ x, frV (wI h0 64 (nI k) x) h4 := by
      refine ⟨E.people k + nI m, ?_⟩
      refine ⟨f4.1.trans f.1, fun b hb => ?_, fun j hj => ?_⟩
      · rw [f4.2.1 b hb, wI_r, wI_r]
        by_cases e64 : b = 64
        · subst e64; rw [if_pos rfl, if_pos rfl, f.2.1 64 b64, wI_r, if_pos rfl, up_up]
        · rw [if_neg e64, if_neg e64, f.2.1 b hb, wI_r, if_neg e64]
      · rw [f4.2.2 j hj]; exact f.2.2 j hj
    rw [M4.hi k hk]
    by_cases hz : (goD (moreE E k (nI m)) hi n).hi k = 0
    · refine (nT hz).mpr ?_
      have HQ' : ∀ h', frV h0 h' → Q (nI m) h' := fun h' f' => by
        have H := HQ h' f'
        unfold bringN at H
        rwa [if_pos hz] at H
      unfold p_MO_bring_77
      rw [nI_1, hn']
      have nm1 : ¬ nI m = -1 := nI_ne1 (by omega)
      simp only [p_MO_bring_34]
      by_cases c : (20 : Int32) < nI (m + 1)
      · rw [pT c]; exact ⟨i, HQ' _ (back h4 f04)⟩
      · rw [pF c, nF nm1]; exact ⟨i, HQ' _ (back h4 f04)⟩
    · refine (nF hz).mpr ?_
      unfold p_MO_bring_77
      rw [nI_1, hn']
      refine ih (m + 1) h4 (by omega) f04 (fun h' f' => ?_)
      have H := HQ h' f'
      unfold bringN at H
      rwa [if_neg hz] at H
