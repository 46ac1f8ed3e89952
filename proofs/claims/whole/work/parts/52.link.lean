/-! pure: link, frees -/
def linkV (E : EV) (hi : Nat → Int32) (n a b : Nat) : Option Int32 := some (downF E.N (goD (withPa E (joinF E.partner a b)) hi n).hi)
theorem UF_link_inner {E : EV} {hi : Nat → Int32} {n a : Nat} {what : Int32} {Q : Int32 → AH → Prop} {K : Int32 → Int32 → Int32 → Int32 → Int32 → AH → Prop} {h0 : AH} (T0 : Tn E hi h0) (hn : n ≤ 24) (ha : a < E.N) : ∀ (cnt b : Nat) (best way : Int32) (h : AH), b + cnt = E.N → frR h0 h → (∀ h', frR h0 h' → K (nI n) what (nestI (linkV E hi n a) (code10 a) cnt b best way).1 (nestI (linkV E hi n a) (code10 a) cnt b best way).2 (nI (a + 1)) h') → p_UF_link_66 Q K (cnt + 1) (nI n) what best way (nI a) (nI b) h := by
  intro cnt
  have n7 := T0.1.n7
  induction cnt with
  | zero =>
    intro b best way h hk f HQ
    have hk' : b = E.N := by omega
    subst hk'
    have T := Tn_I (frI_R f) T0
    simp only [p_UF_link_66]
    rw [T.2.2.1.1, pT (Int32.le_refl _), nI_1]
    exact HQ h f
  | succ cnt ih =>
    intro b best way h hk f HQ
    have bN : b < E.N := by omega
    obtain ⟨n', hn'⟩ : ∃ n', n' = cnt + 1 := ⟨_, rfl⟩
    rw [← hn']
    rw [← hn'] at ih
    have T := Tn_I (frI_R f) T0
    have P : paOk E.N E.partner := T.1.partner
    have nxt : ∀ b' w' h2, frR h0 h2 → nestI (linkV E hi n a) (code10 a) (cnt + 1) b best way = nestI (linkV E hi n a) (code10 a) cnt (b + 1) b' w' → p_UF_link_135 Q K (p_UF_link_66 Q K n') (nI n) what b' w' (nI a) (nI b) h2 := fun b' w' h2 f2 he => by
      unfold p_UF_link_135
      rw [nI_1]
      refine ih (b + 1) b' w' h2 (by omega) f2 (fun h' f' => ?_)
      have H := HQ h' f'
      rwa [he] at H
    simp only [p_UF_link_66]
    rw [T.2.2.1.1, pF (fun z => by have := (nI_leN (by omega) (by omega)).mp z; omega)]
    refine UF_ready_spec T.1 T.2.2.1 (fun h1 f1 R1 M1 => ?_)
    refine join_spec tw14 n7 P ha bN R1.partner (fun h2 f2 R2 => ?_)
    refine UF_downs_spec (E := withPa E (joinF E.partner a b)) (withPa_ok T.1 (paOk_join P ha bN)) hn (R1.setPa f2 R2) (M1.fr f2 (by simp)) T.hiOk (fun h3 f3 => ?_)
    have f03 : frR h0 h3 := frR_tr f (frR_tr f1 (frR_tr (frR_frm f2 (by decide)) f3))
    by_cases c : downF E.N (goD (withPa E (joinF E.partner a b)) hi n).hi ≤ best
    · exact (pT c).mpr (nxt _ _ h3 f03 (nestI_le rfl c))
    · exact (pF c).mpr (nxt _ _ h3 f03 (nestI_gt rfl c))
theorem UF_link_outer {E : EV} {hi : Nat → Int32} {n : Nat} {what : Int32} {Q : Int32 → AH → Prop} {h0 : AH} (T0 : Tn E hi h0) (hn : n ≤ 24) : ∀ (cnt a : Nat) (best way : Int32) (h : AH), a + cnt = E.N → frR h0 h → (∀ h', frR h0 h' → Q (if what = 0 then (nestO (linkV E hi n) code10 (fun a => a + 1) E.N cnt a best way).2 else (nestO (linkV E hi n) code10 (fun a => a + 1) E.N cnt a best way).1) h') → p_UF_link_48 Q (cnt + 1) (nI n) what best way (nI a) h := by
  intro cnt
  have n7 := T0.1.n7
  induction cnt with
  | zero =>
    intro a best way h hk f HQ
    have hk' : a = E.N := by omega
    subst hk'
    have T := Tn_I (frI_R f) T0
    simp only [p_UF_link_48]
    rw [T.2.2.1.1, pT (Int32.le_refl _)]
    have H := HQ h f
    by_cases c : what = 0
    · rw [nT c]; rwa [if_pos c] at H
    · rw [nF c]; rwa [if_neg c] at H
  | succ cnt ih =>
    intro a best way h hk f HQ
    obtain ⟨n', hn'⟩ : ∃ n', n' = cnt + 1 := ⟨_, rfl⟩
    rw [← hn']
    rw [← hn'] at ih
    have T := Tn_I (frI_R f) T0
    simp only [p_UF_link_48]
    rw [T.2.2.1.1, pF (fun z => by have := (nI_leN (by omega) (by omega)).mp z; omega), nI_1]
    exact ⟨E.N - (a + 1) + 1, UF_link_inner T0 hn (by omega) (E.N - (a + 1)) (a + 1) best way h (by omega) f (fun h' f' => ih (a + 1) _ _ h' (by omega) f' (fun h2 f2 => HQ h2 f2))⟩
/-- the model between two tries of a thought about chains -/
def chX (E : EV) (hi : Nat → Int32) (g : Nat → Int32) (h0 h : AH) : Prop := frX h0 h ∧ rowR 7 (h.1 65) g ∧ rowR 7 (h.1 83) g
theorem chX_MTn {E : EV} {hi g : Nat → Int32} {h0 h : AH} (R0 : MTn E hi h0) (n7 : E.N ≤ 7) (G : ∀ k, k < E.N → g k = E.partner k) (X : chX E hi g h0 h) : MTn E hi h := R0.X X.1 (fun k hk => (X.2.1 k (by omega)).trans (G k hk))
theorem chX_step {E E' : EV} {hi g : Nat → Int32} {n : Nat} {h0 h h1 : AH} {Q : AH → Prop} (e' : E'.ok) (hn : n ≤ 24) (X : chX E hi g h0 h) (f1 : frm [65] h h1) (R1 : MTn E' hi h1) (HQ : ∀ h4, chX E hi g h0 h4 → MD E'.N (goD E' hi n) h4 → Q h4) : p_MO_lives (fun h2 => p_MO_laysBack Q h2) (nI n) h1 := by
  refine MO_lives_spec e' hn R1.1 R1.2 (fun h2 f2 M2 => ?_)
  have r83 : rowR 7 (h2.1 83) g := by rw [f2.2.1 83 (by decide), f1.2 83 (by decide)]; exact X.2.2
  refine lays_spec r83 (fun h4 f4 R4 => HQ h4 ⟨frX_tr X.1 (frX_tr (frX_frm f1 (by simp)) (frX_tr (frX_V f2) (frX_frm f4 (by simp)))), R4, by rw [f4.2 83 (by decide)]; exact r83⟩ ?_)
  have g' : ∀ b, ¬ b = 65 → h4.1 b = h2.1 b := fun b hb => f4.2 b (by simpa using hb)
  exact ⟨by rw [g' 78 (by decide)]; exact M2.hi, by rw [g' 79 (by decide)]; exact M2.mv, by rw [g' 80 (by decide)]; exact M2.run, by rw [g' 81 (by decide)]; exact M2.lh, by rw [g' 82 (by decide)]; exact M2.ht⟩
theorem chX_downs {E E' : EV} {hi g : Nat → Int32} {n : Nat} {h0 h h1 : AH} {Q : Int32 → AH → Prop} (e' : E'.ok) (hn : n ≤ 24) (X : chX E hi g h0 h) (f1 : frm [65] h h1) (R1 : MTn E' hi h1) (HQ : ∀ h4, chX E hi g h0 h4 → Q (downF E'.N (goD E' hi n).hi) h4) : p_MO_downs (fun r h2 => p_MO_laysBack (fun h4 => Q r h4) h2) (nI n) h1 := by
  refine MO_downs_spec e' hn R1 (fun h2 f2 => ?_)
  have r83 : rowR 7 (h2.1 83) g := by rw [f2.2.1 83 (by decide), f1.2 83 (by decide)]; exact X.2.2
  exact lays_spec r83 (fun h4 f4 R4 => HQ h4 ⟨frX_tr X.1 (frX_tr (frX_frm f1 (by simp)) (frX_tr (frX_V f2) (frX_frm f4 (by simp)))), R4, by rw [f4.2 83 (by decide)]; exact r83⟩)
theorem MO_link_inner {E : EV} {hi g : Nat → Int32} {n a : Nat} {what : Int32} {Q : Int32 → AH → Prop} {K : Int32 → Int32 → Int32 → Int32 → Int32 → AH → Prop} {h0 : AH} (e : E.ok) (R0 : MTn E hi h0) (G : ∀ k, k < E.N → g k = E.partner k) (hn : n ≤ 24) (ha : a < E.N) : ∀ (cnt b : Nat) (best way : Int32) (h : AH), b + cnt = E.N → chX E hi g h0 h → (∀ h', chX E hi g h0 h' → K (nI n) what (nestI (linkV E hi n a) (code10 a) cnt b best way).2 (nestI (linkV E hi n a) (code10 a) cnt b best way).1 (nI (a + 1)) h') → p_MO_link_50 Q K (cnt + 1) (nI n) what way best (nI a) (nI b) h := by
  intro cnt
  have n7 := e.n7
  induction cnt with
  | zero =>
    intro b best way h hk X HQ
    have hk' : b = E.N := by omega
    subst hk'
    have R := chX_MTn R0 n7 G X
    simp only [p_MO_link_50]
    rw [R.1.n, pT (Int32.le_refl _), nI_1]
    exact HQ h X
  | succ cnt ih =>
    intro b best way h hk X HQ
    have bN : b < E.N := by omega
    obtain ⟨n', hn'⟩ : ∃ n', n' = cnt + 1 := ⟨_, rfl⟩
    rw [← hn']
    rw [← hn'] at ih
    have R := chX_MTn R0 n7 G X
    have P : paOk E.N E.partner := e.partner
    have nxt : ∀ b' w' h2, chX E hi g h0 h2 → nestI (linkV E hi n a) (code10 a) (cnt + 1) b best way = nestI (linkV E hi n a) (code10 a) cnt (b + 1) b' w' → p_MO_link_112 Q K (p_MO_link_50 Q K n') (nI n) what w' (nI a) (nI b) b' h2 := fun b' w' h2 f2 he => by
      unfold p_MO_link_112
      rw [nI_1]
      refine ih (b + 1) b' w' h2 (by omega) f2 (fun h' f' => ?_)
      have H := HQ h' f'
      rwa [he] at H
    simp only [p_MO_link_50]
    rw [R.1.n, pF (fun z => by have := (nI_leN (by omega) (by omega)).mp z; omega)]
    refine links_spec n7 P ha bN R.1.partner (fun h1 f1 R1 => ?_)
    refine chX_downs (E' := withPa E (joinF E.partner a b)) (withPa_ok e (paOk_join P ha bN)) hn X f1 (R.setPa f1 R1) (fun h4 X4 => ?_)
    by_cases c : downF E.N (goD (withPa E (joinF E.partner a b)) hi n).hi ≤ best
    · refine (pT c).mpr ?_
      unfold p_MO_link_97
      exact (pT c).mpr (nxt _ _ h4 X4 (nestI_le rfl c))
    · refine (pF c).mpr ?_
      unfold p_MO_link_97
      exact (pF c).mpr (nxt _ _ h4 X4 (nestI_gt rfl c))
theorem MO_link_outer {E : EV} {hi g : Nat → Int32} {n : Nat} {what : Int32} {Q : Int32 → AH → Prop} {h0 : AH} (e : E.ok) (R0 : MTn E hi h0) (G : ∀ k, k < E.N → g k = E.partner k) (hn : n ≤ 24) : ∀ (cnt a : Nat) (best way : Int32) (h : AH), a + cnt = E.N → chX E hi g h0 h → (∀ h', chX E hi g h0 h' → Q (if what = 0 then (nestO (linkV E hi n) code10 (fun a => a + 1) E.N cnt a best way).2 else (nestO (linkV E hi n) code10 (fun a => a + 1) E.N cnt a best way).1) h') → p_MO_link_35 Q (cnt + 1) (nI n) what way best (nI a) h := by
  intro cnt
  have n7 := e.n7
  induction cnt with
  | zero =>
    intro a best way h hk X HQ
    have hk' : a = E.N := by omega
    subst hk'
    have R := chX_MTn R0 n7 G X
    simp only [p_MO_link_35]
    rw [R.1.n, pT (Int32.le_refl _)]
    have H := HQ h X
    by_cases c : what = 0
    · rw [nT c]; rwa [if_pos c] at H
    · rw [nF c]; rwa [if_neg c] at H
  | succ cnt ih =>
    intro a best way h hk X HQ
    obtain ⟨n', hn'⟩ : ∃ n', n' = cnt + 1 := ⟨_, rfl⟩
    rw [← hn']
    rw [← hn'] at ih
    have R := chX_MTn R0 n7 G X
    simp only [p_MO_link_35]
    rw [R.1.n, pF (fun z => by have := (nI_leN (by omega) (by omega)).mp z; omega), nI_1]
    exact ⟨E.N - (a + 1) + 1, MO_link_inner e R0 G hn (by omega) (E.N - (a + 1)) (a + 1) best way h (by omega) X (fun h' f' => ih (a + 1) _ _ h' (by omega) f' (fun h2 f2 => HQ h2 f2))⟩
theorem chX_0 {E : EV} {hi : Nat → Int32} {h0 h1 h : AH} (f : frV h0 h1) (f1 : frm [83] h1 h) (H : rowR 7 (h.1 83) (fun j => h1.1 65 (nI j))) : chX E hi (fun j => h0.1 65 (nI j)) h0 h := by
  have e : h1.1 65 = h0.1 65 := f.2.1 65 (by decide)
  refine ⟨frX_tr (frX_V f) (frX_frm f1 (by simp)), fun j _ => ?_, fun j hj => ?_⟩
  · rw [f1.2 65 (by decide), e]
  · rw [H j hj, e]
theorem chX_Inv {E : EV} {hi : Nat → Int32} {h0 h : AH} (I : Inv h0) (X : chX E hi (fun j => h0.1 65 (nI j)) h0 h) : Inv h := Inv_X I X.1 (fun j hj => X.2.1 j hj)
theorem both_link {x1 x2 : Int32} {h : AH} (I : Inv h) : p_UF_link (fun r1 h1 => p_MO_link (K2 r1) x1 x2 h1) x1 x2 h := by
  obtain ⟨E, hi, T⟩ := Tn_of I
  unfold p_UF_link
  rw [UF_isSpan_iff]
  by_cases c1 : 0 ≤ x1 ∧ x1 ≤ 24
  · rw [b01_t c1]
    refine (pF (by decide)).mpr ?_
    rw [UF_within_iff]
    by_cases c3 : 0 ≤ x2 ∧ x2 ≤ 1
    · rw [b01_t c3]
      refine (nF (by decide)).mpr ?_
      obtain ⟨n, hn, rfl⟩ := spanN.mp c1
      refine UF_ready_spec T.1 T.2.2.1 (fun h1 f1 R1 M1 => ?_)
      refine UF_downs_spec T.1 hn R1 M1 T.hiOk (fun h2 f2 => ⟨E.N + 1, ?_⟩)
      refine UF_link_outer T hn E.N 0 _ (-1) h2 (by omega) (frR_tr f1 f2) (fun h3 f3 => ?_)
      have T3 := Tn_I (frI_R f3) T
      have I3 := Inv_I (frI_R f3) I
      show p_MO_link (K2 _) _ _ _
      unfold p_MO_link
      rw [MO_isMany_iff, b01_t c1]
      refine (pF (by decide)).mpr ?_
      rw [MO_in_iff, b01_t c3]
      refine (nF (by decide)).mpr ?_
      refine MO_downs_spec T.1 hn T3.2.2.2 (fun h4 f4 => ?_)
      refine keeps_spec (fun h5 f5 R5 => ⟨E.N + 1, ?_⟩)
      have X := chX_0 (E := E) (hi := hi) f4 f5 R5
      exact MO_link_outer T.1 T3.2.2.2 (fun k hk => T3.2.2.2.1.partner k hk) hn E.N 0 _ (-1) h5 (by omega) X (fun h6 X6 => ⟨rfl, chX_Inv I3 X6⟩)
    · rw [b01_f c3]
      refine (nT rfl).mpr ?_
      show p_MO_link (K2 _) _ _ _
      unfold p_MO_link
      rw [MO_isMany_iff, b01_t c1]
      refine (pF (by decide)).mpr ?_
      rw [MO_in_iff, b01_f c3]
      exact (nT rfl).mpr ⟨rfl, I⟩
  · rw [b01_f c1]
    refine (pT rfl).mpr ?_
    show p_MO_link (K2 _) _ _ _
    unfold p_MO_link
    rw [MO_isMany_iff, b01_f c1]
    exact (pT rfl).mpr ⟨rfl, I⟩
