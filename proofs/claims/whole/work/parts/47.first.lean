/-! pure: first -/
abbrev firstP (what : Int32) (v b w : Int32) : Prop := ¬ v = -1 ∧ (w = -1 ∨ if what = 0 then v < b else b < v)
def firstL (W : Nat → Int32) (what : Int32) : Nat → Nat → Int32 → Int32 → Int32
  | 0, _, _, w => w
  | c + 1, k, b, w => if firstP what (W k) b w then firstL W what c (k + 1) (W k) (nI k) else firstL W what c (k + 1) b w
theorem UF_first_loop {E : EV} {hi : Nat → Int32} {what : Int32} {Q : Int32 → AH → Prop} {h0 : AH} (T0 : Tn E hi h0) : ∀ (cnt k : Nat) (b w : Int32) (h : AH), k + cnt = E.N → frR h0 h → (∀ h', frR h0 h' → Q (firstL (fun k => whenN E (bornF hi) k 25 0) what cnt k b w) h') → p_UF_first_19 Q (cnt + 1) what b w (nI k) h := by
  intro cnt
  have n7 := T0.1.n7
  induction cnt with
  | zero =>
    intro k b w h hk f HQ
    have hk' : k = E.N := by omega
    subst hk'
    have T := Tn_I (frI_R f) T0
    simp only [p_UF_first_19]
    rw [T.2.2.1.1, pT (Int32.le_refl _)]
    exact HQ h f
  | succ cnt ih =>
    intro k b w h hk f HQ
    have kN : k < E.N := by omega
    obtain ⟨n', hn'⟩ : ∃ n', n' = cnt + 1 := ⟨_, rfl⟩
    rw [← hn']
    rw [← hn'] at ih
    have T := Tn_I (frI_R f) T0
    simp only [p_UF_first_19]
    rw [T.2.2.1.1, pF (fun z => by have := (nI_leN (by omega) (by omega)).mp z; omega)]
    refine UF_ready_spec T.1 T.2.2.1 (fun h1 f1 R1 M1 => ?_)
    refine Dusk_firstDown_spec T.1 kN T.hiOk R1 M1 (fun h2 f2 => ?_)
    have f02 : frR h0 h2 := frR_tr f (frR_tr f1 (frR_SC f2))
    obtain ⟨v, hv⟩ : ∃ v, v = whenN E (bornF hi) k 25 0 := ⟨_, rfl⟩
    rw [← hv]
    have yes : firstP what v b w → p_UF_first_94 Q (p_UF_first_19 Q n') what v (nI k) (nI k) h2 := fun hp => by
      unfold p_UF_first_94; rw [nI_1]
      refine ih (k + 1) _ _ h2 (by omega) f02 (fun h' f' => ?_)
      have H := HQ h' f'
      unfold firstL at H
      rw [← hv] at H
      rwa [if_pos hp] at H
    have no : ¬ firstP what v b w → p_UF_first_94 Q (p_UF_first_19 Q n') what b w (nI k) h2 := fun hp => by
      unfold p_UF_first_94; rw [nI_1]
      refine ih (k + 1) _ _ h2 (by omega) f02 (fun h' f' => ?_)
      have H := HQ h' f'
      unfold firstL at H
      rw [← hv] at H
      rwa [if_neg hp] at H
    have s70 : (w = -1 ∨ if what = 0 then v < b else b < v) → p_UF_first_70 Q (p_UF_first_19 Q n') what b w (nI k) v h2 := fun hb => by
      unfold p_UF_first_70 p_UF_first_75
      by_cases c : v = -1
      · rw [pT c]; exact no (fun z => z.1 c)
      · rw [pF c]; exact (pF (by decide)).mpr (yes ⟨c, hb⟩)
    have s74 : ¬ (w = -1 ∨ if what = 0 then v < b else b < v) → p_UF_first_74 Q (p_UF_first_19 Q n') what b w (nI k) v h2 := fun hb => by
      unfold p_UF_first_74 p_UF_first_75
      by_cases c : v = -1
      · rw [pT c]; exact no (fun z => hb z.2)
      · rw [pF c]; exact (pT rfl).mpr (no (fun z => hb z.2))
    by_cases c1 : w = -1
    · exact (pT c1).mpr (s70 (Or.inl c1))
    · refine (pF c1).mpr ?_
      by_cases c2 : what = 0
      · refine (nT c2).mpr ?_
        by_cases c3 : b ≤ v
        · exact (pT c3).mpr (s74 (fun z => z.elim c1 (fun z => by rw [if_pos c2] at z; exact absurd c3 (Int32.not_le.mpr z))))
        · exact (pF c3).mpr (s70 (Or.inr (by rw [if_pos c2]; exact Int32.not_le.mp c3)))
      · refine (nF c2).mpr ?_
        by_cases c3 : v ≤ b
        · exact (pT c3).mpr (s74 (fun z => z.elim c1 (fun z => by rw [if_neg c2] at z; exact absurd c3 (Int32.not_le.mpr z))))
        · exact (pF c3).mpr (s70 (Or.inr (by rw [if_neg c2]; exact Int32.not_le.mp c3)))
theorem MO_first_loop {E : EV} {hi : Nat → Int32} {what : Int32} {Q : Int32 → AH → Prop} {h0 : AH} (e : E.ok) (R0 : MTn E hi h0) : ∀ (cnt k : Nat) (b w : Int32) (h : AH), k + cnt = E.N → frV h0 h → (∀ h', frV h0 h' → Q (firstL (fun k => whenN E (bornF hi) k 25 0) what cnt k b w) h') → p_MO_first_19 Q (cnt + 1) what w b (nI k) h := by
  intro cnt
  have n7 := e.n7
  induction cnt with
  | zero =>
    intro k b w h hk f HQ
    have hk' : k = E.N := by omega
    subst hk'
    have R : MTn E hi h := MTn_I (frI_V f) R0
    simp only [p_MO_first_19]
    rw [R.1.n, pT (Int32.le_refl _)]
    exact HQ h f
  | succ cnt ih =>
    intro k b w h hk f HQ
    have kN : k < E.N := by omega
    obtain ⟨n', hn'⟩ : ∃ n', n' = cnt + 1 := ⟨_, rfl⟩
    rw [← hn']
    rw [← hn'] at ih
    have R : MTn E hi h := MTn_I (frI_V f) R0
    simp only [p_MO_first_19]
    rw [R.1.n, pF (fun z => by have := (nI_leN (by omega) (by omega)).mp z; omega)]
    refine MO_whenOf_spec e kN R.1 R.2 (fun h2 f2 => ?_)
    have f02 : frV h0 h2 := frV_tr f f2
    obtain ⟨v, hv⟩ : ∃ v, v = whenN E (bornF hi) k 25 0 := ⟨_, rfl⟩
    rw [← hv]
    have yes : firstP what v b w → p_MO_first_102 Q (p_MO_first_19 Q n') what (nI k) (nI k) v h2 := fun hp => by
      unfold p_MO_first_102; rw [nI_1]
      refine ih (k + 1) _ _ h2 (by omega) f02 (fun h' f' => ?_)
      have H := HQ h' f'
      unfold firstL at H
      rw [← hv] at H
      rwa [if_pos hp] at H
    have no : ¬ firstP what v b w → p_MO_first_102 Q (p_MO_first_19 Q n') what w (nI k) b h2 := fun hp => by
      unfold p_MO_first_102; rw [nI_1]
      refine ih (k + 1) _ _ h2 (by omega) f02 (fun h' f' => ?_)
      have H := HQ h' f'
      unfold firstL at H
      rw [← hv] at H
      rwa [if_neg hp] at H
    have s60 : (w = -1 ∨ if what = 0 then v < b else b < v) → p_MO_first_60 Q (p_MO_first_19 Q n') what w b (nI k) v h2 := fun hb => by
      unfold p_MO_first_60 p_MO_first_65
      by_cases c : v = -1
      · rw [pT c]; unfold p_MO_first_83 p_MO_first_84; rw [pT c]; exact no (fun z => z.1 c)
      · rw [pF c]; refine (pF (by decide)).mpr ?_
        unfold p_MO_first_84; rw [pF c]; exact (pF (by decide)).mpr (yes ⟨c, hb⟩)
    have s64 : ¬ (w = -1 ∨ if what = 0 then v < b else b < v) → p_MO_first_64 Q (p_MO_first_19 Q n') what w b (nI k) v h2 := fun hb => by
      have n2 : ¬ firstP what v b w := fun z => hb z.2
      unfold p_MO_first_64 p_MO_first_65
      by_cases c : v = -1
      · rw [pT c]; unfold p_MO_first_83 p_MO_first_84; rw [pT c]; exact no n2
      · rw [pF c]; refine (pT rfl).mpr ?_
        unfold p_MO_first_83 p_MO_first_84; rw [pF c]; exact (pT rfl).mpr (no n2)
    by_cases c1 : w = -1
    · exact (pT c1).mpr (s60 (Or.inl c1))
    · refine (pF c1).mpr ?_
      by_cases c2 : what = 0
      · refine (nT c2).mpr ?_
        by_cases c3 : b ≤ v
        · exact (pT c3).mpr (s64 (fun z => z.elim c1 (fun z => by rw [if_pos c2] at z; exact absurd c3 (Int32.not_le.mpr z))))
        · exact (pF c3).mpr (s60 (Or.inr (by rw [if_pos c2]; exact Int32.not_le.mp c3)))
      · refine (nF c2).mpr ?_
        by_cases c3 : v ≤ b
        · exact (pT c3).mpr (s64 (fun z => z.elim c1 (fun z => by rw [if_neg c2] at z; exact absurd c3 (Int32.not_le.mpr z))))
        · exact (pF c3).mpr (s60 (Or.inr (by rw [if_neg c2]; exact Int32.not_le.mp c3)))
theorem both_first {x : Int32} {h : AH} (I : Inv h) : p_UF_first (fun r1 h1 => p_MO_first (K2 r1) x h1) x h := by
  obtain ⟨E, hi, T⟩ := Tn_of I
  unfold p_UF_first
  rw [UF_within_iff]
  by_cases c1 : 0 ≤ x ∧ x ≤ 1
  · rw [b01_t c1]
    refine (nF (by decide)).mpr ?_
    refine ⟨E.N + 1, UF_first_loop T E.N 0 (-1) (-1) h (by omega) frR_rf (fun h1 f1 => ?_)⟩
    have T1' := Tn_I (frI_R f1) T
    show p_MO_first (K2 _) _ _
    unfold p_MO_first
    rw [MO_in_iff, b01_t c1]
    refine (nF (by decide)).mpr ⟨E.N + 1, ?_⟩
    exact MO_first_loop T.1 T1'.2.2.2 E.N 0 (-1) (-1) h1 (by omega) frV_rf (fun h2 f2 => ⟨rfl, Inv_I (frI_tr (frI_R f1) (frI_V f2)) I⟩)
  · rw [b01_f c1]
    refine (nT rfl).mpr ?_
    show p_MO_first (K2 _) _ _
    unfold p_MO_first
    rw [MO_in_iff, b01_f c1]
    exact (nT rfl).mpr ⟨rfl, I⟩
