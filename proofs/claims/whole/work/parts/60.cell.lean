/-! pure: cell -/
theorem has_iff {s n : Nat} {x : Int32} {Q : Int32 → AH → Prop} {h : AH} (hs : s < 4) (hn : n ≤ 40) (h2 : h.1 (51 + 2 * s) 2 = nI n) : p_Sheet_has Q (51 + 2 * s) x h ↔ Q (b01 (0 ≤ x ∧ x ≤ nI n - 1)) h := by
  obtain ⟨t1, t2, t3, t4, t5, t6⟩ := sheetT hs h
  have en : (nI n).toInt = n := nI_toInt (by omega)
  unfold p_Sheet_has
  rw [h2]
  by_cases c0 : x < 0
  · rw [pT c0, b01_f (fun z => absurd z.1 (Int32.not_le.mpr c0))]
  · rw [pF c0]
    have c0' : 0 ≤ x := Int32.not_lt.mp c0
    have key : (0 ≤ x ∧ x ≤ nI n - 1) ↔ ¬ nI n ≤ x := by
      rw [in_of (by rw [en]; omega), Int32.le_iff_toInt_le]
      rw [Int32.le_iff_toInt_le, Int32.toInt_zero] at c0'
      omega
    by_cases c1 : nI n ≤ x
    · rw [pT c1, b01_f (fun z => (key.mp z) c1)]
      exact ⟨fun z => z.2.2, fun z => ⟨t2, t3, z⟩⟩
    · have c2 : ¬ (40 : Int32) ≤ x := fun z => c1 (by
        have e40 : (40 : Int32).toInt = 40 := by decide
        rw [Int32.le_iff_toInt_le, e40] at z; rw [Int32.le_iff_toInt_le, en]; omega)
      rw [pF c1, pF c2, b01_t (key.mpr c1)]
      exact ⟨fun z => z.2.2, fun z => ⟨t2, t3, z⟩⟩
def wide (so x : Int32) : Int32 := if so = 0 then x.toInt8.toInt32 else if so = 1 then x.toInt16.toInt32 else x
theorem write_spec {s n i : Nat} {x : Int32} {Q : AH → Prop} {h : AH} (hs : s < 4) (hn : n ≤ 40) (hi : i < n) (h2 : h.1 (51 + 2 * s) 2 = nI n) (HQ : Q (wI h (52 + 2 * s) (nI i) (wide (h.1 (51 + 2 * s) 1) x))) : p_Sheet_write Q (51 + 2 * s) (nI i) x h := by
  obtain ⟨t1, t2, t3, t4, t5, t6⟩ := sheetT hs h
  have ii : inb (nI i) 40 := inb_nI (by omega) (by omega)
  have c : 0 ≤ nI i ∧ nI i ≤ nI n - 1 := by
    rw [in_of (by rw [nI_toInt (by omega)]; omega), nI_toInt (by omega), nI_toInt (by omega)]; omega
  refine ⟨t2, t3, ?_⟩
  rw [has_iff hs hn h2, b01_t c]
  refine (nF (by decide)).mpr ⟨t2, t3, ?_⟩
  rw [t4, Nat.add_sub_cancel, t6]
  unfold wide at HQ
  by_cases c0 : h.1 (51 + 2 * s) 1 = 0
  · rw [if_pos c0] at HQ
    exact (nT c0).mpr ⟨Nat.succ_pos _, t5, rfl, ii, HQ⟩
  · rw [if_neg c0] at HQ
    refine (nF c0).mpr ?_
    by_cases c1 : h.1 (51 + 2 * s) 1 = 1
    · rw [if_pos c1] at HQ
      exact (nT c1).mpr ⟨Nat.succ_pos _, t5, rfl, ii, HQ⟩
    · rw [if_neg c1] at HQ
      exact (nF c1).mpr ⟨Nat.succ_pos _, t5, rfl, ii, HQ⟩
theorem SSh_of {s : Nat} (hs : s < 4) : 51 + 2 * s ∈ SSh ∧ 52 + 2 * s ∈ SSh := by
  have h4 : s = 0 ∨ s = 1 ∨ s = 2 ∨ s = 3 := by omega
  rcases h4 with rfl | rfl | rfl | rfl <;> decide
theorem Sh_cell {s i : Nat} {v : Int32} {h : AH} (hs : s < 4) (hi : i < 40) (S : Sh h) : Sh (wI (wI h (52 + 2 * s) (nI i) v) 72 (nI (40 * s + i)) v) := fun u hu => by
  obtain ⟨s1, s2, s3, s4⟩ := S u hu
  have g : ∀ b, ¬ b = 52 + 2 * s → ¬ b = 72 → (wI (wI h (52 + 2 * s) (nI i) v) 72 (nI (40 * s + i)) v).1 b = h.1 b := fun b b1 b2 => by
    rw [wI_r, if_neg b2, wI_r, if_neg b1]
  have r72 : (wI (wI h (52 + 2 * s) (nI i) v) 72 (nI (40 * s + i)) v).1 72 = up (h.1 72) (nI (40 * s + i)) v := by
    rw [wI_r, if_pos rfl, wI_r, if_neg (by omega)]
  rw [g (51 + 2 * u) (by omega) (by omega), g 70 (by omega) (by omega), g 71 (by omega) (by omega), r72]
  refine ⟨s1, s2, s3, fun j hj => ?_⟩
  rw [wI_r, if_neg (show ¬ 52 + 2 * u = 72 by omega), wI_r, up_a]
  by_cases e : u = s
  · subst e
    rw [if_pos rfl, up_a]
    by_cases ej : j = i
    · subst ej; rw [if_pos rfl, if_pos rfl]
    · rw [if_neg (fun z => ej ((nI_inj (by omega) (by omega)).mp z)), if_neg (fun z => ej (by have := (nI_inj (by omega) (by omega)).mp z; omega))]
      exact s4 j hj
  · rw [if_neg (by omega), if_neg (fun z => by have := (nI_inj (by omega) (by omega)).mp z; omega)]
    exact s4 j hj
theorem both_cell {x1 x2 x3 : Int32} {h : AH} (I : Inv h) : p_UF_cell (fun r1 h1 => p_MO_cell (K2 r1) x1 x2 x3 h1) x1 x2 x3 h := by
  have S := Inv_Sh I
  unfold p_UF_cell
  rw [UF_isSheet_iff]
  by_cases c1 : 0 ≤ x1 ∧ x1 ≤ 3
  · rw [b01_t c1]
    refine (nF (by decide)).mpr ?_
    obtain ⟨s, hs, rfl⟩ := sheetN.mp c1
    obtain ⟨t1, t2, t3, t4, t5, t6⟩ := sheetT hs h
    obtain ⟨s1, s2, ⟨n, hn, s3, s4⟩, s5⟩ := S s hs
    have is : inb (nI s) 4 := inb_nI hs (by omega)
    rw [nI_clamp (by omega), t1, Nat.add_sub_cancel]
    refine ⟨is, Nat.succ_pos _, t2, t3, ?_⟩
    by_cases c2 : h.1 (51 + 2 * s) 1 = -1
    · refine (nT c2).mpr ?_
      show p_MO_cell (K2 _) _ _ _ _
      unfold p_MO_cell
      rw [MO_in_iff, b01_t c1]
      exact (nF (by decide)).mpr ⟨is, (nT (s1.symm.trans c2)).mpr ⟨rfl, I⟩⟩
    · have c2' : ¬ h.1 70 (nI s) = -1 := fun z => c2 (s1.trans z)
      refine (nF c2).mpr ?_
      rw [has_iff hs hn s3]
      by_cases c3 : 0 ≤ x2 ∧ x2 ≤ nI n - 1
      · rw [b01_t c3]
        refine (nF (by decide)).mpr ⟨is, ?_⟩
        have hx : ∃ i, i < n ∧ x2 = nI i := by
          have c3' := (in_of (n := nI n) (by rw [nI_toInt (by omega)]; omega)).mp c3
          rw [nI_toInt (by omega)] at c3'
          exact ⟨x2.toInt.toNat, by omega, nI_ofT c3'.1⟩
        obtain ⟨i, hi, rfl⟩ := hx
        rw [t1, Nat.add_sub_cancel]
        refine ⟨Nat.succ_pos _, t2, t3, write_spec hs hn hi s3 ?_⟩
        obtain ⟨v, hv⟩ : ∃ v, v = wide (h.1 (51 + 2 * s) 1) x3 := ⟨_, rfl⟩
        rw [← hv]
        have g : ∀ b, ¬ b = 52 + 2 * s → (wI h (52 + 2 * s) (nI i) v).1 b = h.1 b := fun b b1 => by rw [wI_r, if_neg b1]
        show p_MO_cell (K2 _) _ _ _ _
        unfold p_MO_cell
        rw [MO_in_iff, b01_t c1]
        refine (nF (by decide)).mpr ⟨is, ?_⟩
        rw [g 70 (by omega), g 71 (by omega), s4]
        refine (nF c2').mpr ?_
        rw [MO_in_iff, b01_t c3]
        refine (nF (by decide)).mpr ⟨is, ?_⟩
        rw [nI_40, g 70 (by omega)]
        have ic : inb (nI (40 * s + i)) 160 := inb_nI (by omega) (by omega)
        have fin : Inv (wI (wI h (52 + 2 * s) (nI i) v) 72 (nI (40 * s + i)) v) :=
          Inv_sheets I (frm_w (frm_w frm_rf (SSh_of hs).2) (by decide)) (Sh_cell hs (by omega) S)
        have fin2 : ∀ w, w = v → K2 1 1 (wI (wI h (52 + 2 * s) (nI i) v) 72 (nI (40 * s + i)) w) := fun w e => ⟨rfl, by rw [e]; exact fin⟩
        rw [s1] at hv
        unfold wide at hv
        by_cases d0 : h.1 70 (nI s) = 0
        · rw [if_pos d0] at hv
          exact (nT d0).mpr ⟨ic, fin2 _ hv.symm⟩
        · rw [if_neg d0] at hv
          refine (nF d0).mpr ?_
          by_cases d1 : h.1 70 (nI s) = 1
          · rw [if_pos d1] at hv
            exact (nT d1).mpr ⟨ic, fin2 _ hv.symm⟩
          · rw [if_neg d1] at hv
            exact (nF d1).mpr ⟨ic, fin2 _ hv.symm⟩
      · rw [b01_f c3]
        refine (nT rfl).mpr ?_
        show p_MO_cell (K2 _) _ _ _ _
        unfold p_MO_cell
        rw [MO_in_iff, b01_t c1]
        refine (nF (by decide)).mpr ⟨is, ?_⟩
        rw [s4]
        refine (nF c2').mpr ?_
        rw [MO_in_iff, b01_f c3]
        exact (nT rfl).mpr ⟨rfl, I⟩
  · rw [b01_f c1]
    refine (nT rfl).mpr ?_
    show p_MO_cell (K2 _) _ _ _ _
    unfold p_MO_cell
    rw [MO_in_iff, b01_f c1]
    exact (nT rfl).mpr ⟨rfl, I⟩
