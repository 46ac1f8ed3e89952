/-! pure: taken -/
theorem mod7 {m : Nat} (hm : m ≤ 13) : nI m - nI m / 7 * 7 = nI (m % 7) := by
  have h : m = 0 ∨ m = 1 ∨ m = 2 ∨ m = 3 ∨ m = 4 ∨ m = 5 ∨ m = 6 ∨ m = 7 ∨ m = 8 ∨ m = 9 ∨ m = 10 ∨ m = 11 ∨ m = 12 ∨ m = 13 := by omega
  rcases h with rfl | rfl | rfl | rfl | rfl | rfl | rfl | rfl | rfl | rfl | rfl | rfl | rfl | rfl <;> decide
theorem nI_sub7 {m : Nat} (hm : 7 ≤ m) : nI m - 7 = nI (m - 7) := by
  have : m = (m - 7) + 7 := by omega
  rw [this, ← nI_add, show (7 : Int32) = nI 7 from rfl, Int32.add_sub_cancel, Nat.add_sub_cancel]
theorem both_taken {x1 x2 : Int32} {h : AH} (I : Inv h) : p_UF_taken (fun r1 h1 => p_MO_taken (K2 r1) x1 x2 h1) x1 x2 h := by
  obtain ⟨E, hi, T⟩ := Tn_of I
  have n7 := T.1.n7
  unfold p_UF_taken
  rw [UF_within_iff]
  by_cases c1 : 0 ≤ x2 ∧ x2 ≤ 6
  · rw [b01_t c1]
    refine (nF (by decide)).mpr ?_
    rw [UF_within_iff]
    by_cases c2 : 0 ≤ x1 ∧ x1 ≤ 13
    · rw [b01_t c2]
      refine (nF (by decide)).mpr ?_
      obtain ⟨p, hp, rfl⟩ := (upto (n := 6) (by decide)).mp c1
      obtain ⟨m, hm, rfl⟩ := (upto (n := 13) (by decide)).mp c2
      rw [mod7 hm]
      have mo : ∀ v, (7 ≤ m → (E.N ≤ m - 7 → v = -11) ∧ (m - 7 < E.N → (E.people (m - 7) = 0 → v = -11) ∧ (¬ E.people (m - 7) = 0 → (p = 6 → v = E.people (m - 7)) ∧ (¬ p = 6 → v = -13)))) → (m < 7 → (E.N ≤ m → v = -11) ∧ (m < E.N → v = if kO (kindC (E.kind m)) (nI p) = 0 then -13 else nI m)) → p_MO_taken (K2 v) (nI m) (nI p) h := fun v v1 v2 => by
        unfold p_MO_taken
        rw [MO_in_iff, b01_t c1]
        refine (nF (by decide)).mpr ?_
        rw [MO_in_iff, b01_t c2]
        refine (nF (by decide)).mpr ?_
        rw [T.2.2.2.1.n]
        by_cases m7 : 7 ≤ m
        · have w := v1 m7
          have c7 : (7 : Int32) ≤ nI m := (nI_leN (a := 7) (by decide) (by omega)).mpr m7
          rw [pT c7, nI_sub7 m7]
          by_cases mn : E.N ≤ m - 7
          · rw [pT ((nI_leN (by omega) (by omega)).mpr mn)]
            unfold p_MO_taken_98 p_MO_taken_99
            exact (nT rfl).mpr ⟨w.1 mn, I⟩
          · have hk : m - 7 < E.N := by omega
            rw [pF (fun z => mn ((nI_leN (by omega) (by omega)).mp z)), T.2.2.2.1.people _ hk]
            refine ⟨inb_nI (by omega) (by omega), ?_⟩
            have w2 := w.2 hk
            have pe := (T.2.1 _ hk).2.1.1
            by_cases cp : E.people (m - 7) = 0
            · have cp' : E.people (m - 7) ≤ 0 := by rw [cp]; exact Int32.le_refl _
              rw [pT cp']
              unfold p_MO_taken_98 p_MO_taken_99
              exact (nT rfl).mpr ⟨w2.1 cp, I⟩
            · have cp' : ¬ E.people (m - 7) ≤ 0 := fun z => cp (Int32.toInt_inj.mp (by rw [Int32.le_iff_toInt_le, Int32.toInt_zero] at z; rw [Int32.toInt_zero]; omega))
              rw [pF cp']
              unfold p_MO_taken_99
              refine (nF (by decide)).mpr ?_
              rw [nI_sub7 m7, T.2.2.2.1.people _ hk]
              by_cases p6 : p = 6
              · subst p6
                exact (nT rfl).mpr ⟨inb_nI (by omega) (by omega), (w2.2 cp).1 rfl, I⟩
              · have p6' : ¬ nI p = 6 := fun z => p6 ((nI_inj (b := 6) (by omega) (by decide)).mp z)
                exact (nF p6').mpr ⟨(w2.2 cp).2 p6, I⟩
        · have w := v2 (by omega)
          have c7 : ¬ (7 : Int32) ≤ nI m := fun z => m7 ((nI_leN (a := 7) (by decide) (by omega)).mp z)
          rw [pF c7]
          by_cases mn : m < E.N
          · have w2 := w.2 mn
            rw [pT ((nI_ltI (by omega) (by omega)).mpr mn), T.2.2.2.1.kind m mn]
            by_cases p6 : p = 6
            · have c6 : (6 : Int32) ≤ nI p := (nI_leN (a := 6) (by decide) (by omega)).mpr (by omega)
              rw [pT c6]
              rw [(kO_iff (T.1.kind m mn) hp (Q := fun _ _ => True) (h := h)).2 p6, if_pos rfl] at w2
              exact ⟨w2, I⟩
            · have c6 : ¬ (6 : Int32) ≤ nI p := fun z => by have := (nI_leN (a := 6) (by decide) (by omega)).mp z; omega
              rw [pF c6]
              refine ⟨inb_nI (by omega) (by omega), ?_⟩
              rw [(kO_iff (T.1.kind m mn) hp).1 p6]
              by_cases ck : kO (kindC (E.kind m)) (nI p) = 0
              · rw [if_pos ck] at w2
                exact (pT ck).mpr ⟨w2, I⟩
              · rw [if_neg ck] at w2
                exact (pF ck).mpr ⟨w2, I⟩
          · rw [pF (fun z => mn ((nI_ltI (by omega) (by omega)).mp z))]
            exact ⟨w.1 (by omega), I⟩
      have hsC : ∀ j, j < 7 → ((0 ≤ nI j ∧ nI j ≤ h.1 5 3 - 1) ↔ j < E.N) := fun j hj => by
        rw [houseC T]
        constructor
        · rintro ⟨k, hk, e⟩; have := (nI_inj (by omega) (by omega)).mp e; omega
        · intro z; exact ⟨j, z, rfl⟩
      by_cases m7 : 7 ≤ m
      · have c7 : ¬ nI m < 7 := fun z => by have := (nI_ltI (b := 7) (by omega) (by decide)).mp z; omega
        have em : m % 7 = m - 7 := by omega
        rw [pF c7, em]
        unfold p_UF_taken_42
        rw [UF_isHouse_iff]
        by_cases mn : m - 7 < E.N
        · rw [b01_t ((hsC (m - 7) (by omega)).mpr mn)]
          have ik : inb (nI (m - 7)) 7 := inb_nI (by omega) (by omega)
          refine (pF (by decide)).mpr ((pF (by decide)).mpr ⟨ik, ?_⟩)
          rw [T.2.2.1.2.2.1 _ mn]
          by_cases cp : E.people (m - 7) = 0
          · rw [nT cp]
            exact mo _ (fun _ => ⟨fun z => absurd z (by omega), fun _ => ⟨fun _ => rfl, fun z => absurd cp z⟩⟩) (fun z => absurd z (by omega))
          · rw [nF cp]
            unfold p_UF_taken_72
            refine (pF (by decide)).mpr ?_
            rw [T.2.2.1.2.2.1 _ mn]
            by_cases p6 : p = 6
            · subst p6
              refine (nT rfl).mpr ⟨ik, ?_⟩
              exact mo _ (fun _ => ⟨fun z => absurd z (by omega), fun _ => ⟨fun z => absurd z cp, fun _ => ⟨fun _ => rfl, fun z => absurd rfl z⟩⟩⟩) (fun z => absurd z (by omega))
            · have p6' : ¬ nI p = 6 := fun z => p6 ((nI_inj (b := 6) (by omega) (by decide)).mp z)
              refine (nF p6').mpr ?_
              exact mo _ (fun _ => ⟨fun z => absurd z (by omega), fun _ => ⟨fun z => absurd z cp, fun _ => ⟨fun z => absurd z p6, fun _ => rfl⟩⟩⟩) (fun z => absurd z (by omega))
        · rw [b01_f (fun z => mn ((hsC (m - 7) (by omega)).mp z))]
          refine (pT rfl).mpr ?_
          exact mo _ (fun _ => ⟨fun _ => rfl, fun z => absurd z mn⟩) (fun z => absurd z (by omega))
      · have c7 : nI m < 7 := (nI_ltI (b := 7) (by omega) (by decide)).mpr (by omega)
        have em : m % 7 = m := by omega
        rw [pT c7, em]
        unfold p_UF_taken_42
        rw [UF_isHouse_iff]
        by_cases mn : m < E.N
        · rw [b01_t ((hsC m (by omega)).mpr mn)]
          refine (pF (by decide)).mpr ((pT rfl).mpr ?_)
          unfold p_UF_taken_72
          refine (pT rfl).mpr ?_
          rw [nI_clamp (by omega)]
          obtain ⟨q1, q2, q3, q4, q5⟩ := T.2.2.1.2.2.2.2.2.1 m mn
          refine ⟨inb_nI (by omega) (by omega), (T.2.2.1.2.2.2.2.1 m (by omega)).1, q1, ?_⟩
          rw [q2]
          by_cases ck : kO (kindC (E.kind m)) (nI p) = 0
          · refine (pT ck).mpr ?_
            exact mo _ (fun z => absurd z m7) (fun _ => ⟨fun z => absurd z (by omega), fun _ => by rw [if_pos ck]⟩)
          · refine (pF ck).mpr ?_
            exact mo _ (fun z => absurd z m7) (fun _ => ⟨fun z => absurd z (by omega), fun _ => by rw [if_neg ck]⟩)
        · rw [b01_f (fun z => mn ((hsC m (by omega)).mp z))]
          refine (pT rfl).mpr ?_
          exact mo _ (fun z => absurd z m7) (fun _ => ⟨fun _ => rfl, fun z => absurd z mn⟩)
    · rw [b01_f c2]
      refine (nT rfl).mpr ?_
      show p_MO_taken (K2 _) _ _ _
      unfold p_MO_taken
      rw [MO_in_iff, b01_t c1]
      refine (nF (by decide)).mpr ?_
      rw [MO_in_iff, b01_f c2]
      exact (nT rfl).mpr ⟨rfl, I⟩
  · rw [b01_f c1]
    refine (nT rfl).mpr ?_
    show p_MO_taken (K2 _) _ _ _
    unfold p_MO_taken
    rw [MO_in_iff, b01_f c1]
    exact (nT rfl).mpr ⟨rfl, I⟩
