/-! pure: set, night, dawn, force, count -/
theorem frT_R {h h' : AH} (f : frR h h') : frT h h' := frT_I (frI_R f)
theorem frT_V {h h' : AH} (f : frV h h') : frT h h' := frT_I (frI_V f)
theorem rowR_id {N : Nat} {f : Int32 → Int32} {g : Nat → Int32} {k : Int32} (H : rowR N f g) : rowR N (up f k (f k)) g := by rw [up_id rfl]; exact H
theorem rng_hi {N k : Nat} {hi pe pa : Nat → Int32} {v : Int32} (g : rng N hi pe pa) (hv : 0 ≤ v.toInt ∧ v.toInt ≤ 9) : rng N (upN hi k v) pe pa := fun j hj => ⟨by
  by_cases e : j = k
  · subst e; rw [upN_s]; exact hv
  · rw [upN_n e]; exact (g j hj).1, (g j hj).2⟩
theorem rng_pe {N k : Nat} {hi pe pa : Nat → Int32} {v : Int32} (g : rng N hi pe pa) (hv : 0 ≤ v.toInt ∧ v.toInt ≤ 20) : rng N hi (upN pe k v) pa := fun j hj => ⟨(g j hj).1, by
  by_cases e : j = k
  · subst e; rw [upN_s]; exact hv
  · rw [upN_n e]; exact (g j hj).2.1, (g j hj).2.2⟩
theorem rg {v m : Int32} {n : Nat} (hm : m.toInt = n) (h : 0 ≤ v ∧ v ≤ m) : 0 ≤ v.toInt ∧ v.toInt ≤ n := by
  rw [Int32.le_iff_toInt_le, Int32.le_iff_toInt_le, Int32.toInt_zero, hm] at h; exact h
theorem MO_set_bad {x1 x2 x3 v : Int32} {h : AH} {E : EV} {hi : Nat → Int32} (I : Inv h) (T : Tn E hi h) (hv : v = -7) (c1 : 0 ≤ x1 ∧ x1 ≤ h.1 59 0 - 1) (hb : ¬ ((x2 = 0 ∧ 0 ≤ x3 ∧ x3 ≤ 9) ∨ (x2 = 1 ∧ 0 ≤ x3 ∧ x3 ≤ 20))) : p_MO_set (K2 v) x1 x2 x3 h := by
  unfold p_MO_set
  rw [MO_isHouse_iff, b01_t c1]
  refine (nF (by decide)).mpr ?_
  rw [MO_in_iff]
  by_cases c2 : 0 ≤ x2 ∧ x2 ≤ 1
  · rw [b01_t c2]
    refine (pF (by decide)).mpr ?_
    obtain ⟨p, hp, rfl⟩ := (upto (n := 1) (by decide)).mp c2
    have hp2 : p = 0 ∨ p = 1 := by omega
    rcases hp2 with rfl | rfl
    · refine (nT rfl).mpr ?_
      unfold p_MO_set_33
      rw [MO_in_iff, b01_f (fun z => hb (Or.inl ⟨rfl, z⟩))]
      exact (nT rfl).mpr ⟨hv, I⟩
    · refine (nF (by decide)).mpr ?_
      unfold p_MO_set_33
      rw [MO_in_iff, b01_f (fun z => hb (Or.inr ⟨rfl, z⟩))]
      exact (nT rfl).mpr ⟨hv, I⟩
  · rw [b01_f c2]
    exact (pT rfl).mpr ⟨hv, I⟩
theorem both_set {x1 x2 x3 : Int32} {h : AH} (I : Inv h) : p_UF_set (fun r1 h1 => p_MO_set (K2 r1) x1 x2 x3 h1) x1 x2 x3 h := by
  have I0 := I
  obtain ⟨E, hi, tN, r, C, IB⟩ := I
  have T : Tn E hi h := ⟨IB.1, IB.2.2.1, IB.2.2.2.1, IB.2.2.2.2.1⟩
  have n7 := T.1.n7
  unfold p_UF_set
  rw [UF_isHouse_iff]
  by_cases c1 : 0 ≤ x1 ∧ x1 ≤ h.1 5 3 - 1
  · rw [b01_t c1]
    refine (nF (by decide)).mpr ?_
    have c1M := (houseM T).mpr ((houseC T).mp c1)
    obtain ⟨k, hk, rfl⟩ := (houseC T).mp c1
    have ik : inb (nI k) 7 := inb_nI (by omega) (by omega)
    have CC := T.2.2.1
    have M := T.2.2.2
    by_cases d0 : x2 = 0
    · subst d0
      refine (nT rfl).mpr ?_
      rw [UF_within_iff]
      by_cases c2 : 0 ≤ x3 ∧ x3 ≤ 9
      · rw [b01_t c2]
        refine (pF (by decide)).mpr ⟨ik, ?_⟩
        show p_MO_set (K2 _) _ _ _ _
        unfold p_MO_set
        rw [MO_isHouse_iff]
        have e59 : (wI h 6 (nI k) x3).1 59 = h.1 59 := rfl
        rw [e59, b01_t c1M]
        refine (nF (by decide)).mpr ?_
        rw [MO_in_iff, b01_t (by decide)]
        refine (pF (by decide)).mpr ((nT rfl).mpr ?_)
        unfold p_MO_set_33
        rw [MO_in_iff, b01_t c2]
        refine (nF (by decide)).mpr ((nT rfl).mpr ⟨ik, ?_⟩)
        unfold p_MO_set_61
        refine (nT rfl).mpr ?_
        unfold p_MO_set_82
        refine ⟨ik, (nF (by decide)).mpr ⟨ik, ?_, ?_⟩⟩
        · show h.1 6 (nI k) = h.1 63 (nI k)
          rw [CC.2.1 k hk, M.2 k hk]
        · refine Inv_town (hi' := upN hi k x3) (pe' := E.people) (pa' := E.partner) IB (frT_tr (frT_frm (S := [6]) (frm_w frm_rf (by decide)) (by decide)) (frT_frm (S := [63, 64]) (frm_w (frm_w frm_rf (by decide)) (by decide)) (by decide))) (rng_hi T.2.1 (rg (n := 9) (by decide) c2)) ?_ CC.2.2.1 CC.2.2.2.1 ?_ ?_ M.1.partner
          · exact rowR_up (by omega) hk CC.2.1
          · exact rowR_up (by omega) hk M.2
          · exact rowR_id M.1.people
      · rw [b01_f c2]
        refine (pT rfl).mpr ?_
        unfold p_UF_set_49
        refine (nF (by decide)).mpr ?_
        exact MO_set_bad I0 T rfl c1M (fun z => z.elim (fun z => c2 z.2) (fun z => absurd z.1 (by decide)))
    · refine (nF d0).mpr ?_
      unfold p_UF_set_49
      by_cases d1 : x2 = 1
      · subst d1
        refine (nT rfl).mpr ?_
        rw [UF_within_iff]
        by_cases c2 : 0 ≤ x3 ∧ x3 ≤ 20
        · rw [b01_t c2]
          refine (pF (by decide)).mpr ⟨ik, ?_⟩
          show p_MO_set (K2 _) _ _ _ _
          unfold p_MO_set
          rw [MO_isHouse_iff]
          have e59 : (wI h 7 (nI k) x3).1 59 = h.1 59 := rfl
          rw [e59, b01_t c1M]
          refine (nF (by decide)).mpr ?_
          rw [MO_in_iff, b01_t (by decide)]
          refine (pF (by decide)).mpr ((nF (by decide)).mpr ?_)
          unfold p_MO_set_33
          rw [MO_in_iff, b01_t c2]
          refine (nF (by decide)).mpr ((nF (by decide)).mpr ⟨ik, ?_⟩)
          unfold p_MO_set_61
          refine (nF (by decide)).mpr ⟨ik, ?_⟩
          unfold p_MO_set_82
          refine ⟨ik, (nT rfl).mpr ⟨ik, ?_, ?_⟩⟩
          · show h.1 7 (nI k) = h.1 64 (nI k)
            rw [CC.2.2.1 k hk, M.1.people k hk]
          · refine Inv_town (hi' := hi) (pe' := upN E.people k x3) (pa' := E.partner) IB (frT_tr (frT_frm (S := [7]) (frm_w frm_rf (by decide)) (by decide)) (frT_frm (S := [63, 64]) (frm_w (frm_w frm_rf (by decide)) (by decide)) (by decide))) (rng_pe T.2.1 (rg (n := 20) (by decide) c2)) CC.2.1 ?_ CC.2.2.2.1 ?_ ?_ M.1.partner
            · exact rowR_up (by omega) hk CC.2.2.1
            · exact rowR_id M.2
            · exact rowR_up (by omega) hk M.1.people
        · rw [b01_f c2]
          refine (pT rfl).mpr ?_
          exact MO_set_bad I0 T rfl c1M (fun z => z.elim (fun z => d0 z.1) (fun z => c2 z.2))
      · refine (nF d1).mpr ?_
        exact MO_set_bad I0 T rfl c1M (fun z => z.elim (fun z => d0 z.1) (fun z => d1 z.1))
  · rw [b01_f c1]
    refine (nT rfl).mpr ?_
    show p_MO_set (K2 _) _ _ _ _
    unfold p_MO_set
    rw [MO_isHouse_iff, b01_f (fun z => c1 ((houseC T).mpr ((houseM T).mp z)))]
    exact (nT rfl).mpr ⟨rfl, I0⟩
theorem Inv_law {E : EV} {hi : Nat → Int32} {tN r r' : Nat} {C : Nat → Nat → List Int32} {h h' : AH} (I : InvB E hi tN r C h) (hr : r' < tN) (e2 : h'.2 = h.2) (g : ∀ b, ¬ b = 5 → ¬ b = 59 → h'.1 b = h.1 b) (g5 : h'.1 5 = up (h.1 5) 4 (nI r')) (g59 : h'.1 59 = up (h.1 59) 12 (nI r')) : Inv h' := by
  obtain ⟨a1, a2, a3, a4, a5, a6, a7, a8, a9, a10⟩ := I
  obtain ⟨h1, h2, h3, h4, h5, h6, t, h7, h8, h9⟩ := a4
  obtain ⟨b1, b2, b3, b4, b5, b6, b7, b8⟩ := a6
  have X := b8 r' hr
  have g50 : ∀ j, ¬ j = 4 → h'.1 5 j = h.1 5 j := fun j hj => by rw [g5]; exact up_n hj
  have g590 : ∀ j, ¬ j = 12 → h'.1 59 j = h.1 59 j := fun j hj => by rw [g59]; exact up_n hj
  have ct : ∀ t, t < 6 → ∀ c, CT h t c → CT h' t c := fun t ht c z => ⟨by rw [g (35 + 3 * t) (by omega) (by omega)]; exact z.1, by rw [g (34 + 3 * t) (by omega) (by omega)]; exact z.2⟩
  have mt : ∀ t c, MT h t c → MT h' t c := fun t c z => ⟨by rw [g 68 (by decide) (by decide)]; exact z.1, by rw [g 67 (by decide) (by decide)]; exact z.2⟩
  refine ⟨withC E (C r'), hi, tN, r', C, withC_ok a1 X.1, rfl, a3, ⟨(g50 3 (by decide)).trans h1, by rw [g 6 (by decide) (by decide)]; exact h2, by rw [g 7 (by decide) (by decide)]; exact h3, by rw [g 8 (by decide) (by decide)]; exact h4, fun k hk => ?_, fun k hk => ?_, r', by omega, by rw [g5]; exact up_s, ct r' (by omega) _ X.2.1⟩, ⟨⟨(g590 0 (by decide)).trans a5.1.n, by rw [g 60 (by decide) (by decide)]; exact a5.1.kind, by rw [g 61 (by decide) (by decide)]; exact a5.1.told, by rw [g 62 (by decide) (by decide)]; exact a5.1.more, by rw [g 64 (by decide) (by decide)]; exact a5.1.people, by rw [g 65 (by decide) (by decide)]; exact a5.1.partner, r', by omega, by rw [g59]; exact up_s, mt r' _ X.2.2⟩, by rw [g 63 (by decide) (by decide)]; exact a5.2⟩, ?_, ?_, ?_, ?_, ?_⟩
  · rw [rR_2 e2]; exact ⟨(h5 k hk).1, famA_2 e2 (h5 k hk).2⟩
  · rw [rR_2 e2]
    obtain ⟨x1, x2, x3, x4, x5⟩ := h6 k hk
    have e := g (rR T1 h 1 k - 1) (fun z => by
      have h2 : famP (rS T1 h 5).1 := by rw [← z]; exact x1.2
      have h3 : famP 10 := h2
      rcases h3 with h3 | h3 | h3 | h3 | h3 | h3 <;> exact absurd h3 (by decide)) (fun z => by
      have h2 : famP (rS T1 h 59).1 := by rw [← z]; exact x1.2
      have h3 : famP 12 := h2
      rcases h3 with h3 | h3 | h3 | h3 | h3 | h3 <;> exact absurd h3 (by decide))
    exact ⟨famA_2 e2 x1, by rw [rS_2 e2]; exact x2, by rw [e]; exact x3, by rw [e]; exact x4, by rw [e]; exact x5⟩
  · exact ⟨b1, b2, hr, by rw [g 0 (by decide) (by decide)]; exact b4, (g590 11 (by decide)).trans b5, by rw [g5]; exact up_s, by rw [g59]; exact up_s, fun t ht => ⟨(b8 t ht).1, ct t (by omega) _ (b8 t ht).2.1, mt t _ (b8 t ht).2.2⟩⟩
  · obtain ⟨L, c1, c2, c3, c4⟩ := a7
    exact ⟨L, c1, by rw [g 0 (by decide) (by decide)]; exact c2, (g590 8 (by decide)).trans c3, by rw [g 4 (by decide) (by decide), g 66 (by decide) (by decide)]; exact c4⟩
  · unfold Img
    rw [g590 13 (by decide), g590 14 (by decide), g590 15 (by decide), g 0 (by decide) (by decide), g 9 (by decide) (by decide), g 10 (by decide) (by decide), g 11 (by decide) (by decide), g 12 (by decide) (by decide), g 69 (by decide) (by decide)]
    exact a8
  · intro s hs
    rw [g 70 (by decide) (by decide), g 71 (by decide) (by decide), g 72 (by decide) (by decide), g (51 + 2 * s) (by omega) (by omega), g (52 + 2 * s) (by omega) (by omega)]
    exact a9 s hs
  · unfold Wds; rw [g 74 (by decide) (by decide)]; exact a10
theorem both_force {x : Int32} {h : AH} (I : Inv h) : p_UF_force (fun r1 h1 => p_MO_force (K2 r1) x h1) x h := by
  have I0 := I
  obtain ⟨E, hi, tN, r, C, IB⟩ := I
  obtain ⟨b1, b2, b3, b4, b5, b6, b7, b8⟩ := IB.2.2.2.2.2.1
  have key : (0 ≤ x ∧ x ≤ nI tN - 1) ↔ ∃ k, k < tN ∧ x = nI k := houseN (by omega)
  unfold p_UF_force
  rw [UF_within_iff, b4]
  by_cases c : 0 ≤ x ∧ x ≤ nI tN - 1
  · rw [b01_t c]
    obtain ⟨k, hk, rfl⟩ := key.mp c
    refine (nF (by decide)).mpr ?_
    show p_MO_force (K2 _) _ _
    unfold p_MO_force
    have e59 : (wI h 5 4 (nI k)).1 59 = h.1 59 := rfl
    rw [MO_in_iff, e59, b5, b01_t c]
    refine (nF (by decide)).mpr ⟨?_, ?_⟩
    · rw [b6, b7]
    · exact Inv_law IB hk rfl (fun b h5 h59 => by rw [wI_r, if_neg h59, wI_r, if_neg h5]) rfl rfl
  · rw [b01_f c]
    refine (nT rfl).mpr ?_
    show p_MO_force (K2 _) _ _
    unfold p_MO_force
    rw [MO_in_iff, b5, b01_f c]
    exact (nT rfl).mpr ⟨rfl, I0⟩
