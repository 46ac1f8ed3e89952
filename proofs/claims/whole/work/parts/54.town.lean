/-! pure: calls that change the town: set, chain, night; and told, asks -/
def STn : List Nat := [6, 7, 8, 63, 64, 65]
def frT (h h' : AH) : Prop := h'.2.2.2 = h.2.2.2 ∧ (∀ a, ¬ a = 13 → ¬ a = 18 → ¬ a = 25 → h'.2.2.1 a = h.2.2.1 a) ∧ (∀ b, b ∉ (59 :: (SD ++ SM)) → b ∉ STn → h'.1 b = h.1 b) ∧ ∀ k, ¬ k = 37 → h'.1 59 k = h.1 59 k
theorem frT_I {h h' : AH} (f : frI h h') : frT h h' := ⟨f.1, f.2.1, fun b hb _ => f.2.2.1 b hb, f.2.2.2⟩
theorem frT_tr {h h' h2 : AH} (a : frT h h') (b : frT h' h2) : frT h h2 := ⟨b.1.trans a.1, fun c x y z => (b.2.1 c x y z).trans (a.2.1 c x y z), fun c x y => (b.2.2.1 c x y).trans (a.2.2.1 c x y), fun c x => (b.2.2.2 c x).trans (a.2.2.2 c x)⟩
theorem frT_frm {S : List Nat} {h h' : AH} (f : frm S h h') (hS : ∀ x ∈ S, x ∈ STn) : frT h h' := by
  refine ⟨by rw [f.1], fun a _ _ _ => by rw [f.1], fun b _ hb => f.2 b (fun z => hb (hS b z)), fun k _ => ?_⟩
  rw [f.2 59 (fun z => absurd (hS 59 z) (by decide))]
theorem Inv_town {E : EV} {hi hi' pe' pa' : Nat → Int32} {tN r : Nat} {C : Nat → Nat → List Int32} {h h' : AH} (I : InvB E hi tN r C h) (f : frT h h') (g : rng E.N hi' pe' pa') (c6 : rowR E.N (h'.1 6) hi') (c7 : rowR E.N (h'.1 7) pe') (c8 : rowR E.N (h'.1 8) pa') (m63 : rowR E.N (h'.1 63) hi') (m64 : rowR E.N (h'.1 64) pe') (m65 : rowR E.N (h'.1 65) pa') : Inv h' := by
  obtain ⟨a1, a2, a3, a4, a5, a6, a7, a8, a9, a10⟩ := I
  have nb : ∀ b, (b < 6 ∨ (8 < b ∧ b < 14) ∨ (24 < b ∧ b < 59) ∨ (59 < b ∧ b < 63) ∨ (65 < b ∧ b < 76)) → h'.1 b = h.1 b := fun b hb => f.2.2.1 b (notScr b (by omega)) (fun z => by simp only [STn, List.mem_cons, List.not_mem_nil, or_false] at z; omega)
  have fa : ∀ a, famA T1 h a → famA T1 h' a := fun a z => ⟨by unfold vA nC; rw [f.1]; exact z.1, by unfold rS; rw [f.1]; exact z.2⟩
  have r1 : ∀ k, rR T1 h' 1 k = rR T1 h 1 k := fun k => by show h'.2.2.1 1 k = h.2.2.1 1 k; rw [f.2.1 1 (by decide) (by decide) (by decide)]
  obtain ⟨h1, h2, h3, h4, h5, h6, t, h7, h8, h9⟩ := a4
  have ct : ∀ t, t < 6 → ∀ c, CT h t c → CT h' t c := fun t ht c z => ⟨by rw [nb (35 + 3 * t) (by omega)]; exact z.1, by rw [nb (34 + 3 * t) (by omega)]; exact z.2⟩
  have mt : ∀ t c, MT h t c → MT h' t c := fun t c z => ⟨by rw [nb 68 (by omega)]; exact z.1, by rw [nb 67 (by omega)]; exact z.2⟩
  refine ⟨(E.N, E.kind, E.told, E.more, pe', pa', E.c), hi', tN, r, C, ⟨a1.1, a1.2.1, a1.2.2.1, fun k hk => (g k hk).2.2, a1.2.2.2.2⟩, a2, g, ⟨by rw [nb 5 (by omega)]; exact h1, c6, c7, c8, fun k hk => ?_, fun k hk => ?_, t, h7, by rw [nb 5 (by omega)]; exact h8, ct t h7 _ h9⟩, ⟨⟨(f.2.2.2 0 (by decide)).trans a5.1.n, by rw [nb 60 (by omega)]; exact a5.1.kind, by rw [nb 61 (by omega)]; exact a5.1.told, by rw [nb 62 (by omega)]; exact a5.1.more, m64, m65, ?_⟩, m63⟩, ?_, ?_, ?_, ?_, ?_⟩
  · rw [r1]; exact ⟨(h5 k hk).1, fa _ (h5 k hk).2⟩
  · rw [r1]
    obtain ⟨x1, x2, x3, x4, x5⟩ := h6 k hk
    have e := f.2.2.1 _ (notSM x1) (fun z => by
      simp only [STn, List.mem_cons, List.not_mem_nil, or_false] at z
      rcases z with z | z | z | z | z | z
      · exact isHo_ne (b := 6) (n := 7) x1 rfl z
      · exact isHo_ne (b := 7) (n := 7) x1 rfl z
      · exact isHo_ne (b := 8) (n := 7) x1 rfl z
      · exact isHo_ne (b := 63) (n := 7) x1 rfl z
      · exact isHo_ne (b := 64) (n := 7) x1 rfl z
      · exact isHo_ne (b := 65) (n := 7) x1 rfl z)
    exact ⟨fa _ x1, by unfold rS; rw [f.1]; exact x2, by rw [e]; exact x3, by rw [e]; exact x4, by rw [e]; exact x5⟩
  · obtain ⟨r', b1, b2, b3⟩ := a5.1.text
    exact ⟨r', b1, (f.2.2.2 12 (by decide)).trans b2, mt r' _ b3⟩
  · obtain ⟨b1, b2, b3, b4, b5, b6, b7, b8⟩ := a6
    exact ⟨b1, b2, b3, by rw [nb 0 (by omega)]; exact b4, (f.2.2.2 11 (by decide)).trans b5, by rw [nb 5 (by omega)]; exact b6, (f.2.2.2 12 (by decide)).trans b7, fun t ht => ⟨(b8 t ht).1, ct t (by omega) _ (b8 t ht).2.1, mt t _ (b8 t ht).2.2⟩⟩
  · obtain ⟨L, b1, b2, b3, b4⟩ := a7
    exact ⟨L, b1, by rw [nb 0 (by omega)]; exact b2, (f.2.2.2 8 (by decide)).trans b3, by rw [nb 4 (by omega), nb 66 (by omega)]; exact b4⟩
  · unfold Img
    rw [f.2.2.2 13 (by decide), f.2.2.2 14 (by decide), f.2.2.2 15 (by decide), nb 0 (by omega), nb 9 (by omega), nb 10 (by omega), nb 11 (by omega), nb 12 (by omega), nb 69 (by omega)]
    exact a8
  · intro s hs
    rw [nb 70 (by omega), nb 71 (by omega), nb 72 (by omega), nb (51 + 2 * s) (by omega), nb (52 + 2 * s) (by omega)]
    exact a9 s hs
  · unfold Wds; rw [nb 74 (by omega)]; exact a10
theorem both_told {x1 x2 : Int32} {h : AH} (I : Inv h) : p_UF_told (fun r1 h1 => p_MO_told (K2 r1) x1 x2 h1) x1 x2 h := by
  obtain ⟨E, hi, T⟩ := Tn_of I
  have n7 := T.1.n7
  unfold p_UF_told
  rw [UF_isHouse_iff]
  by_cases c1 : 0 ≤ x1 ∧ x1 ≤ h.1 5 3 - 1
  · rw [b01_t c1]
    obtain ⟨k, hk, rfl⟩ := (houseC T).mp c1
    have ik : inb (nI k) 7 := inb_nI (by omega) (by omega)
    have C := T.2.2.1
    have M := T.2.2.2
    obtain ⟨p1, p2⟩ := C.2.2.2.2.1 k (by omega)
    obtain ⟨q1, q2, q3, q4, q5⟩ := C.2.2.2.2.2.1 k hk
    refine (nF (by decide)).mpr ?_
    have mo : ∀ v, ((x2 = 0 → v = hi k) ∧ (x2 = 1 → v = E.people k) ∧ (x2 = 2 → v = E.partner k) ∧ (x2 = 3 → v = E.kind k) ∧ (x2 = 4 → v = E.told k) ∧ (x2 = 5 → v = E.more k) ∧ (¬ x2 = 0 → ¬ x2 = 1 → ¬ x2 = 2 → ¬ x2 = 3 → ¬ x2 = 4 → ¬ x2 = 5 → v = -7)) → p_MO_told (K2 v) (nI k) x2 h := fun v ⟨v0, v1, v2, v3, v4, v5, v6⟩ => by
      unfold p_MO_told
      rw [MO_isHouse_iff, b01_t ((houseM T).mpr ⟨k, hk, rfl⟩)]
      refine (nF (by decide)).mpr ?_
      rw [M.2 k hk, M.1.people k hk, M.1.partner k hk, M.1.kind k hk, M.1.told k hk, M.1.more k hk]
      exact ⟨fun z => ⟨ik, v0 z, I⟩, fun z => ⟨ik, v1 z, I⟩, fun z => ⟨ik, v2 z, I⟩, fun z => ⟨ik, v3 z, I⟩, fun z => ⟨ik, v4 z, I⟩, fun z => ⟨ik, v5 z, I⟩, fun z0 z1 z2 z3 z4 z5 => ⟨v6 z0 z1 z2 z3 z4 z5, I⟩⟩
    rw [nI_clamp (by omega), C.2.1 k hk, C.2.2.1 k hk, C.2.2.2.1 k hk, q3, q4, q5]
    refine ⟨fun z => ⟨ik, mo _ ?_⟩, fun z => ⟨ik, mo _ ?_⟩, fun z => ⟨ik, mo _ ?_⟩, fun z => ⟨ik, p1, p2, mo _ ?_⟩, fun z => ⟨ik, p1, p2, mo _ ?_⟩, fun z => ⟨ik, p1, p2, mo _ ?_⟩, fun z0 z1 z2 z3 z4 z5 => mo _ ?_⟩
    · subst z; exact ⟨fun _ => rfl, fun z => absurd z (by decide), fun z => absurd z (by decide), fun z => absurd z (by decide), fun z => absurd z (by decide), fun z => absurd z (by decide), fun z => absurd rfl z⟩
    · subst z; exact ⟨fun z => absurd z (by decide), fun _ => rfl, fun z => absurd z (by decide), fun z => absurd z (by decide), fun z => absurd z (by decide), fun z => absurd z (by decide), fun _ z => absurd rfl z⟩
    · subst z; exact ⟨fun z => absurd z (by decide), fun z => absurd z (by decide), fun _ => rfl, fun z => absurd z (by decide), fun z => absurd z (by decide), fun z => absurd z (by decide), fun _ _ z => absurd rfl z⟩
    · subst z; exact ⟨fun z => absurd z (by decide), fun z => absurd z (by decide), fun z => absurd z (by decide), fun _ => rfl, fun z => absurd z (by decide), fun z => absurd z (by decide), fun _ _ _ z => absurd rfl z⟩
    · subst z; exact ⟨fun z => absurd z (by decide), fun z => absurd z (by decide), fun z => absurd z (by decide), fun z => absurd z (by decide), fun _ => rfl, fun z => absurd z (by decide), fun _ _ _ _ z => absurd rfl z⟩
    · subst z; exact ⟨fun z => absurd z (by decide), fun z => absurd z (by decide), fun z => absurd z (by decide), fun z => absurd z (by decide), fun z => absurd z (by decide), fun _ => rfl, fun _ _ _ _ _ z => absurd rfl z⟩
    · exact ⟨fun z => absurd z z0, fun z => absurd z z1, fun z => absurd z z2, fun z => absurd z z3, fun z => absurd z z4, fun z => absurd z z5, fun _ _ _ _ _ _ => rfl⟩
  · rw [b01_f c1]
    refine (nT rfl).mpr ?_
    show p_MO_told (K2 _) _ _ _
    unfold p_MO_told
    rw [MO_isHouse_iff, b01_f (fun z => c1 ((houseC T).mpr ((houseM T).mp z)))]
    exact (nT rfl).mpr ⟨rfl, I⟩
theorem both_asks {x1 x2 x3 : Int32} {h : AH} (I : Inv h) : p_UF_asks (fun r1 h1 => p_MO_asks (K2 r1) x1 x2 x3 h1) x1 x2 x3 h := by
  obtain ⟨E, hi, T⟩ := Tn_of I
  have n7 := T.1.n7
  unfold p_UF_asks
  rw [UF_isHouse_iff]
  by_cases c1 : 0 ≤ x2 ∧ x2 ≤ h.1 5 3 - 1
  · rw [b01_t c1]
    refine (nF (by decide)).mpr ?_
    rw [UF_within_iff]
    by_cases c2 : 0 ≤ x1 ∧ x1 ≤ 2
    · rw [b01_t c2]
      refine (pF (by decide)).mpr ?_
      rw [UF_within_iff]
      by_cases c3 : 0 ≤ x3 ∧ x3 ≤ 24
      · rw [b01_t c3]
        refine (nF (by decide)).mpr ?_
        obtain ⟨k, hk, rfl⟩ := (houseC T).mp c1
        obtain ⟨p, hp, rfl⟩ := (upto (n := 2) (by decide)).mp c2
        refine UF_ready_spec T.1 T.2.2.1 (fun h1 f1 R1 M1 => ?_)
        refine Dusk_says_spec T.1 R1 M1 (by omega) hk (fun h2 f2 => ?_)
        have f12 : frR h h2 := frR_tr f1 (frR_frm f2 (by decide))
        have T2 := Tn_I (frI_R f12) T
        show p_MO_asks (K2 _) _ _ _ _
        unfold p_MO_asks
        rw [MO_isHouse_iff, b01_t ((houseM T2).mpr ⟨k, hk, rfl⟩)]
        refine (nF (by decide)).mpr ?_
        rw [MO_in_iff, b01_t c2]
        refine (pF (by decide)).mpr ?_
        rw [MO_isMany_iff, b01_t c3]
        refine (pF (by decide)).mpr ⟨inb_nI (by omega) (by omega), ?_⟩
        rw [T2.2.2.2.2 k hk]
        exact MO_asksOf_spec T.1 T2.2.2.2.1 (by omega) hk (fun h3 f3 => ⟨rfl, Inv_I (frI_tr (frI_R f12) (frI_V (frV_frm f3 (by decide)))) I⟩)
      · rw [b01_f c3]
        refine (nT rfl).mpr ?_
        show p_MO_asks (K2 _) _ _ _ _
        unfold p_MO_asks
        rw [MO_isHouse_iff, b01_t ((houseM T).mpr ((houseC T).mp c1))]
        refine (nF (by decide)).mpr ?_
        rw [MO_in_iff, b01_t c2]
        refine (pF (by decide)).mpr ?_
        rw [MO_isMany_iff, b01_f c3]
        exact (pT rfl).mpr ⟨rfl, I⟩
    · rw [b01_f c2]
      refine (pT rfl).mpr ?_
      show p_MO_asks (K2 _) _ _ _ _
      unfold p_MO_asks
      rw [MO_isHouse_iff, b01_t ((houseM T).mpr ((houseC T).mp c1))]
      refine (nF (by decide)).mpr ?_
      rw [MO_in_iff, b01_f c2]
      exact (pT rfl).mpr ⟨rfl, I⟩
  · rw [b01_f c1]
    refine (nT rfl).mpr ?_
    show p_MO_asks (K2 _) _ _ _ _
    unfold p_MO_asks
    rw [MO_isHouse_iff, b01_f (fun z => c1 ((houseC T).mpr ((houseM T).mp z)))]
    exact (nT rfl).mpr ⟨rfl, I⟩
theorem both_chain {x1 x2 : Int32} {h : AH} (I : Inv h) : p_UF_chain (fun r1 h1 => p_MO_chain (K2 r1) x1 x2 h1) x1 x2 h := by
  have I0 := I
  obtain ⟨E, hi, tN, r, C, IB⟩ := I
  have T : Tn E hi h := ⟨IB.1, IB.2.2.1, IB.2.2.2.1, IB.2.2.2.2.1⟩
  have n7 := T.1.n7
  unfold p_UF_chain
  rw [UF_isHouse_iff]
  by_cases c1 : 0 ≤ x1 ∧ x1 ≤ h.1 5 3 - 1
  · rw [b01_t c1]
    refine (pF (by decide)).mpr ?_
    rw [UF_isHouse_iff]
    by_cases c2 : 0 ≤ x2 ∧ x2 ≤ h.1 5 3 - 1
    · rw [b01_t c2]
      refine (nF (by decide)).mpr ?_
      obtain ⟨a, ha, rfl⟩ := (houseC T).mp c1
      obtain ⟨b, hb, rfl⟩ := (houseC T).mp c2
      have P : paOk E.N E.partner := T.1.partner
      have ia : inb (nI a) 7 := inb_nI (by omega) (by omega)
      refine ⟨ia, join_spec tw5 n7 P ha hb T.2.2.1.2.2.2.1 (fun h1 f1 R1 => ?_)⟩
      have g : ∀ b, ¬ b = 8 → h1.1 b = h.1 b := fun b hb => f1.2 b (by simpa using hb)
      have e59 : h1.1 59 = h.1 59 := g 59 (by decide)
      show p_MO_chain (K2 _) _ _ _
      unfold p_MO_chain
      rw [MO_isHouse_iff, e59, b01_t ((houseM T).mpr ⟨a, ha, rfl⟩)]
      refine (pF (by decide)).mpr ?_
      rw [MO_isHouse_iff, e59, b01_t ((houseM T).mpr ⟨b, hb, rfl⟩)]
      refine (nF (by decide)).mpr ⟨ia, ?_⟩
      have r65 : rowR E.N (h1.1 65) E.partner := by rw [g 65 (by decide)]; exact T.2.2.2.1.partner
      refine links_spec n7 P ha hb r65 (fun h2 f2 R2 => ⟨?_, ?_⟩)
      · rw [r65 a ha, T.2.2.1.2.2.2.1 a ha]
      · have g2 : ∀ b, ¬ b = 65 → h2.1 b = h1.1 b := fun b hb => f2.2 b (by simpa using hb)
        refine Inv_town (hi' := hi) (pe' := E.people) (pa' := joinF E.partner a b) IB (frT_tr (frT_frm f1 (by decide)) (frT_frm f2 (by decide))) (fun k hk => ⟨(T.2.1 k hk).1, (T.2.1 k hk).2.1, paOk_join P ha hb k hk⟩) ?_ ?_ ?_ ?_ ?_ R2
        · rw [g2 6 (by decide), g 6 (by decide)]; exact T.2.2.1.2.1
        · rw [g2 7 (by decide), g 7 (by decide)]; exact T.2.2.1.2.2.1
        · rw [g2 8 (by decide)]; exact R1
        · rw [g2 63 (by decide), g 63 (by decide)]; exact T.2.2.2.2
        · rw [g2 64 (by decide), g 64 (by decide)]; exact T.2.2.2.1.people
    · rw [b01_f c2]
      refine (nT rfl).mpr ?_
      show p_MO_chain (K2 _) _ _ _
      unfold p_MO_chain
      rw [MO_isHouse_iff, b01_t ((houseM T).mpr ((houseC T).mp c1))]
      refine (pF (by decide)).mpr ?_
      rw [MO_isHouse_iff, b01_f (fun z => c2 ((houseC T).mpr ((houseM T).mp z)))]
      exact (nT rfl).mpr ⟨rfl, I0⟩
  · rw [b01_f c1]
    refine (pT rfl).mpr ?_
    show p_MO_chain (K2 _) _ _ _
    unfold p_MO_chain
    rw [MO_isHouse_iff, b01_f (fun z => c1 ((houseC T).mpr ((houseM T).mp z)))]
    exact (pT rfl).mpr ⟨rfl, I0⟩
