/-! pure: image -/
theorem become9 {Q : AH → Prop} {h : AH} (H : Q (wC (wC (wC (wI (wI h 9 3 (h.1 5 3)) 9 4 (h.1 5 4)) 6 10 0 0 7) 7 11 0 0 7) 8 12 0 0 7)) : p_Town_become Q 9 5 h :=
  ⟨vA_s (show 5 < 84 by decide), rfl, vA_s (show 9 < 84 by decide), rfl, Nat.succ_pos _, Nat.succ_pos _, vA_s (show 6 < 84 by decide), rfl, vA_s (show 10 < 84 by decide), rfl, le07, le07, lt07, lt07,
    Nat.succ_pos _, Nat.succ_pos _, vA_s (show 7 < 84 by decide), rfl, vA_s (show 11 < 84 by decide), rfl, le07, le07, lt07, lt07,
    Nat.succ_pos _, Nat.succ_pos _, vA_s (show 8 < 84 by decide), rfl, vA_s (show 12 < 84 by decide), rfl, le07, le07, lt07, lt07, H⟩
theorem nI_7 (k : Nat) : (7 : Int32) + nI k = nI (7 + k) := by rw [show (7 : Int32) = nI 7 from rfl, nI_add]
theorem nI_14 (k : Nat) : (14 : Int32) + nI k = nI (14 + k) := by rw [show (14 : Int32) = nI 14 from rfl, nI_add]
theorem image_loop {Q : Int32 → AH → Prop} {h0 : AH} : ∀ (cnt k : Nat) (h : AH), k + cnt = 7 → frm [69] h0 h → (∀ j, j < k → h.1 69 (nI j) = h0.1 63 (nI j) ∧ h.1 69 (nI (7 + j)) = h0.1 64 (nI j) ∧ h.1 69 (nI (14 + j)) = h0.1 65 (nI j)) → (∀ h', frm [69] h0 h' → (∀ j, j < 7 → h'.1 69 (nI j) = h0.1 63 (nI j) ∧ h'.1 69 (nI (7 + j)) = h0.1 64 (nI j) ∧ h'.1 69 (nI (14 + j)) = h0.1 65 (nI j)) → Q (h'.1 59 0) h') → p_MO_image_23 Q (cnt + 1) (nI k) h := by
  intro cnt
  induction cnt with
  | zero =>
    intro k h hk f R HQ
    have hk' : k = 7 := by omega
    subst hk'
    simp only [p_MO_image_23]
    rw [pT (by decide)]
    exact HQ h f R
  | succ cnt ih =>
    intro k h hk f R HQ
    obtain ⟨n', hn'⟩ : ∃ n', n' = cnt + 1 := ⟨_, rfl⟩
    rw [← hn']
    rw [← hn'] at ih
    have c7 : ¬ (7 : Int32) ≤ nI k := fun z => by have := (nI_leN (a := 7) (by decide) (by omega)).mp z; omega
    simp only [p_MO_image_23]
    rw [pF c7, nI_7, nI_14, nI_1, f.2 63 (by decide), f.2 64 (by decide), f.2 65 (by decide)]
    refine ⟨inb_nI (by omega) (by omega), inb_nI (by omega) (by omega), inb_nI (by omega) (by omega), inb_nI (by omega) (by omega), ih (k + 1) _ (by omega) (frm_w (frm_w (frm_w f (by simp)) (by simp)) (by simp)) (fun j hj => ?_) HQ⟩
    have ne : ∀ a b, a < 100 → b < 100 → ¬ a = b → ¬ nI a = nI b := fun a b ha hb hab z => hab ((nI_inj (by omega) (by omega)).mp z)
    simp only [wI_r, if_true, up_a]
    by_cases e : j = k
    · subst e
      refine ⟨?_, ?_, ?_⟩
      · rw [if_neg (ne _ _ (by omega) (by omega) (by omega)), if_neg (ne _ _ (by omega) (by omega) (by omega)), if_pos rfl]
      · rw [if_neg (ne _ _ (by omega) (by omega) (by omega)), if_pos rfl]
      · rw [if_pos rfl]
    · obtain ⟨q1, q2, q3⟩ := R j (by omega)
      refine ⟨?_, ?_, ?_⟩
      · rw [if_neg (ne _ _ (by omega) (by omega) (by omega)), if_neg (ne _ _ (by omega) (by omega) (by omega)), if_neg (ne _ _ (by omega) (by omega) e)]; exact q1
      · rw [if_neg (ne _ _ (by omega) (by omega) (by omega)), if_neg (ne _ _ (by omega) (by omega) (by omega)), if_neg (ne _ _ (by omega) (by omega) (by omega))]; exact q2
      · rw [if_neg (ne _ _ (by omega) (by omega) (by omega)), if_neg (ne _ _ (by omega) (by omega) (by omega)), if_neg (ne _ _ (by omega) (by omega) (by omega))]; exact q3
theorem Inv_img {E : EV} {hi : Nat → Int32} {tN r : Nat} {C : Nat → Nat → List Int32} {h h' : AH} (I : InvB E hi tN r C h) (e2 : h'.2 = h.2) (g : ∀ b, b ∉ [0, 9, 10, 11, 12, 59, 69] → h'.1 b = h.1 b) (g0 : ∀ j, ¬ j = 10 → h'.1 0 j = h.1 0 j) (g59 : ∀ j, ¬ j = 13 → ¬ j = 14 → ¬ j = 15 → h'.1 59 j = h.1 59 j) (im : Img E.N tN h') : Inv h' := by
  obtain ⟨a1, a2, a3, a4, a5, a6, a7, a8, a9, a10⟩ := I
  obtain ⟨h1, h2, h3, h4, h5, h6, t, h7, h8, h9⟩ := a4
  obtain ⟨b1, b2, b3, b4, b5, b6, b7, b8⟩ := a6
  have nb : ∀ b, ((0 < b ∧ b < 9) ∨ (12 < b ∧ b < 59) ∨ (59 < b ∧ b < 69) ∨ 69 < b) → h'.1 b = h.1 b := fun b hb => g b (fun z => by simp only [List.mem_cons, List.not_mem_nil, or_false] at z; omega)
  have ct : ∀ t, t < 6 → ∀ c, CT h t c → CT h' t c := fun t ht c z => ⟨by rw [nb (35 + 3 * t) (by omega)]; exact z.1, by rw [nb (34 + 3 * t) (by omega)]; exact z.2⟩
  have mt : ∀ t c, MT h t c → MT h' t c := fun t c z => ⟨by rw [nb 68 (by omega)]; exact z.1, by rw [nb 67 (by omega)]; exact z.2⟩
  refine ⟨E, hi, tN, r, C, a1, a2, a3, ⟨by rw [nb 5 (by omega)]; exact h1, by rw [nb 6 (by omega)]; exact h2, by rw [nb 7 (by omega)]; exact h3, by rw [nb 8 (by omega)]; exact h4, fun k hk => ?_, fun k hk => ?_, t, h7, by rw [nb 5 (by omega)]; exact h8, ct t h7 _ h9⟩, ⟨⟨(g59 0 (by decide) (by decide) (by decide)).trans a5.1.n, by rw [nb 60 (by omega)]; exact a5.1.kind, by rw [nb 61 (by omega)]; exact a5.1.told, by rw [nb 62 (by omega)]; exact a5.1.more, by rw [nb 64 (by omega)]; exact a5.1.people, by rw [nb 65 (by omega)]; exact a5.1.partner, ?_⟩, by rw [nb 63 (by omega)]; exact a5.2⟩, ?_, ?_, im, ?_, ?_⟩
  · rw [rR_2 e2]; exact ⟨(h5 k hk).1, famA_2 e2 (h5 k hk).2⟩
  · rw [rR_2 e2]
    obtain ⟨x1, x2, x3, x4, x5⟩ := h6 k hk
    have no : ∀ b c, (rS T1 h b).1 = c → ¬ famP c → ¬ rR T1 h 1 k - 1 = b := fun b c hb hc z => hc (by rw [← hb, ← z]; exact x1.2)
    have n11 : ¬ famP 11 := fun z => by rcases z with z | z | z | z | z | z <;> exact absurd z (by decide)
    have n10 : ¬ famP 10 := fun z => by rcases z with z | z | z | z | z | z <;> exact absurd z (by decide)
    have n12 : ¬ famP 12 := fun z => by rcases z with z | z | z | z | z | z <;> exact absurd z (by decide)
    have n100 : ¬ famP 100 := fun z => by rcases z with z | z | z | z | z | z <;> exact absurd z (by decide)
    have e := g (rR T1 h 1 k - 1) (fun z => by
      simp only [List.mem_cons, List.not_mem_nil, or_false] at z
      rcases z with z | z | z | z | z | z | z
      · exact no 0 11 rfl n11 z
      · exact no 9 10 rfl n10 z
      · exact no 10 100 rfl n100 z
      · exact no 11 100 rfl n100 z
      · exact no 12 100 rfl n100 z
      · exact no 59 12 rfl n12 z
      · exact no 69 100 rfl n100 z)
    exact ⟨famA_2 e2 x1, by rw [rS_2 e2]; exact x2, by rw [e]; exact x3, by rw [e]; exact x4, by rw [e]; exact x5⟩
  · obtain ⟨r', c1, c2, c3⟩ := a5.1.text
    exact ⟨r', c1, (g59 12 (by decide) (by decide) (by decide)).trans c2, mt r' _ c3⟩
  · exact ⟨b1, b2, b3, (g0 8 (by decide)).trans b4, (g59 11 (by decide) (by decide) (by decide)).trans b5, by rw [nb 5 (by omega)]; exact b6, (g59 12 (by decide) (by decide) (by decide)).trans b7, fun t ht => ⟨(b8 t ht).1, ct t (by omega) _ (b8 t ht).2.1, mt t _ (b8 t ht).2.2⟩⟩
  · obtain ⟨L, c1, c2, c3, c4⟩ := a7
    exact ⟨L, c1, (g0 9 (by decide)).trans c2, (g59 8 (by decide) (by decide) (by decide)).trans c3, by rw [nb 4 (by omega), nb 66 (by omega)]; exact c4⟩
  · intro s hs
    rw [nb 70 (by omega), nb 71 (by omega), nb 72 (by omega), nb (51 + 2 * s) (by omega), nb (52 + 2 * s) (by omega)]
    exact a9 s hs
  · unfold Wds; rw [nb 74 (by omega)]; exact a10
theorem both_image {h : AH} (I : Inv h) : p_UF_image (fun r1 h1 => p_MO_image (K2 r1) h1) h := by
  have I0 := I
  obtain ⟨E, hi, tN, r, C, IB⟩ := I
  have T : Tn E hi h := ⟨IB.1, IB.2.2.1, IB.2.2.2.1, IB.2.2.2.2.1⟩
  have n7 := T.1.n7
  obtain ⟨b1, b2, b3, b4, b5, b6, b7, b8⟩ := IB.2.2.2.2.2.1
  refine become9 ?_
  obtain ⟨hA, hAe⟩ : ∃ hA, hA = wI (wC (wC (wC (wI (wI h 9 3 (h.1 5 3)) 9 4 (h.1 5 4)) 6 10 0 0 7) 7 11 0 0 7) 8 12 0 0 7) 0 10 1 := ⟨_, rfl⟩
  rw [← hAe]
  have A2 : hA.2 = h.2 := by rw [hAe]; rfl
  have A5 : hA.1 5 = h.1 5 := by rw [hAe]; rfl
  have A9 : hA.1 9 = up (up (h.1 9) 3 (h.1 5 3)) 4 (h.1 5 4) := by rw [hAe]; rfl
  have A10 : hA.1 10 = cpI (h.1 6) (h.1 10) 0 0 7 := by rw [hAe]; rfl
  have A11 : hA.1 11 = cpI (h.1 7) (h.1 11) 0 0 7 := by rw [hAe]; rfl
  have A12 : hA.1 12 = cpI (h.1 8) (h.1 12) 0 0 7 := by rw [hAe]; rfl
  have A0 : hA.1 0 = up (h.1 0) 10 1 := by rw [hAe]; rfl
  have Ag : ∀ b, b ∉ [0, 9, 10, 11, 12] → hA.1 b = h.1 b := fun b hb => by
    simp only [List.mem_cons, List.not_mem_nil, or_false, not_or] at hb
    rw [hAe]
    show (if b = 0 then _ else if b = 12 then _ else if b = 11 then _ else if b = 10 then _ else if b = 9 then _ else if b = 9 then _ else h.1 b) = h.1 b
    rw [if_neg hb.1, if_neg hb.2.2.2.2, if_neg hb.2.2.2.1, if_neg hb.2.2.1, if_neg hb.2.1, if_neg hb.2.1]
  have A59 : hA.1 59 = h.1 59 := Ag 59 (by decide)
  show p_MO_image (K2 (h.1 5 3)) hA
  refine ⟨8, image_loop (h0 := wI (wI (wI hA 59 13 1) 59 14 (hA.1 59 0)) 59 15 (hA.1 59 12)) 7 0 _ (by omega) frm_rf (fun j hj => absurd hj (by omega)) (fun h' f R => ?_)⟩
  have F59 : h'.1 59 = up (up (up (h.1 59) 13 1) 14 (h.1 59 0)) 15 (h.1 59 12) := by
    rw [f.2 59 (by decide), ← A59]; rfl
  have Fg : ∀ b, ¬ b = 59 → ¬ b = 69 → h'.1 b = hA.1 b := fun b b1 b2 => by
    rw [f.2 b (by simpa using b2), wI_r, if_neg b1, wI_r, if_neg b1, wI_r, if_neg b1]
  refine ⟨?_, Inv_img IB (f.1.trans A2) (fun b hb => ?_) (fun j hj => ?_) (fun j h1 h2 h3 => ?_) ⟨?_, fun _ => ⟨E.N, r, hi, E.people, E.partner, Nat.le_refl _, b3, ?_, ?_, ?_, ?_, T.2.1, ?_, ?_, ?_, fun k hk => ?_⟩⟩⟩
  · rw [F59, T.nn]; rfl
  · simp only [List.mem_cons, List.not_mem_nil, or_false, not_or] at hb
    rw [Fg b hb.2.2.2.2.2.1 hb.2.2.2.2.2.2, Ag b (by simp only [List.mem_cons, List.not_mem_nil, or_false, not_or]; exact ⟨hb.1, hb.2.1, hb.2.2.1, hb.2.2.2.1, hb.2.2.2.2.1⟩)]
  · rw [Fg 0 (by decide) (by decide), A0]; exact up_n hj
  · rw [F59, up_n h3, up_n h2, up_n h1]
  · rw [F59, Fg 0 (by decide) (by decide), A0]; rfl
  · rw [Fg 9 (by decide) (by decide), A9]; exact T.2.2.1.1
  · rw [F59]; exact T.2.2.2.1.n
  · rw [Fg 9 (by decide) (by decide), A9]; exact b6
  · rw [F59]; exact b7
  · rw [Fg 10 (by decide) (by decide), A10]; exact rowR_cp n7 T.2.2.1.2.1
  · rw [Fg 11 (by decide) (by decide), A11]; exact rowR_cp n7 T.2.2.1.2.2.1
  · rw [Fg 12 (by decide) (by decide), A12]; exact rowR_cp n7 T.2.2.1.2.2.2.1
  · obtain ⟨q1, q2, q3⟩ := R k (by omega)
    refine ⟨q1.trans ?_, q2.trans ?_, q3.trans ?_⟩
    · show hA.1 63 (nI k) = hi k
      rw [Ag 63 (by decide)]; exact T.2.2.2.2 k hk
    · show hA.1 64 (nI k) = E.people k
      rw [Ag 64 (by decide)]; exact T.2.2.2.1.people k hk
    · show hA.1 65 (nI k) = E.partner k
      rw [Ag 65 (by decide)]; exact T.2.2.2.1.partner k hk
