/-! pure: feed -/
theorem Inv_tape {h h' : AH} (I : Inv h) (e2 : h'.2 = h.2) (g : ∀ b, b ∉ [0, 4, 59, 66] → h'.1 b = h.1 b) (g0 : ∀ j, ¬ j = 9 → h'.1 0 j = h.1 0 j) (g59 : ∀ j, ¬ j = 8 → h'.1 59 j = h.1 59 j) (tp : Tape h') : Inv h' := by
  obtain ⟨E, hi, tN, r, C, a1, a2, a3, a4, a5, a6, a7, a8, a9, a10⟩ := I
  obtain ⟨h1, h2, h3, h4, h5, h6, t, h7, h8, h9⟩ := a4
  obtain ⟨b1, b2, b3, b4, b5, b6, b7, b8⟩ := a6
  have nb : ∀ b, ((0 < b ∧ b < 4) ∨ (4 < b ∧ b < 59) ∨ (59 < b ∧ b < 66) ∨ 66 < b) → h'.1 b = h.1 b := fun b hb => g b (fun z => by simp only [List.mem_cons, List.not_mem_nil, or_false] at z; omega)
  have ct : ∀ t, t < 6 → ∀ c, CT h t c → CT h' t c := fun t ht c z => ⟨by rw [nb (35 + 3 * t) (by omega)]; exact z.1, by rw [nb (34 + 3 * t) (by omega)]; exact z.2⟩
  have mt : ∀ t c, MT h t c → MT h' t c := fun t c z => ⟨by rw [nb 68 (by omega)]; exact z.1, by rw [nb 67 (by omega)]; exact z.2⟩
  refine ⟨E, hi, tN, r, C, a1, a2, a3, ⟨by rw [nb 5 (by omega)]; exact h1, by rw [nb 6 (by omega)]; exact h2, by rw [nb 7 (by omega)]; exact h3, by rw [nb 8 (by omega)]; exact h4, fun k hk => ?_, fun k hk => ?_, t, h7, by rw [nb 5 (by omega)]; exact h8, ct t h7 _ h9⟩, ⟨⟨(g59 0 (by decide)).trans a5.1.n, by rw [nb 60 (by omega)]; exact a5.1.kind, by rw [nb 61 (by omega)]; exact a5.1.told, by rw [nb 62 (by omega)]; exact a5.1.more, by rw [nb 64 (by omega)]; exact a5.1.people, by rw [nb 65 (by omega)]; exact a5.1.partner, ?_⟩, by rw [nb 63 (by omega)]; exact a5.2⟩, ?_, tp, ?_, ?_, ?_⟩
  · rw [rR_2 e2]; exact ⟨(h5 k hk).1, famA_2 e2 (h5 k hk).2⟩
  · rw [rR_2 e2]
    obtain ⟨x1, x2, x3, x4, x5⟩ := h6 k hk
    have no : ∀ b c, (rS T1 h b).1 = c → ¬ famP c → ¬ rR T1 h 1 k - 1 = b := fun b c hb hc z => hc (by rw [← hb, ← z]; exact x1.2)
    have n11 : ¬ famP 11 := fun z => by rcases z with z | z | z | z | z | z <;> exact absurd z (by decide)
    have n12 : ¬ famP 12 := fun z => by rcases z with z | z | z | z | z | z <;> exact absurd z (by decide)
    have n100 : ¬ famP 100 := fun z => by rcases z with z | z | z | z | z | z <;> exact absurd z (by decide)
    have e := g (rR T1 h 1 k - 1) (fun z => by
      simp only [List.mem_cons, List.not_mem_nil, or_false] at z
      rcases z with z | z | z | z
      · exact no 0 11 rfl n11 z
      · exact no 4 100 rfl n100 z
      · exact no 59 12 rfl n12 z
      · exact no 66 100 rfl n100 z)
    exact ⟨famA_2 e2 x1, by rw [rS_2 e2]; exact x2, by rw [e]; exact x3, by rw [e]; exact x4, by rw [e]; exact x5⟩
  · obtain ⟨r', c1, c2, c3⟩ := a5.1.text
    exact ⟨r', c1, (g59 12 (by decide)).trans c2, mt r' _ c3⟩
  · exact ⟨b1, b2, b3, (g0 8 (by decide)).trans b4, (g59 11 (by decide)).trans b5, by rw [nb 5 (by omega)]; exact b6, (g59 12 (by decide)).trans b7, fun t ht => ⟨(b8 t ht).1, ct t (by omega) _ (b8 t ht).2.1, mt t _ (b8 t ht).2.2⟩⟩
  · unfold Img at a8 ⊢
    rw [g59 13 (by decide), g59 14 (by decide), g59 15 (by decide), g0 10 (by decide), nb 9 (by omega), nb 10 (by omega), nb 11 (by omega), nb 12 (by omega), nb 69 (by omega)]
    exact a8
  · intro s hs
    rw [nb 70 (by omega), nb 71 (by omega), nb 72 (by omega), nb (51 + 2 * s) (by omega), nb (52 + 2 * s) (by omega)]
    exact a9 s hs
  · unfold Wds; rw [nb 74 (by omega)]; exact a10
def fdB (x2 x3 x4 x5 x6 : Int32) (k : Nat) : Int32 := if k = 0 then x2 else if k = 1 then x3 else if k = 2 then x4 else if k = 3 then x5 else x6
/-- k bytes have come: the tape's row a, its size at b c -/
def fdR (a b : Nat) (c : Int32) (L : Nat) (bs : Nat → Int32) (k : Nat) (h0 h : AH) : Prop := h.2 = h0.2 ∧ (∀ e, ¬ e = a → ¬ e = b → h.1 e = h0.1 e) ∧ (∀ j, ¬ j = c → h.1 b j = h0.1 b j) ∧ h.1 b c = nI (L + k) ∧ ∀ j, j < L + k → h.1 a (nI j) = if j < L then h0.1 a (nI j) else bs (j - L)
theorem fdR_0 {a b L : Nat} {c : Int32} {bs : Nat → Int32} {h0 : AH} (hb : h0.1 b c = nI L) : fdR a b c L bs 0 h0 h0 := ⟨rfl, fun _ _ _ => rfl, fun _ _ => rfl, hb, fun j hj => by rw [if_pos (by omega)]⟩
theorem fdR_s {a b L k : Nat} {c x y : Int32} {bs : Nat → Int32} {h0 h : AH} (R : fdR a b c L bs k h0 h) (hab : ¬ a = b) (hL : L + k < 1000000) (hx : x = bs k) (hy : y = nI (L + k + 1)) : fdR a b c L bs (k + 1) h0 (wI (wI h a (nI (L + k)) x) b c y) := by
  obtain ⟨r1, r2, r3, r4, r5⟩ := R
  have hba : ¬ b = a := fun z => hab z.symm
  refine ⟨r1, fun e he1 he2 => ?_, fun j hj => ?_, ?_, fun j hj => ?_⟩
  · rw [wI_r, if_neg he2, wI_r, if_neg he1]; exact r2 e he1 he2
  · rw [wI_r, if_pos rfl, up_n hj, wI_r, if_neg hba]; exact r3 j hj
  · rw [wI_r, if_pos rfl, up_s, hy]; rfl
  · rw [wI_r, if_neg hab, wI_r, if_pos rfl, up_a]
    by_cases e : j = L + k
    · subst e
      rw [if_pos rfl, if_neg (by omega), Nat.add_sub_cancel_left, hx]
    · rw [if_neg (fun z => e ((nI_inj (by omega) (by omega)).mp z))]
      exact r5 j (by omega)
theorem MO_feed_loop {n L : Nat} {x2 x3 x4 x5 x6 : Int32} {Q : Int32 → AH → Prop} {h0 : AH} (hn : n ≤ 5) (hL : L + n ≤ 160) (HQ : ∀ h', fdR 66 59 8 L (fdB x2 x3 x4 x5 x6) n h0 h' → Q (nI (L + n)) h') : ∀ (cnt k : Nat) (h : AH), k + cnt = n → fdR 66 59 8 L (fdB x2 x3 x4 x5 x6) k h0 h → p_MO_feed_68 Q (cnt + 1) (nI n) x2 x3 x4 x5 x6 (nI k) h := by
  intro cnt
  induction cnt with
  | zero =>
    intro k h hk R
    have hk' : k = n := by omega
    subst hk'
    simp only [p_MO_feed_68]
    rw [pT (Int32.le_refl _), R.2.2.2.1]
    exact HQ h R
  | succ cnt ih =>
    intro k h hk R
    obtain ⟨n', hn'⟩ : ∃ n', n' = cnt + 1 := ⟨_, rfl⟩
    rw [← hn']
    rw [← hn'] at ih
    simp only [p_MO_feed_68]
    rw [pF (fun z => by have := (nI_leN (by omega) (by omega)).mp z; omega), R.2.2.2.1]
    have go : ∀ x, x = fdB x2 x3 x4 x5 x6 k → p_MO_feed_125 Q (p_MO_feed_68 Q n') (nI n) x2 x3 x4 x5 x6 (nI k) (nI (L + k)) x h := fun x hx => by
      unfold p_MO_feed_125
      rw [R.2.2.2.1, nI_1, nI_1]
      exact ⟨inb_nI (by omega) (by omega), ih (k + 1) _ (by omega) (fdR_s R (by decide) (by omega) hx rfl)⟩
    have k5 : k = 0 ∨ k = 1 ∨ k = 2 ∨ k = 3 ∨ k = 4 := by omega
    rcases k5 with e | e | e | e | e <;> subst e
    · exact (nT rfl).mpr (go _ rfl)
    · exact (nF (by decide)).mpr ((nT rfl).mpr (go _ rfl))
    · exact (nF (by decide)).mpr ((nF (by decide)).mpr ((nT rfl).mpr (go _ rfl)))
    · exact (nF (by decide)).mpr ((nF (by decide)).mpr ((nF (by decide)).mpr ((nT rfl).mpr (go _ rfl))))
    · exact (nF (by decide)).mpr ((nF (by decide)).mpr ((nF (by decide)).mpr ((nF (by decide)).mpr (go _ rfl))))
theorem UF_put_spec {L k : Nat} {x : Int32} {bs : Nat → Int32} {Q : AH → Prop} {h0 h : AH} (R : fdR 4 0 9 L bs k h0 h) (hL : L + k < 160) (hx : x = bs k) (HQ : ∀ h', fdR 4 0 9 L bs (k + 1) h0 h' → Q h') : p_UF_put Q x h := by
  unfold p_UF_put
  rw [R.2.2.2.1]
  refine (pT ((nI_ltI (b := 160) (by omega) (by omega)).mpr hL)).mpr ⟨inb_nI (by omega) (by omega), HQ _ ?_⟩
  rw [nI_1]
  exact fdR_s R (by decide) (by omega) hx rfl
theorem both_feed {x1 x2 x3 x4 x5 x6 : Int32} {h : AH} (I : Inv h) : p_UF_feed (fun r1 h1 => p_MO_feed (K2 r1) x1 x2 x3 x4 x5 x6 h1) x1 x2 x3 x4 x5 x6 h := by
  have bad : ∀ v, v = -2 → (¬ (1 ≤ x1 ∧ x1 ≤ 5) ∨ ¬ (0 ≤ x2 ∧ x2 ≤ 255) ∨ ¬ (0 ≤ x3 ∧ x3 ≤ 255) ∨ ¬ (0 ≤ x4 ∧ x4 ≤ 255) ∨ ¬ (0 ≤ x5 ∧ x5 ≤ 255) ∨ ¬ (0 ≤ x6 ∧ x6 ≤ 255)) → p_MO_feed (K2 v) x1 x2 x3 x4 x5 x6 h := fun v hv hb => by
    unfold p_MO_feed
    rw [MO_in_iff]
    by_cases c1 : 1 ≤ x1 ∧ x1 ≤ 5
    · rw [b01_t c1]
      refine (pF (by decide)).mpr ?_
      rw [MO_isByte_iff]
      by_cases c2 : 0 ≤ x2 ∧ x2 ≤ 255
      · rw [b01_t c2]
        refine (pF (by decide)).mpr ?_
        rw [MO_isByte_iff]
        by_cases c3 : 0 ≤ x3 ∧ x3 ≤ 255
        · rw [b01_t c3]
          refine (pF (by decide)).mpr ?_
          rw [MO_isByte_iff]
          by_cases c4 : 0 ≤ x4 ∧ x4 ≤ 255
          · rw [b01_t c4]
            refine (pF (by decide)).mpr ?_
            rw [MO_isByte_iff]
            by_cases c5 : 0 ≤ x5 ∧ x5 ≤ 255
            · rw [b01_t c5]
              refine (pF (by decide)).mpr ?_
              rw [MO_isByte_iff]
              have c6 : ¬ (0 ≤ x6 ∧ x6 ≤ 255) := fun z => by
                rcases hb with hb | hb | hb | hb | hb | hb
                · exact hb c1
                · exact hb c2
                · exact hb c3
                · exact hb c4
                · exact hb c5
                · exact hb z
              rw [b01_f c6]
              exact (nT rfl).mpr ⟨hv, I⟩
            · rw [b01_f c5]; exact (pT rfl).mpr ⟨hv, I⟩
          · rw [b01_f c4]; exact (pT rfl).mpr ⟨hv, I⟩
        · rw [b01_f c3]; exact (pT rfl).mpr ⟨hv, I⟩
      · rw [b01_f c2]; exact (pT rfl).mpr ⟨hv, I⟩
    · rw [b01_f c1]; exact (pT rfl).mpr ⟨hv, I⟩
  unfold p_UF_feed
  rw [UF_within_iff]
  by_cases c1 : 1 ≤ x1 ∧ x1 ≤ 5
  rotate_left
  · rw [b01_f c1]; exact (nT rfl).mpr (bad _ rfl (Or.inl c1))
  rw [b01_t c1]
  refine (nF (by decide)).mpr ?_
  rw [UF_isByte_iff]
  by_cases c2 : 0 ≤ x2 ∧ x2 ≤ 255
  rotate_left
  · rw [b01_f c2]; exact (pT rfl).mpr (bad _ rfl (Or.inr (Or.inl c2)))
  rw [b01_t c2]
  refine (pF (by decide)).mpr ?_
  rw [UF_isByte_iff]
  by_cases c3 : 0 ≤ x3 ∧ x3 ≤ 255
  rotate_left
  · rw [b01_f c3]; exact (pT rfl).mpr (bad _ rfl (Or.inr (Or.inr (Or.inl c3))))
  rw [b01_t c3]
  refine (pF (by decide)).mpr ?_
  rw [UF_isByte_iff]
  by_cases c4 : 0 ≤ x4 ∧ x4 ≤ 255
  rotate_left
  · rw [b01_f c4]; exact (pT rfl).mpr (bad _ rfl (Or.inr (Or.inr (Or.inr (Or.inl c4)))))
  rw [b01_t c4]
  refine (pF (by decide)).mpr ?_
  rw [UF_isByte_iff]
  by_cases c5 : 0 ≤ x5 ∧ x5 ≤ 255
  rotate_left
  · rw [b01_f c5]; exact (pT rfl).mpr (bad _ rfl (Or.inr (Or.inr (Or.inr (Or.inr (Or.inl c5))))))
  rw [b01_t c5]
  refine (pF (by decide)).mpr ?_
  rw [UF_isByte_iff]
  by_cases c6 : 0 ≤ x6 ∧ x6 ≤ 255
  rotate_left
  · rw [b01_f c6]; exact (nT rfl).mpr (bad _ rfl (Or.inr (Or.inr (Or.inr (Or.inr (Or.inr c6))))))
  rw [b01_t c6]
  refine (nF (by decide)).mpr ?_
  have I0 := I
  obtain ⟨E, hi, tN, r, C, a1, a2, a3, a4, a5, a6, a7, a8, a9, a10⟩ := I0
  obtain ⟨L, hL, l1, l2, l3⟩ := a7
  have hx1 : ∃ n, 1 ≤ n ∧ n ≤ 5 ∧ x1 = nI n := by
    have q1 := Int32.le_iff_toInt_le.mp c1.1
    have q2 := Int32.le_iff_toInt_le.mp c1.2
    have e1 : (1 : Int32).toInt = 1 := by decide
    have e5 : (5 : Int32).toInt = 5 := by decide
    rw [e1] at q1; rw [e5] at q2
    exact ⟨x1.toInt.toNat, by omega, by omega, nI_ofT (by omega)⟩
  obtain ⟨n, n1, n5, rfl⟩ := hx1
  have open1 : ∀ v h1, h1.1 59 8 = nI L → (nI L + nI n ≤ 160 → ∃ k, p_MO_feed_68 (K2 v) k (nI n) x2 x3 x4 x5 x6 0 h1) → (¬ nI L + nI n ≤ 160 → K2 v (-4) h1) → p_MO_feed (K2 v) (nI n) x2 x3 x4 x5 x6 h1 := fun v h1 e8 H1 H2 => by
    unfold p_MO_feed
    rw [MO_in_iff, b01_t c1]
    refine (pF (by decide)).mpr ?_
    rw [MO_isByte_iff, b01_t c2]
    refine (pF (by decide)).mpr ?_
    rw [MO_isByte_iff, b01_t c3]
    refine (pF (by decide)).mpr ?_
    rw [MO_isByte_iff, b01_t c4]
    refine (pF (by decide)).mpr ?_
    rw [MO_isByte_iff, b01_t c5]
    refine (pF (by decide)).mpr ?_
    rw [MO_isByte_iff, b01_t c6]
    refine (nF (by decide)).mpr ?_
    rw [e8]
    exact ⟨H1, H2⟩
  rw [l1]
  by_cases c7 : nI L + nI n ≤ 160
  · refine (pT c7).mpr ?_
    have hLn : L + n ≤ 160 := by rw [nI_add] at c7; exact (nI_leN (b := 160) (by omega) (by decide)).mp c7
    obtain ⟨bs, hbs⟩ : ∃ bs, bs = fdB x2 x3 x4 x5 x6 := ⟨_, rfl⟩
    have fin : ∀ h2, fdR 4 0 9 L bs n h h2 → p_MO_feed (K2 (h2.1 0 9)) (nI n) x2 x3 x4 x5 x6 h2 := fun h2 R2 => by
      have R2' := R2
      obtain ⟨r1, r2, r3, r4, r5⟩ := R2'
      have e8 : h2.1 59 8 = nI L := by rw [r2 59 (by decide) (by decide)]; exact l2
      refine open1 _ h2 e8 (fun _ => ⟨n + 1, MO_feed_loop n5 hLn (fun h3 R3 => ⟨?_, ?_⟩) n 0 h2 (by omega) (fdR_0 e8)⟩) (fun z => absurd c7 z)
      · exact r4
      · obtain ⟨s1, s2, s3, s4, s5⟩ := R3
        refine Inv_tape I (s1.trans r1) (fun b hb => ?_) (fun j hj => ?_) (fun j hj => ?_) ⟨L + n, hLn, ?_, s4, fun j hj => ?_⟩
        · simp only [List.mem_cons, List.not_mem_nil, or_false, not_or] at hb
          rw [s2 b hb.2.2.2 hb.2.2.1, r2 b hb.2.1 hb.1]
        · rw [s2 0 (by decide) (by decide)]; exact r3 j hj
        · rw [s3 j hj, r2 59 (by decide) (by decide)]
        · rw [s2 0 (by decide) (by decide)]; exact r4
        · rw [s2 4 (by decide) (by decide), r5 j hj, s5 j hj, r2 66 (by decide) (by decide), ← hbs]
          by_cases q : j < L
          · rw [if_pos q, if_pos q]; exact l3 j q
          · rw [if_neg q, if_neg q, hbs]
            refine ⟨rfl, ?_⟩
            have b255 : ∀ x : Int32, 0 ≤ x ∧ x ≤ 255 → 0 ≤ x.toInt ∧ x.toInt ≤ 255 := fun x hx => rg (n := 255) (by decide) hx
            have j5 : j - L < 5 := by omega
            unfold fdB
            by_cases j0 : j - L = 0
            · rw [if_pos j0]; exact b255 _ c2
            rw [if_neg j0]
            by_cases j1 : j - L = 1
            · rw [if_pos j1]; exact b255 _ c3
            rw [if_neg j1]
            by_cases j2 : j - L = 2
            · rw [if_pos j2]; exact b255 _ c4
            rw [if_neg j2]
            by_cases j3 : j - L = 3
            · rw [if_pos j3]; exact b255 _ c5
            rw [if_neg j3]; exact b255 _ c6
    have le : ∀ m : Nat, m < 100 → (nI n ≤ nI m ↔ n ≤ m) := fun m hm => nI_leN (by omega) (by omega)
    have R0 : fdR 4 0 9 L bs 0 h h := fdR_0 l1
    refine UF_put_spec R0 (by omega) (by rw [hbs]; rfl) (fun h1 R1 => ?_)
    have s105 : ∀ h2, (n ≤ 4 → fdR 4 0 9 L bs n h h2) → (n = 5 → fdR 4 0 9 L bs 4 h h2) → p_UF_feed_105 (fun r1 h1 => p_MO_feed (K2 r1) (nI n) x2 x3 x4 x5 x6 h1) (nI n) x6 h2 := fun h2 A B => by
      unfold p_UF_feed_105
      by_cases q : n ≤ 4
      · exact (pT ((le 4 (by decide)).mpr q)).mpr (fin h2 (A q))
      · refine (pF (fun z => q ((le 4 (by decide)).mp z))).mpr (UF_put_spec (B (by omega)) (by omega) (by rw [hbs]; rfl) (fun h3 R3 => ?_))
        have : n = 5 := by omega
        subst this
        exact fin h3 R3
    have s94 : ∀ h2, (n ≤ 3 → fdR 4 0 9 L bs n h h2) → (4 ≤ n → fdR 4 0 9 L bs 3 h h2) → p_UF_feed_94 (fun r1 h1 => p_MO_feed (K2 r1) (nI n) x2 x3 x4 x5 x6 h1) (nI n) x5 x6 h2 := fun h2 A B => by
      unfold p_UF_feed_94
      by_cases q : n ≤ 3
      · exact (pT ((le 3 (by decide)).mpr q)).mpr (s105 h2 (fun _ => A q) (fun z => absurd z (by omega)))
      · refine (pF (fun z => q ((le 3 (by decide)).mp z))).mpr (UF_put_spec (B (by omega)) (by omega) (by rw [hbs]; rfl) (fun h3 R3 => ?_))
        exact s105 h3 (fun z => by have e : n = 4 := by omega
                                   rw [e]; exact R3) (fun _ => R3)
    have s83 : ∀ h2, (n ≤ 2 → fdR 4 0 9 L bs n h h2) → (3 ≤ n → fdR 4 0 9 L bs 2 h h2) → p_UF_feed_83 (fun r1 h1 => p_MO_feed (K2 r1) (nI n) x2 x3 x4 x5 x6 h1) (nI n) x4 x5 x6 h2 := fun h2 A B => by
      unfold p_UF_feed_83
      by_cases q : n ≤ 2
      · exact (pT ((le 2 (by decide)).mpr q)).mpr (s94 h2 (fun _ => A q) (fun z => absurd z (by omega)))
      · refine (pF (fun z => q ((le 2 (by decide)).mp z))).mpr (UF_put_spec (B (by omega)) (by omega) (by rw [hbs]; rfl) (fun h3 R3 => ?_))
        exact s94 h3 (fun z => by have e : n = 3 := by omega
                                  rw [e]; exact R3) (fun _ => R3)
    by_cases q : n ≤ 1
    · refine (pT ((le 1 (by decide)).mpr q)).mpr (s83 h1 (fun _ => ?_) (fun z => absurd z (by omega)))
      have e : n = 1 := by omega
      rw [e]; exact R1
    · refine (pF (fun z => q ((le 1 (by decide)).mp z))).mpr (UF_put_spec R1 (by omega) (by rw [hbs]; rfl) (fun h3 R3 => ?_))
      exact s83 h3 (fun z => by have e : n = 2 := by omega
                                rw [e]; exact R3) (fun _ => R3)
  · refine (pF c7).mpr ?_
    exact open1 _ h l2 (fun z => absurd z c7) (fun _ => ⟨rfl, I⟩)
