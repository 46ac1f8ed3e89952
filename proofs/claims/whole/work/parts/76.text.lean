/-! pure: text -/
theorem TOK_len {b : Nat → Int32} {L : Nat} : ∀ (c k p : Nat) (es : List (List Int32)), TOK b L c k p es → es.length = c := by
  intro c
  induction c with
  | zero => intro k p es T; rw [T.1]; rfl
  | succ c ih =>
    intro k p es T
    obtain ⟨e, p', es', rfl, _, T'⟩ := T
    rw [List.length_cons, ih _ _ _ T']
theorem TOK_wf {b : Nat → Int32} {L : Nat} : ∀ (c k p : Nat) (es : List (List Int32)), TOK b L c k p es → ∀ i, i < c → wfS (cE es i) 0 := by
  intro c
  induction c with
  | zero => intro k p es _ i hi; omega
  | succ c ih =>
    intro k p es T i hi
    obtain ⟨e, p', es', rfl, ⟨_, q, P2, _⟩, T'⟩ := T
    cases i with
    | zero =>
      have := P2.2.1 0 [] rfl
      rw [List.append_nil] at this
      exact this
    | succ i => exact ih _ _ _ T' i (by omega)
theorem Inv_text {E : EV} {hi : Nat → Int32} {tN tM r : Nat} {C : Nat → Nat → List Int32} {c : Nat → List Int32} {h h' : AH} (I : InvB E hi tN r C h) (ht : tN < 6) (f1 : h'.2.2.2 = h.2.2.2) (f2 : ∀ a, ¬ a = 25 → h'.2.2.1 a = h.2.2.1 a)
    (g : ∀ b, ¬ b = 0 → b ∉ SCf tN → b ∉ [59, 67, 68, 75] → h'.1 b = h.1 b) (g0 : ∀ j, ¬ j = 8 → ¬ j = 9 → h'.1 0 j = h.1 0 j) (g59 : ∀ j, kq j → ¬ j = 8 → ¬ j = 11 → h'.1 59 j = h.1 59 j) (g67 : ∀ j, j < 1200 → ¬ (200 * tN ≤ j ∧ j < 200 * tN + 200) → h'.1 67 (nI j) = h.1 67 (nI j)) (g68 : ∀ j, j < 24 → ¬ (4 * tN ≤ j ∧ j < 4 * tN + 4) → h'.1 68 (nI j) = h.1 68 (nI j))
    (e09 : h'.1 0 9 = 0) (e598 : h'.1 59 8 = 0) (e08 : h'.1 0 8 = nI tM) (e5911 : h'.1 59 11 = nI tM) (new : tM = tN ∨ (tM = tN + 1 ∧ okC c ∧ CT h' tN c ∧ MT h' tN c)) : Inv h' := by
  obtain ⟨a1, a2, a3, a4, a5, a6, a7, a8, a9, a10⟩ := I
  obtain ⟨h1, h2, h3, h4, h5, h6, t, h7, h8, h9⟩ := a4
  obtain ⟨b1, b2, b3, b4, b5, b6, b7, b8⟩ := a6
  have nb : ∀ b, ((0 < b ∧ b < 25) ∨ (25 < b ∧ b < 33) ∨ (50 < b ∧ b < 59) ∨ (59 < b ∧ b < 67) ∨ (68 < b ∧ b < 75) ∨ 75 < b) → h'.1 b = h.1 b := fun b hb => g b (by omega) (fun z => by simp only [SCf, List.mem_cons, List.not_mem_nil, or_false] at z; omega) (fun z => by simp only [List.mem_cons, List.not_mem_nil, or_false] at z; omega)
  have et : t = r := (nI_inj (by omega) (by omega)).mp (h8.symm.trans b6)
  subst et
  have ct : ∀ u, u < tN → ∀ c, CT h u c → CT h' u c := fun u hu c z => by
    have m1 : h'.1 (35 + 3 * u) = h.1 (35 + 3 * u) := g _ (by omega) (fun z => by simp only [SCf, List.mem_cons, List.not_mem_nil, or_false] at z; omega) (fun z => by simp only [List.mem_cons, List.not_mem_nil, or_false] at z; omega)
    have m2 : h'.1 (34 + 3 * u) = h.1 (34 + 3 * u) := g _ (by omega) (fun z => by simp only [SCf, List.mem_cons, List.not_mem_nil, or_false] at z; omega) (fun z => by simp only [List.mem_cons, List.not_mem_nil, or_false] at z; omega)
    exact ⟨by rw [m1]; exact z.1, by rw [m2]; exact z.2⟩
  have mt : ∀ u, u < tN → ∀ c, offC c 3 ≤ 160 → MT h u c → MT h' u c := fun u hu c hc z => by
    refine ⟨fun p hp => ?_, fun p hp j hj => ?_⟩
    · rw [g68 (4 * u + p) (by omega) (by omega)]; exact z.1 p hp
    · have l1 : offC c (p + 1) ≤ offC c 3 := offC_le (by omega)
      have l2 : offC c (p + 1) = offC c p + (c p).length := rfl
      rw [g67 _ (by omega) (by omega)]; exact z.2 p hp j hj
  have er : ∀ k, rR T1 h' 1 k = rR T1 h 1 k := fun k => by
    show h'.2.2.1 1 k = h.2.2.1 1 k
    rw [f2 1 (by decide)]
  have es : ∀ a, rS T1 h' a = rS T1 h a := fun a => by unfold rS; rw [f1]
  have ef : ∀ a, famA T1 h a → famA T1 h' a := fun a z => ⟨by unfold vA nC; rw [f1]; exact z.1, by rw [es]; exact z.2⟩
  obtain ⟨l1, l2, l3, l4, l5, l6, l7, l8⟩ := lawT ht h
  have tMN : tN ≤ tM ∧ tM ≤ 6 := by rcases new with z | z <;> omega
  obtain ⟨C', eC'⟩ : ∃ C' : Nat → Nat → List Int32, C' = fun u => if u = tN then c else C u := ⟨_, rfl⟩
  have C'r : ∀ u, u < tN → C' u = C u := fun u hu => by rw [eC']; exact if_neg (by omega)
  refine ⟨E, hi, tM, t, C', a1, a2.trans (C'r t b3).symm, a3, ⟨by rw [nb 5 (by omega)]; exact h1, by rw [nb 6 (by omega)]; exact h2, by rw [nb 7 (by omega)]; exact h3, by rw [nb 8 (by omega)]; exact h4, fun k hk => ?_, fun k hk => ?_, t, h7, by rw [nb 5 (by omega)]; exact h8, ct t b3 _ h9⟩, ⟨⟨(g59 0 (by unfold kq; decide) (by decide) (by decide)).trans a5.1.n, by rw [nb 60 (by omega)]; exact a5.1.kind, by rw [nb 61 (by omega)]; exact a5.1.told, by rw [nb 62 (by omega)]; exact a5.1.more, by rw [nb 64 (by omega)]; exact a5.1.people, by rw [nb 65 (by omega)]; exact a5.1.partner, ?_⟩, by rw [nb 63 (by omega)]; exact a5.2⟩, ?_, ?_, ?_, ?_, ?_⟩
  · rw [er]; exact ⟨(h5 k hk).1, ef _ (h5 k hk).2⟩
  · rw [er]
    obtain ⟨x1, x2, x3, x4, x5⟩ := h6 k hk
    have no : ∀ b c, (rS T1 h b).1 = c → ¬ famP c → ¬ rR T1 h 1 k - 1 = b := fun b c hb hc z => hc (by rw [← hb, ← z]; exact x1.2)
    have nf : ∀ c, (c = 6 ∨ c = 7 ∨ c = 11 ∨ c = 12 ∨ c = 100) → ¬ famP c := fun c hc z => by
      rcases hc with rfl | rfl | rfl | rfl | rfl <;> (rcases z with z | z | z | z | z | z <;> exact absurd z (by decide))
    have e := g (rR T1 h 1 k - 1) (no 0 11 rfl (nf _ (by decide))) (fun z => by
      simp only [SCf, List.mem_cons, List.not_mem_nil, or_false] at z
      rcases z with z | z | z | z
      · exact no 25 7 rfl (nf _ (by decide)) z
      · exact no _ 6 l2 (nf _ (by decide)) z
      · exact no _ 100 (by rw [l6]) (nf _ (by decide)) z
      · exact no _ 100 (by rw [l8]) (nf _ (by decide)) z) (fun z => by
      simp only [List.mem_cons, List.not_mem_nil, or_false] at z
      rcases z with z | z | z | z
      · exact no 59 12 rfl (nf _ (by decide)) z
      · exact no 67 100 rfl (nf _ (by decide)) z
      · exact no 68 100 rfl (nf _ (by decide)) z
      · exact no 75 100 rfl (nf _ (by decide)) z)
    exact ⟨ef _ x1, by rw [es]; exact x2, by rw [e]; exact x3, by rw [e]; exact x4, by rw [e]; exact x5⟩
  · obtain ⟨r', c1, c2, c3⟩ := a5.1.text
    have e2 : r' = t := (nI_inj (by omega) (by omega)).mp (c2.symm.trans b7)
    subst e2
    exact ⟨r', c1, (g59 12 (by unfold kq; decide) (by decide) (by decide)).trans c2, mt r' b3 _ (by rw [a2]; exact (b8 r' b3).1.2) c3⟩
  · refine ⟨by omega, tMN.2, by omega, e08, e5911, by rw [nb 5 (by omega)]; exact b6, (g59 12 (by unfold kq; decide) (by decide) (by decide)).trans b7, fun u hu => ?_⟩
    by_cases q : u < tN
    · rw [C'r u q]
      exact ⟨(b8 u q).1, ct u q _ (b8 u q).2.1, mt u q _ (b8 u q).1.2 (b8 u q).2.2⟩
    · rcases new with z | ⟨z, z1, z2, z3⟩
      · omega
      · have eu : u = tN := by omega
        have e9 : C' u = c := by rw [eC']; exact if_pos eu
        rw [e9, eu]
        exact ⟨z1, z2, z3⟩
  · exact ⟨0, by omega, e09, e598, fun j hj => absurd hj (Nat.not_lt_zero j)⟩
  · have a8' := a8
    unfold Img at a8' ⊢
    rw [g59 13 (by unfold kq; decide) (by decide) (by decide), g59 14 (by unfold kq; decide) (by decide) (by decide), g59 15 (by unfold kq; decide) (by decide) (by decide), g0 10 (by decide) (by decide), nb 9 (by omega), nb 10 (by omega), nb 11 (by omega), nb 12 (by omega), nb 69 (by omega)]
    refine ⟨a8'.1, fun z => ?_⟩
    obtain ⟨K, r', hi', pe, pa, k1, k2, k3⟩ := a8'.2 z
    exact ⟨K, r', hi', pe, pa, k1, by omega, k3⟩
  · intro s hs
    rw [nb 70 (by omega), nb 71 (by omega), nb 72 (by omega), nb (51 + 2 * s) (by omega), nb (52 + 2 * s) (by omega)]
    exact a9 s hs
  · unfold Wds; rw [nb 74 (by omega)]; exact a10
def P_read : (Int32 → AH → Prop) → Nat → Int32 → Nat → AH → Prop := fun Q a1 x2 a3 h => p_Reader_read Q (PRd 42 0) a1 x2 a3 h
theorem both_text {h : AH} (I : Inv h) : p_UF_text (fun r1 h1 => p_MO_text (K2 r1) h1) P_read h := by
  have I0 := I
  obtain ⟨E, hi, tN, r, C, IB⟩ := I
  have IB' := IB
  obtain ⟨a1, a2, a3, a4, a5, a6, a7, a8, a9, a10⟩ := IB'
  obtain ⟨b1, b2, b3, b4, b5, b6, b7, b8⟩ := a6
  obtain ⟨L, hL, l1, l2, l3⟩ := a7
  unfold p_UF_text
  rw [b4, l1]
  by_cases c : tN < 6
  · refine (pT ((nI_ltI (b := 6) (by omega) (by decide)).mpr c)).mpr ?_
    have e2 : rR T1 h 2 tN = 33 + 3 * tN + 1 := by
      have h6 : tN = 0 ∨ tN = 1 ∨ tN = 2 ∨ tN = 3 ∨ tN = 4 ∨ tN = 5 := by omega
      rcases h6 with rfl | rfl | rfl | rfl | rfl | rfl <;> rfl
    rw [nI_clamp (by omega), e2, Nat.add_sub_cancel]
    refine ⟨inb_nI (by omega) (by omega), Nat.succ_pos _, ?_⟩
    obtain ⟨b, eb⟩ : ∃ b : Nat → Int32, b = fun j => h.1 66 (nI j) := ⟨_, rfl⟩
    have sp : SpecR b L tN 0 0 (PRd 42 0) := PRd_spec hL c 42 0 0 (by omega) (by omega) (by omega)
    /- what stands behind the class's call -/
    have mid : ∀ h1 h2, frP tN h h1 → (∀ b, ¬ b = 0 → h2.1 b = h1.1 b) → h2.2 = h1.2 → (∀ j, ¬ j = 8 → ¬ j = 9 → h2.1 0 j = h1.1 0 j) → ∀ (Q : Int32 → AH → Prop), (∀ h3, MH b L tN h3 0 0 [] [] h3 → (∀ h4, frM tN h3 h4 → (h4.2.2.2 = h.2.2.2 ∧ (∀ a, ¬ a = 25 → h4.2.2.1 a = h.2.2.1 a) ∧ (∀ b, ¬ b = 0 → b ∉ SCf tN → b ∉ [59, 67, 68, 75] → h4.1 b = h.1 b) ∧ (∀ j, ¬ j = 8 → ¬ j = 9 → h4.1 0 j = h.1 0 j) ∧ (∀ j, kq j → h4.1 59 j = h.1 59 j) ∧ (∀ j, j < 1200 → ¬ (200 * tN ≤ j ∧ j < 200 * tN + 200) → h4.1 67 (nI j) = h.1 67 (nI j)) ∧ (∀ j, j < 24 → ¬ (4 * tN ≤ j ∧ j < 4 * tN + 4) → h4.1 68 (nI j) = h.1 68 (nI j)) ∧ h4.1 0 = h2.1 0 ∧ ∀ b, b ∈ SCf tN → h4.1 b = h1.1 b)) → p_MO_text_26 Q 4 1 0 h3) → p_MO_text Q h2 := fun h1 h2 f1 g2 g2' g20 Q H => by
      have n59 : (59 : Nat) ∉ SCf tN := fun z => by simp only [SCf, List.mem_cons, List.not_mem_nil, or_false] at z; omega
      have n0 : (0 : Nat) ∉ SCf tN := fun z => by simp only [SCf, List.mem_cons, List.not_mem_nil, or_false] at z; omega
      have nn : ∀ x, 50 < x → x ∉ SCf tN := fun x hx z => by simp only [SCf, List.mem_cons, List.not_mem_nil, or_false] at z; omega
      have e59 : h2.1 59 = h.1 59 := (g2 59 (by decide)).trans (f1.2.2 59 n59)
      unfold p_MO_text
      rw [e59, b5]
      refine (nF (fun z => by have := (nI_inj (b := 6) (by omega) (by decide)).mp z; omega)).mpr ⟨4, ?_⟩
      obtain ⟨h3, eh3⟩ : ∃ h3, h3 = wI (wI h2 59 21 0) 59 29 0 := ⟨_, rfl⟩
      rw [← eh3]
      have k3 : ∀ b, ¬ b = 59 → h3.1 b = h2.1 b := fun b hb => by rw [eh3, wI_r, if_neg hb, wI_r, if_neg hb]
      have k59 : ∀ j, ¬ j = 21 → ¬ j = 29 → h3.1 59 j = h.1 59 j := fun j j1 j2 => by rw [eh3, r59, if_neg j2, r59, if_neg j1, e59]
      have k2 : h3.2 = h2.2 := by rw [eh3]; rfl
      refine H h3 ⟨⟨?_, fun j hj => ?_, ?_⟩, ?_, ?_, fun j hj => absurd hj (Nat.not_lt_zero j), frM_rf, ⟨Nat.le_refl _, Nat.zero_le _⟩, ?_, fun j hj => absurd hj (Nat.not_lt_zero j)⟩ (fun h4 f4 => ⟨?_, fun a ha => ?_, fun x x0 x1 x2 => ?_, fun j j1 j2 => ?_, fun j hj => ?_, fun j j1 j2 => ?_, fun j j1 j2 => ?_, ?_, fun x hx => ?_⟩)
      · rw [k59 8 (by decide) (by decide)]; exact l2
      · rw [k3 66 (by decide), g2 66 (by decide), f1.2.2 66 (nn 66 (by decide)), eb]
      · unfold Wds; rw [k3 74 (by decide), g2 74 (by decide), f1.2.2 74 (nn 74 (by decide))]; exact a10
      · rw [eh3, r59, if_neg (by decide), r59, if_pos rfl]; rfl
      · rw [eh3, r59, if_pos rfl]; rfl
      · rw [k59 11 (by decide) (by decide)]; exact b5
      · rw [f4.1, k2, g2']; exact f1.1
      · rw [f4.1, k2, g2']; exact f1.2.1 a ha
      · rw [f4.2.1 x x2, k3 x (fun z => x2 (by rw [z]; decide)), g2 x x0, f1.2.2 x x1]
      · rw [f4.2.1 0 (by decide), k3 0 (by decide), g20 j j1 j2, f1.2.2 0 n0]
      · rw [f4.2.2.1 j hj, k59 j hj.1 hj.2.2.2.2.2.2]
      · rw [f4.2.2.2.1 j j1 j2, k3 67 (by decide), g2 67 (by decide), f1.2.2 67 (nn 67 (by decide))]
      · rw [f4.2.2.2.2 j j1 j2, k3 68 (by decide), g2 68 (by decide), f1.2.2 68 (nn 68 (by decide))]
      · rw [f4.2.1 0 (by decide), k3 0 (by decide)]
      · have hx' : ¬ x = 0 ∧ x ∉ [59, 67, 68, 75] := by
          simp only [SCf, List.mem_cons, List.not_mem_nil, or_false] at hx ⊢; omega
        rw [f4.2.1 x hx'.2, k3 x (fun z => hx'.2 (by rw [z]; decide)), g2 x hx'.1]
    show p_Reader_read _ (PRd 42 0) 4 (nI L) (33 + 3 * tN) h
    refine Reader_read_spec hL c sp (fun j hj => by rw [eb]; exact (l3 j hj).1) (fun es o' h1 A1 A2 A3 A4 A5 f1 => ?_) (fun s h1 A1 A2 f1 => ?_)
    · refine (pT (by decide)).mpr ?_
      have n0 : (0 : Nat) ∉ SCf tN := fun z => by simp only [SCf, List.mem_cons, List.not_mem_nil, or_false] at z; omega
      have e08 : h1.1 0 8 = nI tN := by rw [f1.2.2 0 n0]; exact b4
      rw [e08, nI_1, nI_sub1]
      refine mid h1 (wI (wI h1 0 9 0) 0 8 (nI (tN + 1))) f1 (fun x x0 => by rw [wI_r, if_neg x0, wI_r, if_neg x0]) rfl (fun j j1 j2 => by rw [wI_r, if_pos rfl, up_n j1, wI_r, if_pos rfl, up_n j2]) _ (fun h3 M3 fin => ?_)
      refine mtext_ok hL c 3 0 0 [] [] es h3 rfl rfl ⟨rfl, fun p hp => absurd hp (Nat.not_lt_zero p)⟩ M3 A1 (fun o2 h4 B1 B2 B3 B4 B5 => ⟨rfl, ?_⟩)
      obtain ⟨F1, F2, F3, F4, F5, F6, F7, F8, F9⟩ := fin h4 B4
      have hlen := TOK_len _ _ _ _ A1
      have k : ∀ x, ¬ x = 59 → (wI (wI h4 59 8 0) 59 11 (nI (tN + 1))).1 x = h4.1 x := fun x hx => by rw [wI_r, if_neg hx, wI_r, if_neg hx]
      have r0 : h4.1 0 = up (up (h1.1 0) 9 0) 8 (nI (tN + 1)) := by rw [F8]; rfl
      have m33 : ∀ x, x ∈ SCf tN → ¬ x = 59 := fun x hx z => by simp only [SCf, List.mem_cons, List.not_mem_nil, or_false] at hx; omega
      refine Inv_text (c := cE es) (tM := tN + 1) IB c F1 F2 (fun x x0 x1 x2 => ?_) (fun j j1 j2 => ?_) (fun j j1 j2 j3 => ?_) (fun j j1 j2 => ?_) (fun j j1 j2 => ?_) ?_ ?_ ?_ ?_ (Or.inr ⟨rfl, ⟨fun p hp => TOK_wf _ _ _ _ A1 p hp, ?_⟩, ⟨fun p hp => ?_, fun p hp j hj => ?_⟩, ⟨fun p hp => ?_, fun p hp j hj => ?_⟩⟩)
      · rw [k x (fun z => x2 (by rw [z]; decide))]; exact F3 x x0 x1 x2
      · rw [k 0 (by decide)]; exact F4 j j1 j2
      · rw [r59, if_neg j3, r59, if_neg j2]; exact F5 j j1
      · rw [k 67 (by decide)]; exact F6 j j1 j2
      · rw [k 68 (by decide)]; exact F7 j j1 j2
      · rw [k 0 (by decide), r0, up_n (by decide), up_s]
      · rw [r59, if_neg (by decide), r59, if_pos rfl]
      · rw [k 0 (by decide), r0, up_s]
      · rw [r59, if_pos rfl]
      · have := A2.1; rw [hlen] at this; omega
      · rw [k _ (by omega), F9 _ (by simp [SCf])]
        by_cases p3 : p < 3
        · exact A5.1 p p3
        · have e3 : p = 3 := by omega
          rw [e3]; exact A5.2 (by omega)
      · have l9 := A2.1
        rw [hlen] at l9
        have l1' : offC (cE es) (p + 1) ≤ offC (cE es) 3 := offC_le (by omega)
        have l2' : offC (cE es) (p + 1) = offC (cE es) p + (cE es p).length := rfl
        rw [k _ (by omega), F9 _ (by simp [SCf]), A4 _ (by omega), A2.2 p (by omega) j hj]
      · rw [k 68 (by decide)]; exact B5 p hp
      · have l9 := B1.1
        rw [List.nil_append, hlen] at l9
        have l1' : offC (cE es) (p + 1) ≤ offC (cE es) 3 := offC_le (by omega)
        have l2' : offC (cE es) (p + 1) = offC (cE es) p + (cE es p).length := rfl
        have B12 := B1.2
        rw [List.nil_append] at B12
        rw [k 67 (by decide), B3 _ (by omega), B12 p (by omega) j hj]
    · refine (pF (fun z => by rw [lt0_iff, nI_toInt (by omega)] at z; omega)).mpr ?_
      refine mid h1 (wI h1 0 9 0) f1 (fun x x0 => by rw [wI_r, if_neg x0]) rfl (fun j j1 j2 => by rw [wI_r, if_pos rfl, up_n j2]) _ (fun h3 M3 fin => ?_)
      refine mtext_f hL c (fun h4 B4 => ⟨rfl, ?_⟩) 3 0 0 [] [] h3 rfl rfl ⟨rfl, fun p hp => absurd hp (Nat.not_lt_zero p)⟩ M3 A1
      obtain ⟨F1, F2, F3, F4, F5, F6, F7, F8, F9⟩ := fin h4 B4
      have n0 : (0 : Nat) ∉ SCf tN := fun z => by simp only [SCf, List.mem_cons, List.not_mem_nil, or_false] at z; omega
      have k : ∀ x, ¬ x = 59 → (wI h4 59 8 0).1 x = h4.1 x := fun x hx => by rw [wI_r, if_neg hx]
      have r0 : h4.1 0 = up (h1.1 0) 9 0 := by rw [F8]; rfl
      refine Inv_text (c := fun _ => []) (tM := tN) IB c F1 F2 (fun x x0 x1 x2 => ?_) (fun j j1 j2 => ?_) (fun j j1 j2 j3 => ?_) (fun j j1 j2 => ?_) (fun j j1 j2 => ?_) ?_ ?_ ?_ ?_ (Or.inl rfl)
      · rw [k x (fun z => x2 (by rw [z]; decide))]; exact F3 x x0 x1 x2
      · rw [k 0 (by decide)]; exact F4 j j1 j2
      · rw [r59, if_neg j2]; exact F5 j j1
      · rw [k 67 (by decide)]; exact F6 j j1 j2
      · rw [k 68 (by decide)]; exact F7 j j1 j2
      · rw [k 0 (by decide), r0, up_s]
      · rw [r59, if_pos rfl]
      · rw [k 0 (by decide), r0, up_n (by decide), f1.2.2 0 n0]; exact b4
      · rw [r59, if_neg (by decide), F5 11 (by unfold kq; decide)]; exact b5
  · have c6 : tN = 6 := by omega
    refine (pF (by rw [c6]; decide)).mpr ?_
    show p_MO_text (K2 _) h
    exact (nT (by rw [b5, c6]; rfl)).mpr ⟨rfl, I0⟩
