/-! pure: house, housesBy -/
def extE (E : EV) (x0 x1 x2 : Int32) : EV := (E.N + 1, upN E.kind E.N x0, upN E.told E.N x1, upN E.more E.N x2, upN E.people E.N 0, upN E.partner E.N (-1), E.c)
theorem rowR_s {N : Nat} {f : Int32 → Int32} {g : Nat → Int32} {x : Int32} (hN : N < 100) (R : rowR N f g) : rowR (N + 1) (up f (nI N) x) (upN g N x) := fun j hj => by
  rw [up_a, upN]
  by_cases e : j = N
  · subst e; rw [if_pos rfl, if_pos rfl]
  · rw [if_neg (fun z => e ((nI_inj (by omega) (by omega)).mp z)), if_neg e]; exact R j (by omega)
theorem grow5 {Q : AH → Prop} {h : AH} (hi : inb (h.1 5 3) 7) (hl : h.1 5 3 < 7) (H : Q (wI (wI (wI (wI h 6 (h.1 5 3) 9) 7 (h.1 5 3) 0) 8 (h.1 5 3) (-1)) 5 3 (h.1 5 3 + 1))) : p_Town_grow Q 5 h :=
  ⟨vA_s (show 5 < 84 by decide), rfl, (pT hl).mpr ⟨Nat.succ_pos _, vA_s (show 6 < 84 by decide), rfl, hi, Nat.succ_pos _, vA_s (show 7 < 84 by decide), rfl, hi, Nat.succ_pos _, vA_s (show 8 < 84 by decide), rfl, hi, H⟩⟩
theorem kindC_fam (x : Int32) : famP (kindC x) := by
  unfold kindC famP
  by_cases c1 : x = 1
  · rw [if_pos c1]; decide
  rw [if_neg c1]
  by_cases c2 : x = 2
  · rw [if_pos c2]; decide
  rw [if_neg c2]
  by_cases c3 : x = 3
  · rw [if_pos c3]; decide
  rw [if_neg c3]
  by_cases c4 : x = 4
  · rw [if_pos c4]; decide
  rw [if_neg c4]
  by_cases c5 : x = 5
  · rw [if_pos c5]; decide
  rw [if_neg c5]; decide
/-- what the class's growing leaves -/
def frH (h h' : AH) : Prop := (∀ b, b < 84 → b ∉ [5, 6, 7, 8] → h'.1 b = h.1 b) ∧ ∀ j, ¬ j = 3 → h'.1 5 j = h.1 5 j
theorem frH_rf {h : AH} : frH h h := ⟨fun _ _ _ => rfl, fun _ _ => rfl⟩
theorem frH_tr {h h' h2 : AH} (a : frH h h') (c : frH h' h2) : frH h h2 := ⟨fun b hb hn => (c.1 b hb hn).trans (a.1 b hb hn), fun j hj => (c.2 j hj).trans (a.2 j hj)⟩
abbrev okA (x0 x1 x2 : Int32) : Prop := (0 ≤ x0 ∧ x0 ≤ 5) ∧ (0 ≤ x1 ∧ x1 ≤ 99) ∧ (0 ≤ x2 ∧ x2 ≤ 9)
theorem settle_new {E : EV} {hi : Nat → Int32} {h : AH} {x0 x1 x2 : Int32} (n7 : E.N < 7) (T : CTn E hi h) {h' : AH} (e : h' = wI (wI (wI (wI (wR (mkH T1 h (kindC x0) x0 x1 x2) 1 E.N (nC T1 h + 1)) 6 (nI E.N) 9) 7 (nI E.N) 0) 8 (nI E.N) (-1)) 5 3 (nI (E.N + 1))) : CTn (extE E x0 x1 x2) (upN hi E.N 9) h' ∧ frH h h' := by
  obtain ⟨h1, h2, h3, h4, h5, h6, t, h7, h8, h9⟩ := T
  obtain ⟨a, ea⟩ : ∃ a, a = nC T1 h := ⟨_, rfl⟩
  have a84 : 84 ≤ a := by rw [ea]; exact Nat.le_add_right _ _
  have r : ∀ b, ¬ b = a → b ∉ [5, 6, 7, 8] → h'.1 b = h.1 b := fun b hb hn => by
    simp only [List.mem_cons, List.not_mem_nil, or_false, not_or] at hn
    rw [e, wI_r, if_neg hn.1, wI_r, if_neg hn.2.2.2, wI_r, if_neg hn.2.2.1, wI_r, if_neg hn.2.1]
    show (wI (wI (wI (wN T1 h (kindC x0, 3)) (nC T1 h) 0 x0) (nC T1 h) 1 x1) (nC T1 h) 2 x2).1 b = _
    rw [← ea, wI_r, if_neg hb, wI_r, if_neg hb, wI_r, if_neg hb]
    show (if b = nC T1 h then _ else h.1 b) = _
    rw [← ea, if_neg hb]
  have r5 : h'.1 5 = up (h.1 5) 3 (nI (E.N + 1)) := by
    rw [e, wI_r, if_pos rfl, wI_r, if_neg (by decide), wI_r, if_neg (by decide), wI_r, if_neg (by decide)]
    show up ((wI (wI (wI (wN T1 h (kindC x0, 3)) (nC T1 h) 0 x0) (nC T1 h) 1 x1) (nC T1 h) 2 x2).1 5) 3 _ = _
    rw [← ea, wI_r, if_neg (by omega), wI_r, if_neg (by omega), wI_r, if_neg (by omega)]
    show up (if 5 = nC T1 h then _ else h.1 5) 3 _ = _
    rw [← ea, if_neg (by omega)]
  have rw' : ∀ b x, ¬ b = 5 → (b = 6 ∧ x = (9 : Int32) ∨ b = 7 ∧ x = 0 ∨ b = 8 ∧ x = -1) → h'.1 b = up (h.1 b) (nI E.N) x := fun b x hb hx => by
    have base : ¬ b = a → (wR (mkH T1 h (kindC x0) x0 x1 x2) 1 E.N (nC T1 h + 1)).1 b = h.1 b := fun hba => by
      show (wI (wI (wI (wN T1 h (kindC x0, 3)) (nC T1 h) 0 x0) (nC T1 h) 1 x1) (nC T1 h) 2 x2).1 b = _
      rw [← ea, wI_r, if_neg hba, wI_r, if_neg hba, wI_r, if_neg hba]
      show (if b = nC T1 h then _ else h.1 b) = _
      rw [← ea, if_neg hba]
    rw [e, wI_r, if_neg hb]
    rcases hx with ⟨rfl, rfl⟩ | ⟨rfl, rfl⟩ | ⟨rfl, rfl⟩
    · rw [wI_r, if_neg (by decide), wI_r, if_neg (by decide), wI_r, if_pos rfl, base (by omega)]
    · rw [wI_r, if_neg (by decide), wI_r, if_pos rfl, wI_r, if_neg (by decide), base (by omega)]
    · rw [wI_r, if_pos rfl, wI_r, if_neg (by decide), wI_r, if_neg (by decide), base (by omega)]
  have ra : h'.1 a 0 = x0 ∧ h'.1 a 1 = x1 ∧ h'.1 a 2 = x2 := by
    have e1 : h'.1 a = (mkH T1 h (kindC x0) x0 x1 x2).1 a := by
      rw [e, wI_r, if_neg (by omega), wI_r, if_neg (by omega), wI_r, if_neg (by omega), wI_r, if_neg (by omega)]; rfl
    have e2 : (mkH T1 h (kindC x0) x0 x1 x2).1 a = up (up (up (fun _ => 0) 0 x0) 1 x1) 2 x2 := by
      unfold mkH
      rw [← ea, wI_r, if_pos rfl, wI_r, if_pos rfl, wI_r, if_pos rfl]
      show up (up (up (if a = nC T1 h then _ else h.1 a) 0 x0) 1 x1) 2 x2 = _
      rw [← ea, if_pos rfl]
    rw [e1, e2]
    exact ⟨by rw [up_n (by decide), up_n (by decide), up_s], by rw [up_n (by decide), up_s], by rw [up_s]⟩
  have sh : ∀ c, rS T1 h' c = rS T1 (wN T1 h (kindC x0, 3)) c := fun c => by rw [e]; rfl
  have shO : ∀ c, ¬ c = a → rS T1 h' c = rS T1 h c := fun c hc => by rw [sh, rS_wN_ne (by rw [← ea]; exact hc)]
  have shN : rS T1 h' a = (kindC x0, 3) := by rw [sh, ea]; exact rS_wN (frN_T1 h).1
  have nn : nC T1 h' = a + 1 := by
    rw [e, ea]
    show nC T1 (wN T1 h (kindC x0, 3)) = _
    exact nC_wN
  have ref1 : ∀ k, rR T1 h' 1 k = if k = E.N then a + 1 else rR T1 h 1 k := fun k => by
    rw [e, ea]
    show upR (if 1 = nC T1 h then _ else h.2.2.1 1) E.N (nC T1 h + 1) k = _
    rw [← ea, if_neg (show ¬ 1 = a by omega)]
    rfl
  have famO : ∀ c, famA T1 h c → famA T1 h' c ∧ ¬ c = a := fun c hc => by
    have l : c < a := by rw [ea]; exact hc.1
    have ne : ¬ c = a := by omega
    exact ⟨⟨by show c < nC T1 h'; rw [nn]; omega, by rw [shO c ne]; exact hc.2⟩, ne⟩
  have famN : famA T1 h' a := ⟨by show a < nC T1 h'; rw [nn]; omega, by rw [shN]; exact kindC_fam x0⟩
  refine ⟨⟨?_, ?_, ?_, ?_, fun k hk => ?_, fun k hk => ?_, t, h7, ?_, ?_, ?_⟩, fun b hb hn => r b (by omega) hn, fun j hj => by rw [r5, up_n hj]⟩
  · show h'.1 5 3 = nI (E.N + 1)
    rw [r5, up_s]
  · rw [rw' 6 9 (by decide) (Or.inl ⟨rfl, rfl⟩)]; exact rowR_s (by omega) h2
  · rw [rw' 7 0 (by decide) (Or.inr (Or.inl ⟨rfl, rfl⟩))]; exact rowR_s (by omega) h3
  · rw [rw' 8 (-1) (by decide) (Or.inr (Or.inr ⟨rfl, rfl⟩))]; exact rowR_s (by omega) h4
  · rw [ref1]
    by_cases c : k = E.N
    · rw [if_pos c]; exact ⟨Nat.succ_pos _, famN⟩
    · rw [if_neg c]; exact ⟨(h5 k hk).1, (famO _ (h5 k hk).2).1⟩
  · rw [ref1]
    have hk' : k < E.N + 1 := hk
    by_cases c : k = E.N
    · rw [if_pos c, Nat.add_sub_cancel, c]
      show isHo h' a (upN E.kind E.N x0 E.N) (upN E.told E.N x1 E.N) (upN E.more E.N x2 E.N)
      rw [upN_s, upN_s, upN_s]
      exact ⟨famN, by rw [shN], ra.1, ra.2.1, ra.2.2⟩
    · rw [if_neg c]
      show isHo h' _ (upN E.kind E.N x0 k) (upN E.told E.N x1 k) (upN E.more E.N x2 k)
      rw [upN_n c, upN_n c, upN_n c]
      obtain ⟨y1, y2, y3, y4, y5⟩ := h6 k (by omega)
      obtain ⟨f1, f2⟩ := famO _ y1
      have no : rR T1 h 1 k - 1 ∉ [5, 6, 7, 8] := fun z => by
        simp only [List.mem_cons, List.not_mem_nil, or_false] at z
        have n10 : ¬ famP 10 := fun z => by rcases z with z | z | z | z | z | z <;> exact absurd z (by decide)
        have n100 : ¬ famP 100 := fun z => by rcases z with z | z | z | z | z | z <;> exact absurd z (by decide)
        have q := y1.2
        rcases z with z | z | z | z
        · rw [z] at q; exact n10 q
        · rw [z] at q; exact n100 q
        · rw [z] at q; exact n100 q
        · rw [z] at q; exact n100 q
      have re := r _ f2 no
      exact ⟨f1, by rw [shO _ f2]; exact y2, by rw [re]; exact y3, by rw [re]; exact y4, by rw [re]; exact y5⟩
  · show h'.1 5 4 = nI t
    rw [r5, up_n (by decide)]; exact h8
  · show ∀ p, p < 4 → _
    rw [r (35 + 3 * t) (by omega) (by simp; omega)]; exact h9.1
  · show ∀ p, p < 3 → _
    rw [r (34 + 3 * t) (by omega) (by simp; omega)]; exact h9.2
theorem UF_settle_spec {E : EV} {hi : Nat → Int32} {h : AH} {x0 x1 x2 : Int32} {Q : Int32 → AH → Prop} (n7 : E.N ≤ 7) (T : CTn E hi h) (H1 : ¬ okA x0 x1 x2 → Q (-2) h) (H2 : okA x0 x1 x2 → E.N = 7 → Q (-4) h) (H3 : okA x0 x1 x2 → E.N < 7 → ∀ h', CTn (extE E x0 x1 x2) (upN hi E.N 9) h' → frH h h' → Q (nI E.N) h') : p_UF_settle Q x0 x1 x2 h := by
  unfold p_UF_settle
  rw [UF_within_iff]
  by_cases c1 : 0 ≤ x0 ∧ x0 ≤ 5
  rotate_left
  · rw [b01_f c1]; exact (pT rfl).mpr (H1 (fun z => c1 z.1))
  rw [b01_t c1]
  refine (pF (by decide)).mpr ?_
  rw [UF_within_iff]
  by_cases c2 : 0 ≤ x1 ∧ x1 ≤ 99
  rotate_left
  · rw [b01_f c2]; exact (pT rfl).mpr (H1 (fun z => c2 z.2.1))
  rw [b01_t c2]
  refine (pF (by decide)).mpr ?_
  rw [UF_within_iff]
  by_cases c3 : 0 ≤ x2 ∧ x2 ≤ 9
  rotate_left
  · rw [b01_f c3]; exact (nT rfl).mpr (H1 (fun z => c3 z.2.2))
  rw [b01_t c3]
  refine (nF (by decide)).mpr ?_
  have ok : okA x0 x1 x2 := ⟨c1, c2, c3⟩
  have e3 := T.1
  rw [e3]
  by_cases c : E.N < 7
  · refine (pT ((nI_ltI (b := 7) (by omega) (by decide)).mpr c)).mpr ?_
    unfold p_UF_build
    rw [nI_clamp (by omega)]
    obtain ⟨S1, S2⟩ := settle_new (x0 := x0) (x1 := x1) (x2 := x2) c T rfl
    have a84 : 84 ≤ nC T1 h := Nat.le_add_right _ _
    have r53 : (wR (mkH T1 h (kindC x0) x0 x1 x2) 1 E.N (nC T1 h + 1)).1 5 3 = nI E.N := by
      show (wI (wI (wI (wN T1 h (kindC x0, 3)) (nC T1 h) 0 x0) (nC T1 h) 1 x1) (nC T1 h) 2 x2).1 5 3 = _
      rw [wI_r, if_neg (by omega), wI_r, if_neg (by omega), wI_r, if_neg (by omega)]
      show (if 5 = nC T1 h then _ else h.1 5) 3 = _
      rw [if_neg (by omega)]; exact e3
    refine ⟨⟨?_, ?_⟩, inb_nI (by omega) (by omega), grow5 (by rw [r53]; exact inb_nI (by omega) (by omega)) (by rw [r53]; exact (nI_ltI (b := 7) (by omega) (by decide)).mpr c) ?_⟩
    · show nC T1 h < nC T1 (wN T1 h (kindC x0, 3))
      rw [nC_wN]; exact Nat.lt_succ_self _
    · show famP (rS T1 (wN T1 h (kindC x0, 3)) (nC T1 h)).1
      rw [rS_wN (frN_T1 h).1]; exact kindC_fam x0
    · rw [r53, nI_1]
      have e9 : ∀ h' : AH, h'.1 5 3 = nI (E.N + 1) → h'.1 5 3 - 1 = nI E.N := fun h' z => by rw [z, nI_sub1]
      rw [e9 _ S1.1]
      exact H3 ok c _ S1 S2
  · have c7 : E.N = 7 := by omega
    refine (pF (by rw [c7]; decide)).mpr (H2 ok c7)
def frK (h h' : AH) : Prop := h'.2 = h.2 ∧ (∀ b, b ∉ [59, 60, 61, 62, 63, 64, 65] → h'.1 b = h.1 b) ∧ ∀ j, ¬ j = 0 → h'.1 59 j = h.1 59 j
theorem frK_rf {h : AH} : frK h h := ⟨rfl, fun _ _ => rfl, fun _ _ => rfl⟩
theorem frK_tr {h h' h2 : AH} (a : frK h h') (c : frK h' h2) : frK h h2 := ⟨c.1.trans a.1, fun b hb => (c.2.1 b hb).trans (a.2.1 b hb), fun j hj => (c.2.2 j hj).trans (a.2.2 j hj)⟩
theorem MO_house_spec {E : EV} {hi : Nat → Int32} {h : AH} {x0 x1 x2 : Int32} {Q : Int32 → AH → Prop} (n7 : E.N ≤ 7) (M : MTn E hi h) (H1 : ¬ okA x0 x1 x2 → Q (-2) h) (H2 : okA x0 x1 x2 → E.N = 7 → Q (-4) h) (H3 : okA x0 x1 x2 → E.N < 7 → ∀ h', MTn (extE E x0 x1 x2) (upN hi E.N 9) h' → frK h h' → Q (nI E.N) h') : p_MO_house Q x0 x1 x2 h := by
  unfold p_MO_house
  rw [MO_in_iff]
  by_cases c1 : 0 ≤ x0 ∧ x0 ≤ 5
  rotate_left
  · rw [b01_f c1]; exact (pT rfl).mpr (H1 (fun z => c1 z.1))
  rw [b01_t c1]
  refine (pF (by decide)).mpr ?_
  rw [MO_in_iff]
  by_cases c2 : 0 ≤ x1 ∧ x1 ≤ 99
  rotate_left
  · rw [b01_f c2]; exact (pT rfl).mpr (H1 (fun z => c2 z.2.1))
  rw [b01_t c2]
  refine (pF (by decide)).mpr ?_
  rw [MO_in_iff]
  by_cases c3 : 0 ≤ x2 ∧ x2 ≤ 9
  rotate_left
  · rw [b01_f c3]; exact (nT rfl).mpr (H1 (fun z => c3 z.2.2))
  rw [b01_t c3]
  refine (nF (by decide)).mpr ?_
  have ok : okA x0 x1 x2 := ⟨c1, c2, c3⟩
  have e0 := M.1.n
  rw [e0]
  by_cases c : E.N = 7
  · exact (nT (by rw [c]; rfl)).mpr (H2 ok c)
  · refine (nF (fun z => c ((nI_inj (b := 7) (by omega) (by decide)).mp z))).mpr ⟨inb_nI (by omega) (by omega), ?_⟩
    rw [nI_1, nI_sub1]
    obtain ⟨r', m1, m2, m3⟩ := M.1.text
    refine H3 ok (by omega) _ ⟨⟨?_, ?_, ?_, ?_, ?_, ?_, r', m1, ?_, m3⟩, ?_⟩ ⟨rfl, fun b hb => ?_, fun j hj => ?_⟩
    · rw [r59, if_pos rfl]; rfl
    · exact rowR_s (by omega) M.1.kind
    · exact rowR_s (by omega) M.1.told
    · exact rowR_s (by omega) M.1.more
    · exact rowR_s (by omega) M.1.people
    · exact rowR_s (by omega) M.1.partner
    · rw [r59, if_neg (by decide)]; exact m2
    · exact rowR_s (by omega) M.2
    · simp only [List.mem_cons, List.not_mem_nil, or_false, not_or] at hb
      rw [wI_r, if_neg hb.1, wI_r, if_neg hb.2.2.2.2.2.2, wI_r, if_neg hb.2.2.2.2.2.1, wI_r, if_neg hb.2.2.2.2.1, wI_r, if_neg hb.2.2.2.1, wI_r, if_neg hb.2.2.1, wI_r, if_neg hb.2.1]
    · rw [r59, if_neg hj]; rfl
theorem extE_ok {E : EV} {hi : Nat → Int32} {x0 x1 x2 : Int32} (e : E.ok) (g : rng E.N hi E.people E.partner) (n7 : E.N < 7) (ok : okA x0 x1 x2) : (extE E x0 x1 x2).ok ∧ rng (E.N + 1) (upN hi E.N 9) (extE E x0 x1 x2).people (extE E x0 x1 x2).partner := by
  have k5 := rg (n := 5) (by decide) ok.1
  have k9 := rg (n := 9) (by decide) ok.2.2
  refine ⟨⟨n7, fun k hk => ?_, fun k hk => ?_, fun k hk => ?_, e.wf, e.len⟩, fun k hk => ?_⟩
  · have hk' : k < E.N + 1 := hk
    show 0 ≤ (upN E.kind E.N x0 k).toInt ∧ (upN E.kind E.N x0 k).toInt < 6
    unfold upN
    by_cases c : k = E.N
    · rw [if_pos c]; omega
    · rw [if_neg c]; exact e.kind k (by omega)
  · have hk' : k < E.N + 1 := hk
    show 0 ≤ (upN E.more E.N x2 k).toInt ∧ (upN E.more E.N x2 k).toInt ≤ 9
    unfold upN
    by_cases c : k = E.N
    · rw [if_pos c]; omega
    · rw [if_neg c]; exact e.more k (by omega)
  · have hk' : k < E.N + 1 := hk
    show upN E.partner E.N (-1) k = -1 ∨ ∃ j, j < E.N + 1 ∧ upN E.partner E.N (-1) k = nI j
    unfold upN
    by_cases c : k = E.N
    · rw [if_pos c]; exact Or.inl rfl
    · rw [if_neg c]
      rcases e.partner k (by omega) with z | ⟨j, hj, z⟩
      · exact Or.inl z
      · exact Or.inr ⟨j, by omega, z⟩
  · show (0 ≤ (upN hi E.N 9 k).toInt ∧ (upN hi E.N 9 k).toInt ≤ 9) ∧ (0 ≤ (upN E.people E.N 0 k).toInt ∧ (upN E.people E.N 0 k).toInt ≤ 20) ∧ (upN E.partner E.N (-1) k = -1 ∨ ∃ j, j < E.N + 1 ∧ upN E.partner E.N (-1) k = nI j)
    unfold upN
    by_cases c : k = E.N
    · rw [if_pos c, if_pos c, if_pos c]; exact ⟨by decide, by decide, Or.inl rfl⟩
    · rw [if_neg c, if_neg c, if_neg c]
      obtain ⟨g1, g2, g3⟩ := g k (by omega)
      refine ⟨g1, g2, ?_⟩
      rcases g3 with z | ⟨j, hj, z⟩
      · exact Or.inl z
      · exact Or.inr ⟨j, by omega, z⟩
theorem Inv_grow {E E' : EV} {hi hi' : Nat → Int32} {tN r : Nat} {C : Nat → Nat → List Int32} {h h' : AH} (I : InvB E hi tN r C h) (e' : E'.ok) (g' : rng E'.N hi' E'.people E'.partner) (ec : E'.c = E.c) (hN : E.N ≤ E'.N) (T : CTn E' hi' h') (M : MTn E' hi' h')
    (f : ∀ b, b < 84 → b ∉ [5, 6, 7, 8, 59, 60, 61, 62, 63, 64, 65] → h'.1 b = h.1 b) (f5 : ∀ j, ¬ j = 3 → h'.1 5 j = h.1 5 j) (f59 : ∀ j, ¬ j = 0 → h'.1 59 j = h.1 59 j) : Inv h' := by
  obtain ⟨a1, a2, a3, a4, a5, a6, a7, a8, a9, a10⟩ := I
  obtain ⟨b1, b2, b3, b4, b5, b6, b7, b8⟩ := a6
  have nb : ∀ b, b < 5 ∨ (8 < b ∧ b < 59) ∨ (65 < b ∧ b < 84) → h'.1 b = h.1 b := fun b hb => f b (by omega) (fun z => by simp only [List.mem_cons, List.not_mem_nil, or_false] at z; omega)
  have ct : ∀ t, t < 6 → ∀ c, CT h t c → CT h' t c := fun t ht c z => ⟨by rw [nb (35 + 3 * t) (by omega)]; exact z.1, by rw [nb (34 + 3 * t) (by omega)]; exact z.2⟩
  have mt : ∀ t c, MT h t c → MT h' t c := fun t c z => ⟨by rw [nb 68 (by omega)]; exact z.1, by rw [nb 67 (by omega)]; exact z.2⟩
  refine ⟨E', hi', tN, r, C, e', ec.trans a2, g', T, M, ⟨b1, b2, b3, by rw [nb 0 (by omega)]; exact b4, (f59 11 (by decide)).trans b5, (f5 4 (by decide)).trans b6, (f59 12 (by decide)).trans b7, fun t ht => ⟨(b8 t ht).1, ct t (by omega) _ (b8 t ht).2.1, mt t _ (b8 t ht).2.2⟩⟩, ?_, ?_, ?_, ?_⟩
  · obtain ⟨L, c1, c2, c3, c4⟩ := a7
    exact ⟨L, c1, by rw [nb 0 (by omega)]; exact c2, (f59 8 (by decide)).trans c3, by rw [nb 4 (by omega), nb 66 (by omega)]; exact c4⟩
  · unfold Img at a8 ⊢
    rw [f59 13 (by decide), f59 14 (by decide), f59 15 (by decide), nb 0 (by omega), nb 9 (by omega), nb 10 (by omega), nb 11 (by omega), nb 12 (by omega), nb 69 (by omega)]
    refine ⟨a8.1, fun z => ?_⟩
    obtain ⟨K, r', hi2, pe, pa, k1, k2⟩ := a8.2 z
    exact ⟨K, r', hi2, pe, pa, Nat.le_trans k1 hN, k2⟩
  · intro s hs
    rw [nb 70 (by omega), nb 71 (by omega), nb 72 (by omega), nb (51 + 2 * s) (by omega), nb (52 + 2 * s) (by omega)]
    exact a9 s hs
  · unfold Wds; rw [nb 74 (by omega)]; exact a10
theorem MTn_H {E : EV} {hi : Nat → Int32} {h h' : AH} (M : MTn E hi h) (f : frH h h') : MTn E hi h' := by
  have g : ∀ b, 50 < b → b < 84 → h'.1 b = h.1 b := fun b h1 h2 => f.1 b h2 (fun z => by simp only [List.mem_cons, List.not_mem_nil, or_false] at z; omega)
  exact ⟨M.1.tr ⟨by rw [g 59 (by omega) (by omega)], by rw [g 59 (by omega) (by omega)], g 60 (by omega) (by omega), g 61 (by omega) (by omega), g 62 (by omega) (by omega), g 64 (by omega) (by omega), g 65 (by omega) (by omega), g 67 (by omega) (by omega), g 68 (by omega) (by omega)⟩, by rw [g 63 (by omega) (by omega)]; exact M.2⟩
theorem CTn_K {E : EV} {hi : Nat → Int32} {h h' : AH} (T : CTn E hi h) (f : frK h h') : CTn E hi h' := by
  obtain ⟨h1, h2, h3, h4, h5, h6, t, h7, h8, h9⟩ := T
  have g : ∀ b, b < 59 → h'.1 b = h.1 b := fun b hb => f.2.1 b (fun z => by simp only [List.mem_cons, List.not_mem_nil, or_false] at z; omega)
  refine ⟨by rw [g 5 (by omega)]; exact h1, by rw [g 6 (by omega)]; exact h2, by rw [g 7 (by omega)]; exact h3, by rw [g 8 (by omega)]; exact h4, fun k hk => ?_, fun k hk => ?_, t, h7, by rw [g 5 (by omega)]; exact h8, by rw [g (35 + 3 * t) (by omega)]; exact h9.1, by rw [g (34 + 3 * t) (by omega)]; exact h9.2⟩
  · rw [rR_2 f.1]; exact ⟨(h5 k hk).1, famA_2 f.1 (h5 k hk).2⟩
  · rw [rR_2 f.1]
    obtain ⟨x1, x2, x3, x4, x5⟩ := h6 k hk
    have e := f.2.1 (rR T1 h 1 k - 1) (fun z => by
      simp only [List.mem_cons, List.not_mem_nil, or_false] at z
      have n12 : ¬ famP 12 := fun z => by rcases z with z | z | z | z | z | z <;> exact absurd z (by decide)
      have n100 : ¬ famP 100 := fun z => by rcases z with z | z | z | z | z | z <;> exact absurd z (by decide)
      have q := x1.2
      rcases z with z | z | z | z | z | z | z
      · rw [z] at q; exact n12 q
      · rw [z] at q; exact n100 q
      · rw [z] at q; exact n100 q
      · rw [z] at q; exact n100 q
      · rw [z] at q; exact n100 q
      · rw [z] at q; exact n100 q
      · rw [z] at q; exact n100 q)
    exact ⟨famA_2 f.1 x1, by rw [rS_2 f.1]; exact x2, by rw [e]; exact x3, by rw [e]; exact x4, by rw [e]; exact x5⟩
theorem both_house {x1 x2 x3 : Int32} {h : AH} (I : Inv h) : p_UF_house (fun r1 h1 => p_MO_house (K2 r1) x1 x2 x3 h1) x1 x2 x3 h := by
  have I0 := I
  obtain ⟨E, hi, tN, r, C, IB⟩ := I
  have IB' := IB
  obtain ⟨a1, a2, a3, a4, a5, a6⟩ := IB'
  have n7 := a1.n7
  show p_UF_settle _ x1 x2 x3 h
  refine UF_settle_spec n7 a4 (fun no => ?_) (fun ok e7 => ?_) (fun ok c h1 T1' f1 => ?_)
  · exact MO_house_spec n7 a5 (fun _ => ⟨rfl, I0⟩) (fun ok => absurd ok no) (fun ok => absurd ok no)
  · exact MO_house_spec n7 a5 (fun no => absurd ok no) (fun _ _ => ⟨rfl, I0⟩) (fun _ c => by omega)
  · refine MO_house_spec n7 (MTn_H a5 f1) (fun no => absurd ok no) (fun _ e7 => by omega) (fun _ _ h2 M2 f2 => ⟨rfl, ?_⟩)
    obtain ⟨o1, o2⟩ := extE_ok a1 a3 c ok
    refine Inv_grow IB o1 o2 rfl (Nat.le_succ _) (CTn_K T1' f2) M2 (fun b hb hn => ?_) (fun j hj => ?_) (fun j hj => ?_)
    · rw [f2.2.1 b (fun z => hn (by simp only [List.mem_cons, List.not_mem_nil, or_false] at z ⊢; omega)), f1.1 b hb (fun z => hn (by simp only [List.mem_cons, List.not_mem_nil, or_false] at z ⊢; omega))]
    · rw [f2.2.1 5 (by decide)]; exact f1.2 j hj
    · rw [f2.2.2 j hj, f1.1 59 (by decide) (by decide)]
