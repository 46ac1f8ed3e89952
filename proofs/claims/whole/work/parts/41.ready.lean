/-! pure: the class makes a dusk ready -/
def SD : List Nat := [14, 15, 16, 17, 19, 20, 21, 22, 23, 24]
def frR (h h' : AH) : Prop := h'.2.1 = h.2.1 ∧ h'.2.2.2 = h.2.2.2 ∧ (∀ a, ¬ a = 13 → ¬ a = 18 → h'.2.2.1 a = h.2.2.1 a) ∧ ∀ b, b ∉ SD → h'.1 b = h.1 b
theorem frR_rf {h : AH} : frR h h := ⟨rfl, rfl, fun _ _ _ => rfl, fun _ _ => rfl⟩
theorem frR_tr {h h' h2 : AH} (a : frR h h') (b : frR h' h2) : frR h h2 := ⟨b.1.trans a.1, b.2.1.trans a.2.1, fun c x y => (b.2.2.1 c x y).trans (a.2.2.1 c x y), fun c x => (b.2.2.2 c x).trans (a.2.2.2 c x)⟩
theorem frR_frm {S : List Nat} {h h' : AH} (f : frm S h h') (hS : ∀ x ∈ S, x ∈ SD) : frR h h' :=
  ⟨by rw [f.1], by rw [f.1], fun _ _ _ => by rw [f.1], fun b hb => f.2 b (fun z => hb (hS b z))⟩
theorem frR_SC {h h' : AH} (f : frm SC h h') : frR h h' := frR_frm f (by decide)
theorem rS_R {h h' : AH} {a : Nat} (f : frR h h') : rS T1 h' a = rS T1 h a := by unfold rS; rw [f.2.1]
theorem vA_R {h h' : AH} {a : Nat} (f : frR h h') (H : vA T1 h a) : vA T1 h' a := by unfold vA nC; rw [f.2.1]; exact H
theorem famA_R {h h' : AH} {a : Nat} (f : frR h h') (H : famA T1 h a) : famA T1 h' a := ⟨vA_R f H.1, by rw [rS_R f]; exact H.2⟩
theorem rR_R {h h' : AH} {a k : Nat} (f : frR h h') (h1 : ¬ a = 13) (h2 : ¬ a = 18) : rR T1 h' a k = rR T1 h a k := by unfold rR; rw [f.2.2.1 a h1 h2]
theorem isHo_SD {h : AH} {a : Nat} (H : famA T1 h a) : a ∉ SD := fun z => by
  simp only [SD, List.mem_cons, List.not_mem_nil, or_false] at z
  rcases z with z | z | z | z | z | z | z | z | z | z
  · have h2 : famP (rS T1 h 14).1 := by rw [← z]; exact H.2
    have h3 : famP 10 := h2
    rcases h3 with h3 | h3 | h3 | h3 | h3 | h3 <;> exact absurd h3 (by decide)
  · exact isHo_ne (b := 15) (n := 7) H rfl z
  · exact isHo_ne (b := 16) (n := 7) H rfl z
  · exact isHo_ne (b := 17) (n := 7) H rfl z
  · exact isHo_ne (b := 19) (n := 7) H rfl z
  · exact isHo_ne (b := 20) (n := 7) H rfl z
  · exact isHo_ne (b := 21) (n := 7) H rfl z
  · exact isHo_ne (b := 22) (n := 7) H rfl z
  · exact isHo_ne (b := 23) (n := 6) H rfl z
  · exact isHo_ne (b := 24) (n := 160) H rfl z
theorem isHo_R {h h' : AH} {a : Nat} {x y z : Int32} (f : frR h h') (H : isHo h a x y z) : isHo h' a x y z := by
  obtain ⟨h1, h2, h3, h4, h5⟩ := H
  have e := f.2.2.2 a (isHo_SD h1)
  exact ⟨famA_R f h1, by rw [rS_R f]; exact h2, by rw [e]; exact h3, by rw [e]; exact h4, by rw [e]; exact h5⟩
theorem CT_R {h h' : AH} {t : Nat} {c : Nat → List Int32} (f : frR h h') (H : CT h t c) : CT h' t c := by
  have g1 : (35 + 3 * t) ∉ SD := fun z => by simp only [SD, List.mem_cons, List.not_mem_nil, or_false] at z; omega
  have g2 : (34 + 3 * t) ∉ SD := fun z => by simp only [SD, List.mem_cons, List.not_mem_nil, or_false] at z; omega
  exact ⟨by rw [f.2.2.2 _ g1]; exact H.1, by rw [f.2.2.2 _ g2]; exact H.2⟩
/-- the class's town: houses, rows, the law in force -/
def CTn (E : EV) (hi : Nat → Int32) (h : AH) : Prop := h.1 5 3 = nI E.N ∧ rowR E.N (h.1 6) hi ∧ rowR E.N (h.1 7) E.people ∧ rowR E.N (h.1 8) E.partner ∧ (∀ k, k < 7 → 0 < rR T1 h 1 k ∧ famA T1 h (rR T1 h 1 k - 1)) ∧ (∀ k, k < E.N → isHo h (rR T1 h 1 k - 1) (E.kind k) (E.told k) (E.more k)) ∧ ∃ t, t < 6 ∧ h.1 5 4 = nI t ∧ CT h t E.c
theorem CTn.tr {E : EV} {hi : Nat → Int32} {h h' : AH} (H : CTn E hi h) (f : frR h h') : CTn E hi h' := by
  obtain ⟨h1, h2, h3, h4, h5, h6, t, h7, h8, h9⟩ := H
  refine ⟨by rw [f.2.2.2 5 (by decide)]; exact h1, by rw [f.2.2.2 6 (by decide)]; exact h2, by rw [f.2.2.2 7 (by decide)]; exact h3, by rw [f.2.2.2 8 (by decide)]; exact h4, fun k hk => ?_, fun k hk => ?_, t, h7, by rw [f.2.2.2 5 (by decide)]; exact h8, CT_R f h9⟩
  · rw [rR_R f (by decide) (by decide)]; exact ⟨(h5 k hk).1, famA_R f (h5 k hk).2⟩
  · rw [rR_R f (by decide) (by decide)]; exact isHo_R f (h6 k hk)
def frB (h h' : AH) : Prop := h'.2.1 = h.2.1 ∧ h'.2.2.2 = h.2.2.2 ∧ (∀ a, ¬ a = 18 → h'.2.2.1 a = h.2.2.1 a) ∧ ∀ b, b ∉ [19, 20, 21, 22] → h'.1 b = h.1 b
theorem rowR_ext {k : Nat} {f : Int32 → Int32} {g : Nat → Int32} {x : Int32} (hk : k < 100) (hf : rowR k f g) (hx : x = g k) : rowR (k + 1) (up f (nI k) x) g := fun j hj => by
  rw [up_a]
  by_cases ej : j = k
  · subst ej; rw [if_pos rfl]; exact hx
  · rw [if_neg (fun z => ej ((nI_inj (by omega) (by omega)).mp z))]; exact hf j (by omega)
theorem rowR_le {n m : Nat} {f : Int32 → Int32} {g : Nat → Int32} (h : rowR n f g) (hm : m ≤ n) : rowR m f g := fun j hj => h j (by omega)
theorem begin_loop {Q : AH → Prop} {h0 : AH} : ∀ (cnt k : Nat) (h : AH), k + cnt = 7 → (∀ j, j < 7 → 0 < h.2.2.1 1 j ∧ famA T1 h (h.2.2.1 1 j - 1)) → (∀ j, j < k → h.2.2.1 18 j = h.2.2.1 1 j) → rowR k (h.1 19) (fun _ => 0) → rowR k (h.1 20) (fun _ => 0) → rowR k (h.1 21) (fun _ => 0) → rowR k (h.1 22) (fun _ => -1) → frB h0 h →
    (∀ h', frB h0 h' → (∀ j, j < 7 → h'.2.2.1 18 j = h'.2.2.1 1 j) → rowR 7 (h'.1 19) (fun _ => 0) → rowR 7 (h'.1 20) (fun _ => 0) → rowR 7 (h'.1 21) (fun _ => 0) → rowR 7 (h'.1 22) (fun _ => -1) → Q h') → p_Dusk_begin_16 Q (cnt + 1) 1 (nI k) h := by
  intro cnt
  induction cnt with
  | zero =>
    intro k h hk H1 H2 H3 H4 H5 H6 H7 HQ
    have hk' : k = 7 := by omega
    subst hk'
    simp only [p_Dusk_begin_16]
    rw [pT (by decide)]
    exact HQ h H7 H2 H3 H4 H5 H6
  | succ cnt ih =>
    intro k h hk H1 H2 H3 H4 H5 H6 H7 HQ
    have k7 : k < 7 := by omega
    obtain ⟨n', hn'⟩ : ∃ n', n' = cnt + 1 := ⟨_, rfl⟩
    rw [← hn']
    rw [← hn'] at ih
    have c7 : ¬ (7 : Int32) ≤ nI k := fun z => by have := (nI_leN (a := 7) (by decide) (by omega)).mp z; omega
    have s1 : rS T1 h 1 = (101, 7) := rfl
    have c8 : ¬ Int32.ofNat (rS T1 h 1).2 ≤ nI k := c7
    have er : rR T1 h 1 k = h.2.2.1 1 k := rfl
    simp only [p_Dusk_begin_16]
    rw [pF c7, pF c8, nI_clamp (by omega), er]
    obtain ⟨a1, a2⟩ := H1 k k7
    have i7 : inb (nI k) 7 := inb_nI k7 (by omega)
    refine ⟨vA_s (show 1 < 84 by decide), rfl, i7, a1, a2, i7, i7, ?_⟩
    rw [nI_1, Nat.sub_add_cancel a1]
    refine ih (k + 1) _ (by omega) (fun j hj => ⟨(H1 j hj).1, (H1 j hj).2⟩) (fun j hj => ?_) (rowR_ext (by omega) H3 rfl) (rowR_ext (by omega) H4 rfl) (rowR_ext (by omega) H5 rfl) (rowR_ext (by omega) H6 rfl) ?_ HQ
    · show upR (h.2.2.1 18) k (h.2.2.1 1 k) j = h.2.2.1 1 j
      unfold upR
      by_cases ej : j = k
      · subst ej; rw [if_pos rfl]
      · rw [if_neg ej]; exact H2 j (by omega)
    · refine ⟨H7.1, H7.2.1, fun a ha => ?_, fun b hb => ?_⟩
      · rw [← H7.2.2.1 a ha]
        show (if a = 18 then upR (h.2.2.1 18) k (h.2.2.1 1 k) else h.2.2.1 a) = _
        rw [if_neg ha]
      · rw [← H7.2.2.2 b hb]
        simp only [List.mem_cons, List.not_mem_nil, or_false] at hb
        rw [wI_r, if_neg (fun z => hb (by simp [z])), wI_r, if_neg (fun z => hb (by simp [z])), wI_r, if_neg (fun z => hb (by simp [z])), wI_r, if_neg (fun z => hb (by simp [z]))]
        rfl
theorem cpI_07 {f g : Int32 → Int32} {k : Nat} (hk : k < 7) : cpI f g 0 0 7 (nI k) = f (nI k) := by
  have e7 : (7 : Int32).toInt = 7 := by decide
  unfold cpI
  rw [if_pos (by rw [nI_toInt (by omega), e7, Int32.toInt_zero]; omega)]
  rw [Int32.zero_add, Int32.sub_zero]
theorem rowR_cp {n : Nat} {f g : Int32 → Int32} {r : Nat → Int32} (hn : n ≤ 7) (H : rowR n f r) : rowR n (cpI f g 0 0 7) r := fun k hk => by
  rw [cpI_07 (by omega)]; exact H k hk
theorem le07 : (0 : Int32).toInt + (7 : Int32).toInt ≤ ((7 : Nat) : Int) := by decide
theorem lt07 : (7 : Nat) < 2147483648 := by decide
def h14of (h : AH) : AH := wC (wC (wC (wI (wI h 14 3 (h.1 5 3)) 14 4 (h.1 5 4)) 6 15 0 0 7) 7 16 0 0 7) 8 17 0 0 7
theorem become14 {Q : AH → Prop} {h : AH} (H : Q (h14of h)) : p_Town_become Q 14 5 h :=
  ⟨vA_s (show 5 < 84 by decide), rfl, vA_s (show 14 < 84 by decide), rfl, Nat.succ_pos _, Nat.succ_pos _, vA_s (show 6 < 84 by decide), rfl, vA_s (show 15 < 84 by decide), rfl, le07, le07, lt07, lt07,
    Nat.succ_pos _, Nat.succ_pos _, vA_s (show 7 < 84 by decide), rfl, vA_s (show 16 < 84 by decide), rfl, le07, le07, lt07, lt07,
    Nat.succ_pos _, Nat.succ_pos _, vA_s (show 8 < 84 by decide), rfl, vA_s (show 17 < 84 by decide), rfl, le07, le07, lt07, lt07, H⟩
theorem UF_ready_spec {E : EV} {hi : Nat → Int32} {h : AH} {Q : AH → Prop} (e : E.ok) (T : CTn E hi h) (HQ : ∀ h', frR h h' → CRep E h' → CD E.N (bornF hi) h' → Q h') : p_UF_ready Q h := by
  obtain ⟨h1, h2, h3, h4, h5, h6, t, ht, h8, h9⟩ := T
  have n7 := e.n7
  have e2 : rR T1 h 2 t = 33 + 3 * t + 1 := by
    have h6 : t = 0 ∨ t = 1 ∨ t = 2 ∨ t = 3 ∨ t = 4 ∨ t = 5 := by omega
    rcases h6 with rfl | rfl | rfl | rfl | rfl | rfl <;> rfl
  unfold p_UF_ready
  rw [h8, nI_clamp (by omega), e2, Nat.add_sub_cancel]
  refine ⟨inb_nI (by omega) (by omega), Nat.succ_pos _, become14 ⟨8, ?_⟩⟩
  have f0 : frR h (h14of h) := by
    refine ⟨rfl, rfl, fun _ _ _ => rfl, fun b hb => ?_⟩
    simp only [SD, List.mem_cons, List.not_mem_nil, or_false] at hb
    show (if b = 17 then _ else if b = 16 then _ else if b = 15 then _ else if b = 14 then _ else if b = 14 then _ else h.1 b) = h.1 b
    rw [if_neg (fun z => hb (by simp [z])), if_neg (fun z => hb (by simp [z])), if_neg (fun z => hb (by simp [z])), if_neg (fun z => hb (by simp [z])), if_neg (fun z => hb (by simp [z]))]
  have g5 : ∀ j, j < 7 → 0 < h.2.2.1 1 j ∧ famA T1 h (h.2.2.1 1 j - 1) := h5
  have no : ∀ f : Int32 → Int32, ∀ g : Nat → Int32, rowR 0 f g := fun f g k hk => absurd hk (by omega)
  refine begin_loop (h0 := wR (h14of h) 13 8 (33 + 3 * t + 1)) 7 0 _ (by omega) (fun j hj => ⟨(g5 j hj).1, (g5 j hj).2⟩) (fun j hj => absurd hj (by omega)) (no _ _) (no _ _) (no _ _) (no _ _) ⟨rfl, rfl, fun _ _ => rfl, fun _ _ => rfl⟩ (fun h' fB B1 B2 B3 B4 B5 => ?_)
  have fR : frR h h' := by
    refine ⟨fB.1, fB.2.1, fun a a13 a18 => ?_, fun b hb => ?_⟩
    · rw [fB.2.2.1 a a18]
      show (if a = 13 then _ else h.2.2.1 a) = _
      rw [if_neg a13]
    · rw [fB.2.2.2 b (fun z => hb (by simp only [SD, List.mem_cons, List.not_mem_nil, or_false] at z ⊢; omega))]
      exact f0.2.2.2 b hb
  have r14 : h'.1 14 = (h14of h).1 14 := fB.2.2.2 14 (by decide)
  have r15 : h'.1 15 = cpI (h.1 6) (h.1 15) 0 0 7 := fB.2.2.2 15 (by decide)
  have r16 : h'.1 16 = cpI (h.1 7) (h.1 16) 0 0 7 := fB.2.2.2 16 (by decide)
  have r17 : h'.1 17 = cpI (h.1 8) (h.1 17) 0 0 7 := fB.2.2.2 17 (by decide)
  refine HQ h' fR ⟨?_, by rw [r16]; exact rowR_cp n7 h3, by rw [r17]; exact rowR_cp n7 h4, fun k hk => ?_, t, ht, ?_, CT_R fR h9⟩ ⟨by rw [r15]; exact rowR_cp n7 h2, rowR_le B3 n7, rowR_le B2 n7, rowR_le B5 n7, rowR_le B4 n7⟩
  · rw [r14]; exact h1
  · have k7 : k < 7 := by omega
    have er : rR T1 h' 18 k = rR T1 h 1 k := by
      show h'.2.2.1 18 k = h.2.2.1 1 k
      rw [B1 k k7, fR.2.2.1 1 (by decide) (by decide)]
    rw [er]
    exact ⟨(h5 k k7).1, isHo_R fR (h6 k hk)⟩
  · show h'.2.2.1 13 8 = _
    rw [fB.2.2.1 13 (by decide)]
    rfl
