/-! pure: the town as both sides see it, and what a law says of a house -/
abbrev EV := Nat × (Nat → Int32) × (Nat → Int32) × (Nat → Int32) × (Nat → Int32) × (Nat → Int32) × (Nat → List Int32)
abbrev EV.N (E : EV) : Nat := E.1
abbrev EV.kind (E : EV) : Nat → Int32 := E.2.1
abbrev EV.told (E : EV) : Nat → Int32 := E.2.2.1
abbrev EV.more (E : EV) : Nat → Int32 := E.2.2.2.1
abbrev EV.people (E : EV) : Nat → Int32 := E.2.2.2.2.1
abbrev EV.partner (E : EV) : Nat → Int32 := E.2.2.2.2.2.1
abbrev EV.c (E : EV) : Nat → List Int32 := E.2.2.2.2.2.2
abbrev DS := (Nat → Int32) × (Nat → Int32) × (Nat → Int32) × (Nat → Int32) × (Nat → Int32)
abbrev DS.hi (D : DS) : Nat → Int32 := D.1
abbrev DS.run (D : DS) : Nat → Int32 := D.2.1
abbrev DS.mv (D : DS) : Nat → Int32 := D.2.2.1
abbrev DS.ht (D : DS) : Nat → Int32 := D.2.2.2.1
abbrev DS.lh (D : DS) : Nat → Int32 := D.2.2.2.2
def upN (f : Nat → Int32) (k : Nat) (x : Int32) : Nat → Int32 := fun j => if j = k then x else f j
def rowR (n : Nat) (f : Int32 → Int32) (g : Nat → Int32) : Prop := ∀ k, k < n → f (nI k) = g k
theorem rowR_up {n k : Nat} {f : Int32 → Int32} {g : Nat → Int32} {x : Int32} (hn : n ≤ 2147483648) (hk : k < n) (H : rowR n f g) : rowR n (up f (nI k) x) (upN g k x) := fun j hj => by
  rw [up_a, upN]
  by_cases e : j = k
  · subst e; rw [if_pos rfl, if_pos rfl]
  · rw [if_neg e, if_neg (fun z => e ((nI_inj (by omega) (by omega)).mp z))]; exact H j hj
def offC (c : Nat → List Int32) : Nat → Nat
  | 0 => 0
  | p + 1 => offC c p + (c p).length
theorem offC_le {c : Nat → List Int32} : ∀ {p q : Nat}, p ≤ q → offC c p ≤ offC c q := by
  intro p q h
  induction q with
  | zero => have : p = 0 := by omega
            subst this; exact Nat.le_refl _
  | succ q ih =>
    by_cases e : p = q + 1
    · subst e; exact Nat.le_refl _
    · exact Nat.le_trans (ih (by omega)) (Nat.le_add_right _ _)
def nmF (told people more hi minute speed : Int32) : Int32 → Int32 := fun i => if i = 0 then told else if i = 1 then people else if i = 2 then more else if i = 3 then hi else if i = 4 then minute else if i = 5 then speed else 0
theorem runS_congr {nm nm' : Int32 → Int32} (H : ∀ i : Int32, 0 ≤ i.toInt → i.toInt < 6 → nm i = nm' i) : ∀ (cs : List Int32) (st : List Int32) (d : Nat), wfS cs d → runS nm cs st = runS nm' cs st := by
  intro cs
  induction cs with
  | nil => intro st d _; rfl
  | cons c cs ih =>
    intro st d hw
    have e : opS nm c st = opS nm' c st := by
      rcases hw with ⟨hpu, hw⟩ | ⟨hun, h1, hw⟩ | ⟨hbi, h2, hw⟩
      · rcases hpu with ⟨g1, g2⟩ | ⟨g1, g2⟩
        · have b1 := pushC_big g1
          unfold opS; rw [if_pos b1, if_pos b1]
        · obtain ⟨b1, b2, b3⟩ := pushC_sml g2
          unfold opS; rw [if_neg b1, if_neg b1, if_pos b2, if_pos b2, H c g1 g2]
      · rcases hun with rfl | rfl <;> rfl
      · rcases hbi with rfl | rfl | rfl | rfl | rfl | rfl | rfl <;> rfl
    show runS nm cs (opS nm c st) = runS nm' cs (opS nm' c st)
    rw [e]
    rcases hw with ⟨hpu, hw⟩ | ⟨hun, h1, hw⟩ | ⟨hbi, h2, hw⟩
    · exact ih _ _ hw
    · exact ih _ _ hw
    · exact ih _ _ hw
def evF (E : EV) (p k : Nat) (hi m sp : Int32) : Int32 := clip (mx p) ((runS (nmF (E.told k) (E.people k) (E.more k) hi m sp) (E.c p) []).headD 0)
def EV.ok (E : EV) : Prop := E.N ≤ 7 ∧ (∀ k, k < E.N → 0 ≤ (E.kind k).toInt ∧ (E.kind k).toInt < 6) ∧ (∀ k, k < E.N → 0 ≤ (E.more k).toInt ∧ (E.more k).toInt ≤ 9) ∧ (∀ k, k < E.N → E.partner k = -1 ∨ ∃ j, j < E.N ∧ E.partner k = nI j) ∧ (∀ p, p < 3 → wfS (E.c p) 0) ∧ offC E.c 3 ≤ 160
theorem EV.ok.n7 {E : EV} (e : EV.ok E) : E.N ≤ 7 := e.1
theorem EV.ok.kind {E : EV} (e : EV.ok E) : ∀ k, k < E.N → 0 ≤ (E.kind k).toInt ∧ (E.kind k).toInt < 6 := e.2.1
theorem EV.ok.more {E : EV} (e : EV.ok E) : ∀ k, k < E.N → 0 ≤ (E.more k).toInt ∧ (E.more k).toInt ≤ 9 := e.2.2.1
theorem EV.ok.partner {E : EV} (e : EV.ok E) : ∀ k, k < E.N → E.partner k = -1 ∨ ∃ j, j < E.N ∧ E.partner k = nI j := e.2.2.2.1
theorem EV.ok.wf {E : EV} (e : EV.ok E) : ∀ p, p < 3 → wfS (E.c p) 0 := e.2.2.2.2.1
theorem EV.ok.len {E : EV} (e : EV.ok E) : offC E.c 3 ≤ 160 := e.2.2.2.2.2
/-- the model's text r -/
def MT (h : AH) (r : Nat) (c : Nat → List Int32) : Prop := (∀ p, p < 4 → h.1 68 (nI (4 * r + p)) = nI (offC c p)) ∧ (∀ p, p < 3 → ∀ j, j < (c p).length → h.1 67 (nI (200 * r + (offC c p + j))) = (c p).getD j 0)
def MRep (E : EV) (h : AH) : Prop := h.1 59 0 = nI E.N ∧ rowR E.N (h.1 60) E.kind ∧ rowR E.N (h.1 61) E.told ∧ rowR E.N (h.1 62) E.more ∧ rowR E.N (h.1 64) E.people ∧ rowR E.N (h.1 65) E.partner ∧ ∃ r, r < 6 ∧ h.1 59 12 = nI r ∧ MT h r E.c
theorem MRep.n {E : EV} {h : AH} (R : MRep E h) : h.1 59 0 = nI E.N := R.1
theorem MRep.kind {E : EV} {h : AH} (R : MRep E h) : rowR E.N (h.1 60) E.kind := R.2.1
theorem MRep.told {E : EV} {h : AH} (R : MRep E h) : rowR E.N (h.1 61) E.told := R.2.2.1
theorem MRep.more {E : EV} {h : AH} (R : MRep E h) : rowR E.N (h.1 62) E.more := R.2.2.2.1
theorem MRep.people {E : EV} {h : AH} (R : MRep E h) : rowR E.N (h.1 64) E.people := R.2.2.2.2.1
theorem MRep.partner {E : EV} {h : AH} (R : MRep E h) : rowR E.N (h.1 65) E.partner := R.2.2.2.2.2.1
theorem MRep.text {E : EV} {h : AH} (R : MRep E h) : ∃ r, r < 6 ∧ h.1 59 12 = nI r ∧ MT h r E.c := R.2.2.2.2.2.2
def MD (N : Nat) (D : DS) (h : AH) : Prop := rowR N (h.1 78) D.hi ∧ rowR N (h.1 79) D.mv ∧ rowR N (h.1 80) D.run ∧ rowR N (h.1 81) D.lh ∧ rowR N (h.1 82) D.ht
theorem MD.hi {N : Nat} {D : DS} {h : AH} (R : MD N D h) : rowR N (h.1 78) D.hi := R.1
theorem MD.mv {N : Nat} {D : DS} {h : AH} (R : MD N D h) : rowR N (h.1 79) D.mv := R.2.1
theorem MD.run {N : Nat} {D : DS} {h : AH} (R : MD N D h) : rowR N (h.1 80) D.run := R.2.2.1
theorem MD.lh {N : Nat} {D : DS} {h : AH} (R : MD N D h) : rowR N (h.1 81) D.lh := R.2.2.2.1
theorem MD.ht {N : Nat} {D : DS} {h : AH} (R : MD N D h) : rowR N (h.1 82) D.ht := R.2.2.2.2
/-- the rows that a town is read from are as before -/
def keepM (h h' : AH) : Prop := h'.1 59 0 = h.1 59 0 ∧ h'.1 59 12 = h.1 59 12 ∧ h'.1 60 = h.1 60 ∧ h'.1 61 = h.1 61 ∧ h'.1 62 = h.1 62 ∧ h'.1 64 = h.1 64 ∧ h'.1 65 = h.1 65 ∧ h'.1 67 = h.1 67 ∧ h'.1 68 = h.1 68
theorem MRep.tr {E : EV} {h h' : AH} (R : MRep E h) (K : keepM h h') : MRep E h' := by
  obtain ⟨k1, k2, k3, k4, k5, k6, k7, k8, k9⟩ := K
  obtain ⟨r, h1, h2, h3⟩ := R.text
  exact ⟨k1.trans R.n, by rw [k3]; exact R.kind, by rw [k4]; exact R.told, by rw [k5]; exact R.more, by rw [k6]; exact R.people, by rw [k7]; exact R.partner, r, h1, k2.trans h2, by rw [k9]; exact h3.1, by rw [k8]; exact h3.2⟩
def SM : List Nat := [76, 77, 78, 79, 80, 81, 82]
theorem keepM_frm {S : List Nat} {h h' : AH} (f : frm S h h') (hS : ∀ x ∈ S, x ∈ SM) : keepM h h' := by
  have g : ∀ b, b ∉ SM → h'.1 b = h.1 b := fun b hb => f.2 b (fun z => hb (hS b z))
  have e := g 59 (by decide)
  exact ⟨by rw [e], by rw [e], g 60 (by decide), g 61 (by decide), g 62 (by decide), g 64 (by decide), g 65 (by decide), g 67 (by decide), g 68 (by decide)⟩
theorem MD.tr {N : Nat} {D : DS} {h h' : AH} (R : MD N D h) (f : frm [76, 77] h h') : MD N D h' :=
  ⟨by rw [f.2 78 (by decide)]; exact R.hi, by rw [f.2 79 (by decide)]; exact R.mv, by rw [f.2 80 (by decide)]; exact R.run, by rw [f.2 81 (by decide)]; exact R.lh, by rw [f.2 82 (by decide)]; exact R.ht⟩
theorem nI_4rp (r p : Nat) : 4 * nI r + nI p = nI (4 * r + p) := by
  rw [show (4 : Int32) = nI 4 from rfl, nI_mul, nI_add]
theorem MO_asksOf_spec {E : EV} {h : AH} {p k : Nat} {hi m sp : Int32} {Q : Int32 → AH → Prop} (e : E.ok) (R : MRep E h) (hp : p < 3) (hk : k < E.N) (HQ : ∀ h', frm [76, 77] h h' → Q (evF E p k hi m sp) h') : p_MO_asksOf Q (nI p) (nI k) hi m sp h := by
  obtain ⟨r, hr, h12, ho, hc⟩ := R.text
  have n7 := e.n7
  refine ⟨inb_nI (by omega) (by omega), ?_⟩
  rw [R.told k hk, R.people k hk, R.more k hk]
  have hl : offC E.c p + (E.c p).length ≤ 160 := Nat.le_trans (offC_le (p := p + 1) (q := 3) (by omega)) e.len
  refine ⟨?_, (E.c p).length + 1, ?_⟩
  · show inb (4 * h.1 59 12 + nI p) 24
    rw [h12, nI_4rp]
    exact inb_nI (by omega) (by omega)
  · show p_MO_says_16 _ _ (nI p) (nI 0) (h.1 68 (4 * h.1 59 12 + nI p)) _
    rw [h12, nI_4rp, ho p (by omega)]
    refine MO_says_loop (r := r) (p := p) (b := offC E.c p + (E.c p).length) hr hp hl (E.c p) _ [] _ rfl h12 (ho (p + 1) (by omega)) (hc p hp) (e.wf p hp) (by simp only [List.length_nil]; omega) trivial (fun v h' hf hrun => ?_)
    have hev : evF E p k hi m sp = clip (mx p) v := by
      unfold evF
      rw [runS_congr (nm' := (wI (wI (wI (wI (wI (wI h 77 0 (E.told k)) 77 1 (E.people k)) 77 2 (E.more k)) 77 3 hi) 77 4 m) 77 5 sp).1 77) (fun i i0 i6 => by rcases sml6 i0 i6 with rfl | rfl | rfl | rfl | rfl | rfl <;> rfl) (E.c p) [] 0 (e.wf p hp), hrun]
      rfl
    have hf' : frm [76, 77] h h' := frm_tr (S := [77]) (frm_w (frm_w (frm_w (frm_w (frm_w (frm_w frm_rf (by decide)) (by decide)) (by decide)) (by decide)) (by decide)) (by decide)) hf (by decide) (by decide)
    have H := HQ h' hf'
    rw [hev] at H
    unfold mx at H
    refine ⟨fun z => ?_, fun z => ?_⟩
    · have hp0 : ¬ p = 0 := fun e => z (by subst e; rfl)
      rw [if_neg hp0] at H
      exact within_iff.mpr H
    · have hp0 : p = 0 := (nI_inj (by omega) (by omega)).mp z
      rw [if_pos hp0] at H
      exact within_iff.mpr H
