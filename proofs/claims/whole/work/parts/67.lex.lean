/-! pure: tokens, as both sides read them -/
def ltrB (x : Int32) : Bool := decide (97 ≤ x ∧ x ≤ 122)
def dgtB (x : Int32) : Bool := decide (48 ≤ x ∧ x ≤ 57)
def blkB (x : Int32) : Bool := decide (x = 32 ∨ x = 10)
def sgnB (x : Int32) : Bool := decide (x = 40 ∨ x = 41 ∨ x = 59 ∨ x = 43 ∨ x = 45 ∨ x = 42 ∨ x = 60 ∨ x = 61)
def endW (P : Int32 → Bool) (b : Nat → Int32) : Nat → Nat → Nat
  | 0, p => p
  | n + 1, p => if P (b p) then endW P b n (p + 1) else p
theorem endW_in {P : Int32 → Bool} {b : Nat → Int32} : ∀ (n p : Nat), p ≤ endW P b n p ∧ endW P b n p ≤ p + n := by
  intro n
  induction n with
  | zero => intro p; exact ⟨Nat.le_refl _, Nat.le_refl _⟩
  | succ n ih =>
    intro p
    unfold endW
    by_cases h : P (b p)
    · rw [if_pos h]; have := ih (p + 1); omega
    · rw [if_neg h]; omega
theorem endW_all {P : Int32 → Bool} {b : Nat → Int32} : ∀ (n p j : Nat), p ≤ j → j < endW P b n p → P (b j) = true := by
  intro n
  induction n with
  | zero => intro p j h1 h2; have : j < p := h2; omega
  | succ n ih =>
    intro p j h1 h2
    unfold endW at h2
    by_cases h : P (b p)
    · rw [if_pos h] at h2
      by_cases e : j = p
      · rw [e]; exact h
      · exact ih (p + 1) j (by omega) h2
    · rw [if_neg h] at h2; omega
def seg (b : Nat → Int32) (s e : Nat) : List Int32 := (List.range (e - s)).map (fun j => b (s + j))
theorem seg_len {b : Nat → Int32} {s e : Nat} : (seg b s e).length = e - s := by unfold seg; simp
theorem seg_get {b : Nat → Int32} {s e j : Nat} (hj : j < e - s) : (seg b s e).getD j 0 = b (s + j) := by
  unfold seg
  simp [List.getD, hj]
theorem getD_ge {l : List Int32} {i : Nat} (h : i < l.length) : l.getD i 0 = l[i] := by rw [List.getD_eq_getElem?_getD, List.getElem?_eq_getElem h]; rfl
theorem seg_eq {b : Nat → Int32} {s e : Nat} {w : List Int32} : seg b s e = w ↔ e - s = w.length ∧ ∀ j, j < w.length → b (s + j) = w.getD j 0 := by
  constructor
  · rintro rfl
    rw [seg_len]
    exact ⟨rfl, fun j hj => (seg_get hj).symm⟩
  · rintro ⟨h1, h2⟩
    refine List.ext_getElem (by rw [seg_len, h1]) (fun i hi hi2 => ?_)
    have a := seg_get (b := b) (s := s) (e := e) (j := i) (by rw [h1]; exact hi2)
    have c := h2 i hi2
    rw [getD_ge hi] at a
    rw [getD_ge hi2] at c
    exact a.trans c
/-- the strings' places, in the model's order of words -/
def wix (k : Nat) : Nat := if k < 3 then k + 1 else if k < 9 then k + 4 else k - 5
def Wm (k : Nat) : List Int32 := strByt.getD (wix k) []
def wFind (ws : List Int32) : Nat → Nat → Nat
  | 0, _ => 12
  | n + 1, k => if ws = Wm k then k else wFind ws n (k + 1)
def wNo (ws : List Int32) : Nat := wFind ws 12 0
def wdK (k : Nat) : Int32 := if k < 3 then nI (7 + k) else if k < 9 then 3 else if k = 12 then 1 else nI (k - 5)
def wdV (k : Nat) : Int32 := if k < 3 then nI k else nI (k - 3)
def numV (b : Nat → Int32) : Nat → Nat → Int32 → Int32
  | 0, _, a => a
  | n + 1, p, a => numV b n (p + 1) (a * 10 + b p - 48)
def tkS (b : Nat → Int32) (L p : Nat) : Nat := endW blkB b (L - p) p
def tkE (b : Nat → Int32) (L p : Nat) : Nat := if L ≤ tkS b L p then tkS b L p else if ltrB (b (tkS b L p)) then endW ltrB b (L - tkS b L p) (tkS b L p) else if dgtB (b (tkS b L p)) then endW dgtB b (L - tkS b L p) (tkS b L p) else tkS b L p + 1
def tkK (b : Nat → Int32) (L p : Nat) : Int32 := if L ≤ tkS b L p then 0 else if ltrB (b (tkS b L p)) then wdK (wNo (seg b (tkS b L p) (tkE b L p))) else if dgtB (b (tkS b L p)) then (if tkE b L p - tkS b L p ≤ 4 then 2 else 1) else if sgnB (b (tkS b L p)) then b (tkS b L p) else 1
def tkV (b : Nat → Int32) (L p : Nat) : Int32 := if ltrB (b (tkS b L p)) then wdV (wNo (seg b (tkS b L p) (tkE b L p))) else numV b (tkE b L p - tkS b L p) (tkS b L p) 0
theorem tkS_in {b : Nat → Int32} {L p : Nat} (hp : p ≤ L) : p ≤ tkS b L p ∧ tkS b L p ≤ L := by
  have := endW_in (P := blkB) (b := b) (L - p) p
  unfold tkS; omega
theorem endW_1 {P : Int32 → Bool} {b : Nat → Int32} {n p : Nat} (hn : 0 < n) (h : P (b p) = true) : p < endW P b n p := by
  match n, hn with
  | n + 1, _ =>
    unfold endW
    rw [if_pos h]
    have := (endW_in (P := P) (b := b) n (p + 1)).1
    omega
theorem tkE_in {b : Nat → Int32} {L p : Nat} (hp : p ≤ L) : tkS b L p ≤ tkE b L p ∧ tkE b L p ≤ L ∧ (tkS b L p < L → tkS b L p < tkE b L p) := by
  have hS := tkS_in (b := b) hp
  unfold tkE
  by_cases c : L ≤ tkS b L p
  · rw [if_pos c]; omega
  · rw [if_neg c]
    by_cases c1 : ltrB (b (tkS b L p)) = true
    · rw [if_pos c1]
      have := endW_in (P := ltrB) (b := b) (L - tkS b L p) (tkS b L p)
      have := endW_1 (P := ltrB) (b := b) (n := L - tkS b L p) (p := tkS b L p) (by omega) c1
      omega
    · rw [if_neg c1]
      by_cases c2 : dgtB (b (tkS b L p)) = true
      · rw [if_pos c2]
        have := endW_in (P := dgtB) (b := b) (L - tkS b L p) (tkS b L p)
        have := endW_1 (P := dgtB) (b := b) (n := L - tkS b L p) (p := tkS b L p) (by omega) c2
        omega
      · rw [if_neg c2]; omega
theorem wFind_spec {ws : List Int32} : ∀ (n k : Nat), k + n = 12 → (wFind ws n k = 12 ∧ ∀ j, k ≤ j → j < 12 → ¬ ws = Wm j) ∨ (wFind ws n k < 12 ∧ ws = Wm (wFind ws n k)) := by
  intro n
  induction n with
  | zero => intro k hk; exact Or.inl ⟨rfl, fun j h1 h2 => absurd h2 (by omega)⟩
  | succ n ih =>
    intro k hk
    unfold wFind
    by_cases c : ws = Wm k
    · rw [if_pos c]; exact Or.inr ⟨by omega, c⟩
    · rw [if_neg c]
      rcases ih (k + 1) (by omega) with ⟨h1, h2⟩ | h1
      · refine Or.inl ⟨h1, fun j a1 a2 => ?_⟩
        by_cases e : j = k
        · rw [e]; exact c
        · exact h2 j (by omega) a2
      · exact Or.inr h1
theorem wNo_spec (ws : List Int32) : (wNo ws = 12 ∧ ∀ j, j < 12 → ¬ ws = Wm j) ∨ (wNo ws < 12 ∧ ws = Wm (wNo ws)) := by
  rcases wFind_spec (ws := ws) 12 0 (by omega) with ⟨h1, h2⟩ | h
  · exact Or.inl ⟨h1, fun j hj => h2 j (Nat.zero_le _) hj⟩
  · exact Or.inr h
theorem Wm_inj : ∀ i : Fin 12, ∀ j : Fin 12, Wm i.val = Wm j.val → i = j := by decide +kernel
theorem wNo_is {ws : List Int32} {k : Nat} (hk : k < 12) : ws = Wm k ↔ wNo ws = k := by
  rcases wNo_spec ws with ⟨h1, h2⟩ | ⟨h1, h2⟩
  · exact ⟨fun z => absurd z (h2 k hk), fun z => by omega⟩
  · constructor
    · intro z
      have e : Wm (wNo ws) = Wm k := by rw [← h2, z]
      have := Wm_inj ⟨wNo ws, h1⟩ ⟨k, hk⟩ e
      exact congrArg Fin.val this
    · intro z; rw [← z]; exact h2
/-! the class's side -/
def RB (b : Nat → Int32) (L : Nat) (h : AH) : Prop := h.1 25 1 = nI L ∧ rR T1 h 25 0 = 5 ∧ ∀ j, j < L → h.1 4 (nI j) = b j
theorem RB.w {b : Nat → Int32} {L : Nat} {h : AH} {k x : Int32} (R : RB b L h) (hk : ¬ (1 : Int32) = k) : RB b L (wI h 25 k x) := ⟨by rw [wI_r, if_pos rfl, up_n hk]; exact R.1, R.2.1, R.2.2⟩
theorem RB.at {b : Nat → Int32} {L p : Nat} {h : AH} (R : RB b L h) (hL : L ≤ 160) (hp : p < L) : (0 < rR T1 h 25 0 ∧ vA T1 h (rR T1 h 25 0 - 1) ∧ (rS T1 h (rR T1 h 25 0 - 1)).1 = 100 ∧ inb (nI p) (rS T1 h (rR T1 h 25 0 - 1)).2) ∧ h.1 (rR T1 h 25 0 - 1) (nI p) = b p := by
  rw [R.2.1]
  exact ⟨⟨by decide, vA_s (show 4 < 84 by decide), rfl, inb_nI (n := 160) (by omega) (by omega)⟩, R.2.2 p hp⟩
theorem isLetter_iff {Q : Int32 → AH → Prop} {x : Int32} {h : AH} : p_Reader_isLetter Q x h ↔ Q (b01 (97 ≤ x ∧ x ≤ 122)) h := by
  unfold p_Reader_isLetter; rw [UF_within_iff]; simp only [b01_z, true_and]
theorem isDigit_iff {Q : Int32 → AH → Prop} {x : Int32} {h : AH} : p_Reader_isDigit Q x h ↔ Q (b01 (48 ≤ x ∧ x ≤ 57)) h := by
  unfold p_Reader_isDigit; rw [UF_within_iff]; simp only [b01_z, true_and]
theorem ltrB_t {x : Int32} : ltrB x = true ↔ (97 ≤ x ∧ x ≤ 122) := by unfold ltrB; simp
theorem dgtB_t {x : Int32} : dgtB x = true ↔ (48 ≤ x ∧ x ≤ 57) := by unfold dgtB; simp
theorem blkB_t {x : Int32} : blkB x = true ↔ (x = 32 ∨ x = 10) := by unfold blkB; simp
theorem sgnB_t {x : Int32} : sgnB x = true ↔ (x = 40 ∨ x = 41 ∨ x = 59 ∨ x = 43 ∨ x = 45 ∨ x = 42 ∨ x = 60 ∨ x = 61) := by unfold sgnB; simp
theorem strLB : ∀ i, i < 13 → (strByt.getD i []).length = strLen.getD i 0 := by decide +kernel
theorem isWord_loop {b : Nat → Int32} {L s e i : Nat} {Q : Int32 → AH → Prop} {h : AH} (R : RB b L h) (hL : L ≤ 160) (hs : s ≤ e) (he : e ≤ L) (e3 : h.1 25 3 = nI e) (e4 : h.1 25 4 = nI s) (hi : i < 13) (hl : e - s = (strByt.getD i []).length) (HQ : Q (b01 (seg b s e = strByt.getD i [])) h) : ∀ (cnt j : Nat), s + j + cnt = e → (∀ j', j' < j → b (s + j') = (strByt.getD i []).getD j' 0) → p_Reader_isWord_23 Q (cnt + 1) (1000000 + i) (nI (s + j)) h := by
  intro cnt
  induction cnt with
  | zero =>
    intro j hj A
    simp only [p_Reader_isWord_23]
    rw [e3, pT ((nI_leN (by omega) (by omega)).mpr (by omega))]
    rw [b01_t (seg_eq.mpr ⟨hl, fun j' hj' => A j' (by omega)⟩)] at HQ
    exact HQ
  | succ cnt ih =>
    intro j hj A
    obtain ⟨n', hn'⟩ : ∃ n', n' = cnt + 1 := ⟨_, rfl⟩
    rw [← hn']
    rw [← hn'] at ih
    obtain ⟨⟨q1, q2, q3, q4⟩, q5⟩ := R.at hL (p := s + j) (by omega)
    simp only [p_Reader_isWord_23]
    rw [e3, e4, pF (fun z => by have := (nI_leN (by omega) (by omega)).mp z; omega), q5, nI_subN (by omega), Nat.add_sub_cancel_left, nI_1]
    refine ⟨q1, q2, q3, q4, i, rfl, hi, inb_nI (by rw [← strLB i hi]; omega) (by rw [← strLB i hi]; omega), ?_⟩
    have ec : chS i (nI j) = (strByt.getD i []).getD j 0 := by unfold chS; rw [nI_clamp (by omega)]
    rw [ec]
    by_cases c : b (s + j) = (strByt.getD i []).getD j 0
    · refine (pT c).mpr (ih (j + 1) (by omega) (fun j' hj' => ?_))
      by_cases e9 : j' = j
      · rw [e9]; exact c
      · exact A j' (by omega)
    · refine (pF c).mpr ?_
      rw [b01_f (fun z => c ((seg_eq.mp z).2 j (by omega)))] at HQ
      exact HQ
theorem isWord_spec {b : Nat → Int32} {L s e i : Nat} {Q : Int32 → AH → Prop} {h : AH} (R : RB b L h) (hL : L ≤ 160) (hs : s ≤ e) (he : e ≤ L) (e3 : h.1 25 3 = nI e) (e4 : h.1 25 4 = nI s) (hi : i < 13) (HQ : Q (b01 (seg b s e = strByt.getD i [])) h) : p_Reader_isWord Q (1000000 + i) h := by
  refine ⟨i, rfl, hi, ?_⟩
  have hl := strLB i hi
  have l100 : strLen.getD i 0 < 100 := (strB_ok i hi).2.1
  rw [e3, e4, nI_subN hs]
  by_cases c : e - s = strLen.getD i 0
  · refine (pT (by rw [c]; rfl)).mpr ⟨e - s + 1, ?_⟩
    have := isWord_loop R hL hs he e3 e4 hi (by rw [hl]; exact c) HQ (e - s) 0 (by omega) (fun j' hj' => absurd hj' (by omega))
    rw [Nat.add_zero] at this
    rw [e4]; exact this
  · refine (pF (fun z => c ((nI_inj (by omega) (by omega)).mp z))).mpr ?_
    rw [b01_f (fun z => c (by have := (seg_eq.mp z).1; rw [hl] at this; exact this))] at HQ
    exact HQ
theorem word_39_spec {b : Nat → Int32} {L s e : Nat} {Q : AH → Prop} {h : AH} (R : RB b L h) (hL : L ≤ 160) (hs : s ≤ e) (he : e ≤ L) (e3 : h.1 25 3 = nI e) (e4 : h.1 25 4 = nI s) (HQ : ∀ h', frm [25] h h' → (∀ k, ¬ k = 5 → ¬ k = 6 → h'.1 25 k = h.1 25 k) → h'.1 25 5 = wdK (wNo (seg b s e)) → (h'.1 25 5 = 3 → h'.1 25 6 = wdV (wNo (seg b s e))) → Q h') : p_Reader_word_39 Q h := by
  obtain ⟨ws, hws⟩ : ∃ ws, ws = seg b s e := ⟨_, rfl⟩
  rw [← hws] at HQ
  have W : ∀ (i k : Nat) (Q : Int32 → AH → Prop), i < 13 → k < 12 → wix k = i → Q (b01 (wNo ws = k)) h → p_Reader_isWord Q (1000000 + i) h := fun i k Q hi hk e9 H => by
    refine isWord_spec R hL hs he e3 e4 hi ?_
    have e8 : (seg b s e = strByt.getD i []) ↔ wNo ws = k := by
      rw [← hws, ← e9]; exact wNo_is hk
    by_cases c : wNo ws = k
    · rw [b01_t c] at H; rw [b01_t (e8.mpr c)]; exact H
    · rw [b01_f c] at H; rw [b01_f (fun z => c (e8.mp z))]; exact H
  have D1 : ∀ x, (x = wdK (wNo ws)) → ¬ x = 3 → Q (wI h 25 5 x) := fun x hx h3 => by
    refine HQ _ (frm_w frm_rf (by decide)) (fun k k5 _ => ?_) ?_ (fun z => ?_)
    · rw [wI_r, if_pos rfl, up_n k5]
    · rw [wI_r, if_pos rfl, up_s, hx]
    · rw [wI_r, if_pos rfl, up_s] at z; exact absurd z h3
  have D2 : ∀ x y, (x = wdK (wNo ws)) → (x = 3 → y = wdV (wNo ws)) → Q (wI (wI h 25 6 y) 25 5 x) := fun x y hx h3 => by
    refine HQ _ (frm_w (frm_w frm_rf (by decide)) (by decide)) (fun k k5 k6 => ?_) ?_ (fun z => ?_)
    · rw [wI_r, if_pos rfl, up_n k5, wI_r, if_pos rfl, up_n k6]
    · rw [wI_r, if_pos rfl, up_s, hx]
    · rw [wI_r, if_pos rfl, up_s] at z
      rw [wI_r, if_pos rfl, up_n (by decide), wI_r, if_pos rfl, up_s]; exact h3 z
  have ne : ∀ i j : Nat, wNo ws = i → ¬ i = j → ¬ wNo ws = j := fun i j h1 h2 z => h2 (h1.symm.trans z)
  unfold p_Reader_word_39
  refine W 1 0 _ (by decide) (by decide) rfl ?_
  by_cases c0 : wNo ws = 0
  · rw [b01_t c0]; exact (pF (by decide)).mpr (D1 7 (by rw [c0]; rfl) (by decide))
  rw [b01_f c0]; refine (pT rfl).mpr (W 2 1 _ (by decide) (by decide) rfl ?_)
  by_cases c1 : wNo ws = 1
  · rw [b01_t c1]; exact (pF (by decide)).mpr (D1 8 (by rw [c1]; rfl) (by decide))
  rw [b01_f c1]; refine (pT rfl).mpr (W 3 2 _ (by decide) (by decide) rfl ?_)
  by_cases c2 : wNo ws = 2
  · rw [b01_t c2]; exact (pF (by decide)).mpr (D1 9 (by rw [c2]; rfl) (by decide))
  rw [b01_f c2]; refine (pT rfl).mpr (W 4 9 _ (by decide) (by decide) rfl ?_)
  by_cases c9 : wNo ws = 9
  · rw [b01_t c9]; exact (pF (by decide)).mpr (D1 4 (by rw [c9]; rfl) (by decide))
  rw [b01_f c9]; refine (pT rfl).mpr (W 5 10 _ (by decide) (by decide) rfl ?_)
  by_cases c10 : wNo ws = 10
  · rw [b01_t c10]; exact (pF (by decide)).mpr (D1 5 (by rw [c10]; rfl) (by decide))
  rw [b01_f c10]; refine (pT rfl).mpr (W 6 11 _ (by decide) (by decide) rfl ?_)
  by_cases c11 : wNo ws = 11
  · rw [b01_t c11]; exact (pF (by decide)).mpr (D1 6 (by rw [c11]; rfl) (by decide))
  rw [b01_f c11]; refine (pT rfl).mpr ?_
  unfold p_Reader_nameRead
  refine W 7 3 _ (by decide) (by decide) rfl ?_
  by_cases c3 : wNo ws = 3
  · rw [b01_t c3]; exact (pF (by decide)).mpr ((nF (by decide)).mpr (D2 3 0 (by rw [c3]; rfl) (fun _ => by rw [c3]; rfl)))
  rw [b01_f c3]; refine (pT rfl).mpr (W 8 4 _ (by decide) (by decide) rfl ?_)
  by_cases c4 : wNo ws = 4
  · rw [b01_t c4]; exact (pF (by decide)).mpr ((nF (by decide)).mpr (D2 3 1 (by rw [c4]; rfl) (fun _ => by rw [c4]; rfl)))
  rw [b01_f c4]; refine (pT rfl).mpr (W 9 5 _ (by decide) (by decide) rfl ?_)
  by_cases c5 : wNo ws = 5
  · rw [b01_t c5]; exact (pF (by decide)).mpr ((nF (by decide)).mpr (D2 3 2 (by rw [c5]; rfl) (fun _ => by rw [c5]; rfl)))
  rw [b01_f c5]; refine (pT rfl).mpr (W 10 6 _ (by decide) (by decide) rfl ?_)
  by_cases c6 : wNo ws = 6
  · rw [b01_t c6]; exact (pF (by decide)).mpr ((nF (by decide)).mpr (D2 3 3 (by rw [c6]; rfl) (fun _ => by rw [c6]; rfl)))
  rw [b01_f c6]; refine (pT rfl).mpr (W 11 7 _ (by decide) (by decide) rfl ?_)
  by_cases c7 : wNo ws = 7
  · rw [b01_t c7]; exact (pF (by decide)).mpr ((nF (by decide)).mpr (D2 3 4 (by rw [c7]; rfl) (fun _ => by rw [c7]; rfl)))
  rw [b01_f c7]; refine (pT rfl).mpr (W 12 8 _ (by decide) (by decide) rfl ?_)
  by_cases c8 : wNo ws = 8
  · rw [b01_t c8]; exact (pF (by decide)).mpr ((nF (by decide)).mpr (D2 3 5 (by rw [c8]; rfl) (fun _ => by rw [c8]; rfl)))
  rw [b01_f c8]
  have c12 : wNo ws = 12 := by
    rcases wNo_spec ws with ⟨h1, _⟩ | ⟨h1, _⟩
    · exact h1
    · omega
  exact (pT rfl).mpr ((nT rfl).mpr (D2 1 (-1) (by rw [c12]; rfl) (fun z => absurd z (by decide))))
