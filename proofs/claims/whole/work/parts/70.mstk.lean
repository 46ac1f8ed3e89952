/-! pure: the model's signs that wait -/
def rk (x : Int32) : Nat := if x = 0 then 0 else if x = 11 then 1 else if x = 12 then 2 else if x = 13 then 3 else if 15 < x then (if 17 < x then (if x = 18 then 6 else 7) else 5) else 4
theorem rank_iff {Q : Int32 → AH → Prop} {x : Int32} {h : AH} : p_MO_rank Q x h ↔ Q (nI (rk x)) h := by
  unfold p_MO_rank rk
  by_cases c0 : x = 0
  · rw [nT c0, if_pos c0]; rfl
  rw [nF c0, if_neg c0]
  by_cases c1 : x = 11
  · rw [nT c1, if_pos c1]; rfl
  rw [nF c1, if_neg c1]
  by_cases c2 : x = 12
  · rw [nT c2, if_pos c2]; rfl
  rw [nF c2, if_neg c2]
  by_cases c3 : x = 13
  · rw [nT c3, if_pos c3]; rfl
  rw [nF c3, if_neg c3]
  by_cases c4 : 15 < x
  · rw [pT c4, if_pos c4]
    by_cases c5 : 17 < x
    · rw [pT c5, if_pos c5]
      by_cases c6 : x = 18
      · rw [nT c6, if_pos c6]; rfl
      · rw [nF c6, if_neg c6]; rfl
    · rw [pF c5, if_neg c5]; rfl
  · rw [pF c4, if_neg c4]; rfl
theorem rk_le (x : Int32) : rk x < 8 := by
  unfold rk
  by_cases c0 : x = 0
  · rw [if_pos c0]; omega
  rw [if_neg c0]
  by_cases c1 : x = 11
  · rw [if_pos c1]; omega
  rw [if_neg c1]
  by_cases c2 : x = 12
  · rw [if_pos c2]; omega
  rw [if_neg c2]
  by_cases c3 : x = 13
  · rw [if_pos c3]; omega
  rw [if_neg c3]
  by_cases c4 : 15 < x
  · rw [if_pos c4]
    by_cases c5 : 17 < x
    · rw [if_pos c5]
      by_cases c6 : x = 18
      · rw [if_pos c6]; omega
      · rw [if_neg c6]; omega
    · rw [if_neg c5]; omega
  · rw [if_neg c4]; omega
def opx (x op : Int32) : Int32 := if x = 13 ∨ x = 19 then op - 1 else op
def unw (l : Nat) : List Int32 → Int32 → List Int32 → List Int32 × Int32 × List Int32
  | [], op, o => ([], op, o)
  | x :: H, op, o => if rk x < l then (x :: H, op, o) else unw l H (opx x op) (o ++ [x])
theorem unw_len (l : Nat) : ∀ (H : List Int32) (op : Int32) (o : List Int32), (unw l H op o).1.length + (unw l H op o).2.2.length = H.length + o.length := by
  intro H
  induction H with
  | nil => intro op o; rfl
  | cons x H ih =>
    intro op o
    unfold unw
    by_cases c : rk x < l
    · rw [if_pos c]
    · rw [if_neg c, ih]; simp; omega
theorem unw_unw {l l' : Nat} (hl : l ≤ l') : ∀ (H : List Int32) (op : Int32) (o : List Int32), unw l (unw l' H op o).1 (unw l' H op o).2.1 (unw l' H op o).2.2 = unw l H op o := by
  intro H
  induction H with
  | nil => intro op o; rfl
  | cons x H ih =>
    intro op o
    by_cases c : rk x < l'
    · have e : unw l' (x :: H) op o = (x :: H, op, o) := if_pos c
      rw [e]
    · have e : unw l' (x :: H) op o = unw l' H (opx x op) (o ++ [x]) := if_neg c
      have e2 : unw l (x :: H) op o = unw l H (opx x op) (o ++ [x]) := if_neg (by omega)
      rw [e, e2]
      exact ih _ _
def lowT (l : Nat) : List Int32 → Prop
  | [] => True
  | x :: _ => rk x < l
theorem unw_low {l : Nat} {H : List Int32} {op : Int32} {o : List Int32} (h : lowT l H) : unw l H op o = (H, op, o) := by
  cases H with
  | nil => rfl
  | cons x H => exact if_pos h
theorem lowT_le {l l' : Nat} {H : List Int32} (hl : l ≤ l') (h : lowT l H) : lowT l' H := by
  cases H with
  | nil => trivial
  | cons x H => exact Nat.lt_of_lt_of_le h hl
theorem unw_lowT (l : Nat) : ∀ (H : List Int32) (op : Int32) (o : List Int32), lowT l (unw l H op o).1 := by
  intro H
  induction H with
  | nil => intro op o; trivial
  | cons x H ih =>
    intro op o
    unfold unw
    by_cases c : rk x < l
    · rw [if_pos c]; exact c
    · rw [if_neg c]; exact ih _ _
def kq (k : Int32) : Prop := ¬ k = 21 ∧ ¬ k = 22 ∧ ¬ k = 23 ∧ ¬ k = 24 ∧ ¬ k = 27 ∧ ¬ k = 28 ∧ ¬ k = 29
def frE (t : Nat) (h0 h : AH) : Prop := h.2 = h0.2 ∧ (∀ b, b ∉ [59, 67, 75] → h.1 b = h0.1 b) ∧ (∀ k, kq k → h.1 59 k = h0.1 59 k) ∧ (∀ j, j < 1200 → ¬ (200 * t ≤ j ∧ j < 200 * t + 200) → h.1 67 (nI j) = h0.1 67 (nI j))
theorem frE_rf {t : Nat} {h : AH} : frE t h h := ⟨rfl, fun _ _ => rfl, fun _ _ => rfl, fun _ _ _ => rfl⟩
theorem frE_tr {t : Nat} {h h' h2 : AH} (a : frE t h h') (c : frE t h' h2) : frE t h h2 := ⟨c.1.trans a.1, fun b hb => (c.2.1 b hb).trans (a.2.1 b hb), fun k hk => (c.2.2.1 k hk).trans (a.2.2.1 k hk), fun j h1 h3 => (c.2.2.2 j h1 h3).trans (a.2.2.2 j h1 h3)⟩
theorem frE_w59 {t : Nat} {h0 h : AH} {k x : Int32} (f : frE t h0 h) (hk : ¬ kq k) : frE t h0 (wI h 59 k x) := by
  refine ⟨f.1, fun b hb => ?_, fun j hj => ?_, f.2.2.2⟩
  · rw [wI_r, if_neg (fun z => hb (by rw [z]; decide))]; exact f.2.1 b hb
  · rw [r59, if_neg (fun z => hk (by rw [← z]; exact hj))]; exact f.2.2.1 j hj
theorem frE_w75 {t : Nat} {h0 h : AH} {k x : Int32} (f : frE t h0 h) : frE t h0 (wI h 75 k x) :=
  ⟨f.1, fun b hb => by rw [wI_r, if_neg (fun z => hb (by rw [z]; decide))]; exact f.2.1 b hb, f.2.2.1, f.2.2.2⟩
theorem frE_w67 {t j : Nat} {h0 h : AH} {x : Int32} (f : frE t h0 h) (ht : t < 6) (hj : j < 200) : frE t h0 (wI h 67 (nI (200 * t + j)) x) := by
  refine ⟨f.1, fun b hb => by rw [wI_r, if_neg (fun z => hb (by rw [z]; decide))]; exact f.2.1 b hb, f.2.2.1, fun i h1 h2 => ?_⟩
  rw [wI_r, if_pos rfl, up_n (fun z => by have := (nI_inj (by omega) (by omega)).mp z; omega)]
  exact f.2.2.2 i h1 h2
theorem frE_next {t : Nat} {h0 h h' : AH} (f : frE t h0 h) (g : frm [59] h h') (k : k4 h h') : frE t h0 h' := by
  refine ⟨g.1.trans f.1, fun b hb => ?_, fun j hj => (k j hj.1 hj.2.1 hj.2.2.1 hj.2.2.2.1).trans (f.2.2.1 j hj), fun j h1 h2 => ?_⟩
  · rw [g.2 b (fun z => hb (by simp only [List.mem_cons, List.not_mem_nil, or_false] at z ⊢; exact Or.inl z))]; exact f.2.1 b hb
  · rw [g.2 67 (by decide)]; exact f.2.2.2 j h1 h2
def codA (t : Nat) (o : List Int32) (h : AH) : Prop := ∀ j, j < o.length → h.1 67 (nI (200 * t + j)) = o.getD j 0
/-- the model's state while it reads an E -/
def MX (b : Nat → Int32) (L t : Nat) (h0 : AH) (p : Nat) (H : List Int32) (op : Int32) (o : List Int32) (h : AH) : Prop :=
  MB b L h ∧ h.1 59 21 = nI p ∧ h.1 59 27 = nI H.length ∧ h.1 59 28 = op ∧ h.1 59 29 = nI o.length ∧ holds (h.1 75) H ∧ codA t o h ∧ frE t h0 h ∧ (H.length + o.length ≤ p ∧ p ≤ L) ∧ h.1 59 11 = nI t ∧ t < 6
def tk3 (h h' : AH) : Prop := h'.1 59 22 = h.1 59 22 ∧ h'.1 59 23 = h.1 59 23 ∧ h'.1 59 24 = h.1 59 24
theorem tk3_rf {h : AH} : tk3 h h := ⟨rfl, rfl, rfl⟩
theorem tk3_tr {h h' h2 : AH} (a : tk3 h h') (c : tk3 h' h2) : tk3 h h2 := ⟨c.1.trans a.1, c.2.1.trans a.2.1, c.2.2.trans a.2.2⟩
section MREP
variable {b : Nat → Int32} {L t : Nat} {h0 : AH} {p : Nat} {H : List Int32} {op : Int32} {o : List Int32} {h : AH} {Q : AH → Prop}
theorem MX.next (hL : L ≤ 160) (R : MX b L t h0 p H op o h) (HQ : ∀ h1, MX b L t h0 (tkE b L p) H op o h1 → TM b L p h1 → Q h1) : p_MO_next Q h := by
  obtain ⟨r1, r2, r3, r4, r5, r6, r7, r8, ⟨r9, r10⟩, r11, r12⟩ := R
  refine MO_next_spec hL r10 r1 r2 (fun h1 f1 k1 T1 => HQ h1 ⟨r1.tr f1 k1, T1.1, ?_, ?_, ?_, ?_, ?_, frE_next r8 f1 k1, ⟨?_, (tkE_in r10).2.1⟩, ?_, r12⟩ T1)
  · rw [k1 27 (by decide) (by decide) (by decide) (by decide)]; exact r3
  · rw [k1 28 (by decide) (by decide) (by decide) (by decide)]; exact r4
  · rw [k1 29 (by decide) (by decide) (by decide) (by decide)]; exact r5
  · rw [f1.2 75 (by decide)]; exact r6
  · unfold codA; rw [f1.2 67 (by decide)]; exact r7
  · have := (tkS_in (b := b) r10).1
    have := (tkE_in (b := b) r10).1
    omega
  · rw [k1 11 (by decide) (by decide) (by decide) (by decide)]; exact r11
theorem nI_200 (t j : Nat) : (200 : Int32) * nI t + nI j = nI (200 * t + j) := by
  rw [show (200 : Int32) = nI 200 from rfl, nI_mul, nI_add]
theorem codA_push {x : Int32} (C : codA t o h) (ht : t < 6) (ho : o.length < 200) : codA t (o ++ [x]) (wI h 67 (nI (200 * t + o.length)) x) := fun j hj => by
  have hj' : j < o.length + 1 := by simpa using hj
  rw [wI_r, if_pos rfl, up_a]
  by_cases e : j = o.length
  · subst e
    rw [if_pos rfl, List.getD_eq_getElem?_getD, List.getElem?_append_right (Nat.le_refl _), Nat.sub_self]; rfl
  · rw [if_neg (fun z => e (by have := (nI_inj (by omega) (by omega)).mp z; omega)), C j (by omega), List.getD_eq_getElem?_getD, List.getD_eq_getElem?_getD, List.getElem?_append_left (by omega)]
theorem MX.puts {x : Int32} (hL : L ≤ 160) (R : MX b L t h0 p H op o h) (hb : H.length + o.length < p) (HQ : ∀ h1, MX b L t h0 p H op (o ++ [x]) h1 → tk3 h h1 → Q h1) : p_MO_puts Q x h := by
  obtain ⟨r1, r2, r3, r4, r5, r6, r7, r8, ⟨r9, r10⟩, r11, r12⟩ := R
  unfold p_MO_puts
  rw [r11, r5, nI_200, nI_1]
  refine ⟨inb_nI (by omega) (by omega), HQ _ ⟨⟨?_, ?_, ?_⟩, ?_, ?_, ?_, ?_, r6, codA_push r7 r12 (by omega), frE_w59 (frE_w67 r8 r12 (by omega)) (by unfold kq; decide), ⟨by simp; omega, r10⟩, ?_, r12⟩ ⟨?_, ?_, ?_⟩⟩
  · rw [r59, if_neg (by decide)]; exact r1.1
  · exact r1.2.1
  · exact r1.2.2
  · rw [r59, if_neg (by decide)]; exact r2
  · rw [r59, if_neg (by decide)]; exact r3
  · rw [r59, if_neg (by decide)]; exact r4
  · rw [r59, if_pos rfl]; simp
  · rw [r59, if_neg (by decide)]; exact r11
  · rw [r59, if_neg (by decide)]; rfl
  · rw [r59, if_neg (by decide)]; rfl
  · rw [r59, if_neg (by decide)]; rfl
theorem MX.keep {x : Int32} (hL : L ≤ 160) (R : MX b L t h0 p H op o h) (hb : H.length + o.length < p) (HQ : ∀ h1, MX b L t h0 p (x :: H) op o h1 → tk3 h h1 → Q h1) : p_MO_holds Q x h := by
  obtain ⟨r1, r2, r3, r4, r5, r6, r7, r8, ⟨r9, r10⟩, r11, r12⟩ := R
  unfold p_MO_holds
  rw [r3, nI_1]
  refine ⟨inb_nI (by omega) (by omega), HQ _ ⟨⟨?_, ?_, ?_⟩, ?_, ?_, ?_, ?_, ?_, r7, frE_w59 (frE_w75 r8) (by unfold kq; decide), ⟨by simp; omega, r10⟩, ?_, r12⟩ ⟨?_, ?_, ?_⟩⟩
  · rw [r59, if_neg (by decide)]; exact r1.1
  · exact r1.2.1
  · exact r1.2.2
  · rw [r59, if_neg (by decide)]; exact r2
  · rw [r59, if_pos rfl]; rfl
  · rw [r59, if_neg (by decide)]; exact r4
  · rw [r59, if_neg (by decide)]; exact r5
  · show holds (up (h.1 75) (nI H.length) x) (x :: H)
    exact ⟨up_s, holds_up (by omega) (Nat.le_refl _) r6⟩
  · rw [r59, if_neg (by decide)]; exact r11
  · rw [r59, if_neg (by decide)]; rfl
  · rw [r59, if_neg (by decide)]; rfl
  · rw [r59, if_neg (by decide)]; rfl
theorem MX.w28 {y : Int32} (R : MX b L t h0 p H op o h) : MX b L t h0 p H y o (wI h 59 28 y) ∧ tk3 h (wI h 59 28 y) := by
  obtain ⟨r1, r2, r3, r4, r5, r6, r7, r8, r9, r11, r12⟩ := R
  refine ⟨⟨⟨?_, r1.2.1, r1.2.2⟩, ?_, ?_, ?_, ?_, r6, r7, frE_w59 r8 (by unfold kq; decide), r9, ?_, r12⟩, ?_, ?_, ?_⟩
  · rw [r59, if_neg (by decide)]; exact r1.1
  · rw [r59, if_neg (by decide)]; exact r2
  · rw [r59, if_neg (by decide)]; exact r3
  · rw [r59, if_pos rfl]
  · rw [r59, if_neg (by decide)]; exact r5
  · rw [r59, if_neg (by decide)]; exact r11
  · rw [r59, if_neg (by decide)]
  · rw [r59, if_neg (by decide)]
  · rw [r59, if_neg (by decide)]
theorem MX.pop {x : Int32} (R : MX b L t h0 p (x :: H) op o h) : MX b L t h0 p H op o (wI h 59 27 (nI H.length)) ∧ tk3 h (wI h 59 27 (nI H.length)) := by
  obtain ⟨r1, r2, r3, r4, r5, r6, r7, r8, ⟨r9, r10⟩, r11, r12⟩ := R
  refine ⟨⟨⟨?_, r1.2.1, r1.2.2⟩, ?_, ?_, ?_, ?_, r6.2, r7, frE_w59 r8 (by unfold kq; decide), ⟨by simp at r9; omega, r10⟩, ?_, r12⟩, ?_, ?_, ?_⟩
  · rw [r59, if_neg (by decide)]; exact r1.1
  · rw [r59, if_neg (by decide)]; exact r2
  · rw [r59, if_pos rfl]
  · rw [r59, if_neg (by decide)]; exact r4
  · rw [r59, if_neg (by decide)]; exact r5
  · rw [r59, if_neg (by decide)]; exact r11
  · rw [r59, if_neg (by decide)]
  · rw [r59, if_neg (by decide)]
  · rw [r59, if_neg (by decide)]
end MREP
theorem MO_unwinds_loop {b : Nat → Int32} {L t p l : Nat} {h0 : AH} {Q : AH → Prop} (hL : L ≤ 160) (hl : l < 100) : ∀ (H : List Int32) (op : Int32) (o : List Int32) (h : AH), MX b L t h0 p H op o h → (∀ h1, MX b L t h0 p (unw l H op o).1 (unw l H op o).2.1 (unw l H op o).2.2 h1 → tk3 h h1 → Q h1) → p_MO_unwinds_0 Q (H.length + 1) (nI l) h := by
  intro H
  induction H with
  | nil =>
    intro op o h R HQ
    simp only [List.length_nil, p_MO_unwinds_0]
    rw [R.2.2.1]
    exact (pT (by decide)).mpr (HQ h R tk3_rf)
  | cons x H ih =>
    intro op o h R HQ
    have hlen := R.2.2.2.2.2.2.2.2.1.1
    have hp := R.2.2.2.2.2.2.2.2.1.2
    rw [List.length_cons] at hlen
    obtain ⟨n, hn⟩ : ∃ n, n = H.length + 1 := ⟨_, rfl⟩
    rw [List.length_cons, ← hn]
    rw [← hn] at ih
    have e27 : h.1 59 27 = nI (H.length + 1) := R.2.2.1
    have e75 : h.1 75 (nI H.length) = x := R.2.2.2.2.2.1.1
    simp only [p_MO_unwinds_0]
    rw [e27, nI_sub1, e75, rank_iff]
    refine (pF (fun z => by have := (nI_leN (b := 0) (by omega) (by decide)).mp z; omega)).mpr ⟨inb_nI (by omega) (by omega), ?_⟩
    by_cases c : rk x < l
    · have e : unw l (x :: H) op o = (x :: H, op, o) := if_pos c
      rw [e] at HQ
      exact (pT ((nI_ltI (by omega) (by omega)).mpr c)).mpr (HQ h R tk3_rf)
    · have e : unw l (x :: H) op o = unw l H (opx x op) (o ++ [x]) := if_neg c
      rw [e] at HQ
      refine (pF (fun z => c ((nI_ltI (by have := rk_le x; omega) (by omega)).mp z))).mpr ?_
      rw [e27, nI_sub1, e75, R.2.2.2.1]
      refine ⟨inb_nI (by omega) (by omega), ?_⟩
      obtain ⟨P1, T1⟩ := R.pop
      have go : ∀ y, y = opx x op → p_MO_puts (fun h1 => p_MO_unwinds_0 Q n (nI l) h1) x (wI (wI h 59 27 (nI H.length)) 59 28 y) := fun y hy => by
        obtain ⟨P2, T2⟩ := P1.w28 (y := y)
        refine P2.puts hL (by omega) (fun h1 R1 T3 => ?_)
        rw [hy] at R1
        exact ih _ _ h1 R1 (fun h2 R2 T4 => HQ h2 R2 (tk3_tr T1 (tk3_tr T2 (tk3_tr T3 T4))))
      unfold p_MO_unwinds_62 p_MO_unwinds_67
      by_cases d1 : x = 13
      · exact (pT d1).mpr (go _ (by unfold opx; rw [if_pos (Or.inl d1)]))
      · refine (pF d1).mpr ?_
        by_cases d2 : x = 19
        · exact (nT d2).mpr (go _ (by unfold opx; rw [if_pos (Or.inr d2)]))
        · refine (nF d2).mpr (go _ ?_)
          unfold opx
          rw [if_neg (fun z => z.elim d1 d2), Int32.sub_zero]
theorem MX.unwinds {b : Nat → Int32} {L t p l : Nat} {h0 h : AH} {H : List Int32} {op : Int32} {o : List Int32} {Q : AH → Prop} (hL : L ≤ 160) (hl : l < 100) (R : MX b L t h0 p H op o h) (HQ : ∀ h1, MX b L t h0 p (unw l H op o).1 (unw l H op o).2.1 (unw l H op o).2.2 h1 → tk3 h h1 → Q h1) : p_MO_unwinds Q (nI l) h := ⟨H.length + 1, MO_unwinds_loop hL hl H op o h R HQ⟩
