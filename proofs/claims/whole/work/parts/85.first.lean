/-! the first text is read: success, token by token -/
def bF (j : Nat) : Int32 := (strByt.getD 0 []).getD j 0
def SP (i p q : Nat) (e : List Int32) (P : (Int32 → AH → Prop) → Int32 → AH → Prop) : Prop := PostOK bF 58 i 0 p q e ∧ ∀ o h h0 Q, o.length ≤ p → p ≤ 58 → CSU bF 58 0 p o h → frm (SCl 0) h0 h → (∀ h', CSU bF 58 0 q (o ++ e) h' → frm (SCl 0) h0 h' → Q 1 h') → P Q 0 h
theorem SP_one {Pe Po : (Int32 → AH → Prop) → Int32 → AH → Prop} {p : Nat} (hp : p ≤ 58) (hK : tkK bF 58 p = 2 ∨ tkK bF 58 p = 3) : SP 6 p (tkE bF 58 p) [codV bF 58 p] (fun Q => p_Reader_oneU Q Pe Po) := by
  have hpos := tk_pos (b := bF) hp (by rcases hK with e | e <;> rw [e] <;> decide)
  refine ⟨⟨⟨by simp; omega, hpos.1, hpos.2.2⟩, exC_push (codV_ok hp hK).1, ⟨fun z => by omega, fun z => by omega, fun z => by omega, fun z => by omega⟩, SimOK_val (by decide) hK⟩, fun o h h0 Q ho _ C f HS => ?_⟩
  show p_Reader_oneU Q Pe Po 0 h
  have val : ∀ x, x = mapC (codV bF 58 p) → p_Law_addU (fun h9 => p_Reader_nextU (fun h10 => Q 1 h10) h9) (rR TU h 25 2 - 1) x h := fun x hx => by
    refine CS_addU (c := codV bF 58 p) (by decide) C (by omega) hx.symm f (fun h1 C1 f1 => ?_)
    exact CS_nextU (by decide) hp C1 f1 (fun h2 C2 f2 => HS h2 C2 f2)
  unfold p_Reader_oneU
  rw [(CS_tokU C).1]
  obtain ⟨a1, a2, a3⟩ := CS_lawU (by decide) C
  by_cases k2 : tkK bF 58 p = 2
  · refine (nT k2).mpr ⟨a1, a2, a3, val _ ?_⟩
    rw [(codV_ok hp (Or.inl k2)).2.1 k2]; exact C.1.2.2.2.2 (Or.inl k2)
  refine (nF k2).mpr ?_
  have k3 : tkK bF 58 p = 3 := hK.resolve_left k2
  refine (nT k3).mpr ⟨a1, a2, a3, a2, a3, val _ ?_⟩
  rw [(codV_ok hp (Or.inr k3)).2.2 k3, C.1.2.2.2.2 (Or.inr k3)]
theorem SP_term1 {p q : Nat} {e : List Int32} {P : (Int32 → AH → Prop) → Int32 → AH → Prop} (S : SP 6 p q e P) (c : ¬ tkK bF 58 q = 42) : SP 5 p q e (fun Q => p_Reader_termU Q P) := by
  obtain ⟨P1, hS⟩ := S
  refine ⟨⟨P1.1, P1.2.1, ⟨fun _ => c, fun z => by omega, fun z => by omega, fun z => by omega⟩, SimOK_up (by decide) (fun z => absurd z (by decide)) P1.2.2.2⟩, fun o h h0 Q ho hp C f HS => ?_⟩
  show p_Reader_termU Q P 0 h
  unfold p_Reader_termU
  refine hS o h h0 _ ho hp C f (fun h1 C1 f1 => (nF (by decide)).mpr ?_)
  obtain ⟨g, hg⟩ : ∃ g : Nat, g = 0 := ⟨_, rfl⟩
  refine ⟨g + 1, ?_⟩
  simp only [p_Reader_term_12U]
  rw [(CS_tokU C1).1]
  exact (pF (by decide)).mpr ((nF c).mpr (HS h1 C1 f1))
theorem SP_term2 {p q r : Nat} {e e2 : List Int32} {P : (Int32 → AH → Prop) → Int32 → AH → Prop} (S : SP 6 p q e P) (c : tkK bF 58 q = 42) (S2 : SP 6 (tkE bF 58 q) r e2 P) (c2 : ¬ tkK bF 58 r = 42) : SP 5 p r (e ++ e2 ++ [18]) (fun Q => p_Reader_termU Q P) := by
  obtain ⟨P1, hS⟩ := S
  obtain ⟨P2, hS2⟩ := S2
  have hq := P1.1.2.2
  have hpos := tk_pos (b := bF) hq (by rw [c]; decide)
  have l1 := P1.1
  have l2 := P2.1
  refine ⟨⟨⟨by simp; omega, by omega, l2.2.2⟩, exC_bin P1.2.1 P2.2.1 (by unfold binC; decide), ⟨fun _ => c2, fun z => by omega, fun z => by omega, fun z => by omega⟩, SimOK_bin (sg := 18) (by decide) (by unfold sgI; decide) (by show sgF (tkK bF 58 q) = 18; rw [c]; decide) (SimOK_up (by decide) (fun z => absurd z (by decide)) P1.2.2.2) P2.2.2.2⟩, fun o h h0 Q ho hp C f HS => ?_⟩
  show p_Reader_termU Q P 0 h
  unfold p_Reader_termU
  refine hS o h h0 _ ho hp C f (fun h1 C1 f1 => (nF (by decide)).mpr ?_)
  obtain ⟨g, hg⟩ : ∃ g : Nat, g = 1 := ⟨_, rfl⟩
  refine ⟨g + 1, ?_⟩
  simp only [p_Reader_term_12U]
  rw [(CS_tokU C1).1]
  refine (pF (by decide)).mpr ((nT c).mpr (CS_nextU (by decide) hq C1 f1 (fun h2 C2 f2 => ?_)))
  refine hS2 (o ++ e) h2 h0 _ (by simp; omega) hpos.2.2 C2 f2 (fun h3 C3 f3 => (nF (by decide)).mpr ?_)
  obtain ⟨a1, a2, a3⟩ := CS_lawU (by decide) C3
  refine ⟨a1, a2, a3, CS_addU (c := 18) (by decide) C3 (by simp; omega) (by decide) f3 (fun h4 C4 f4 => ?_)⟩
  obtain ⟨g2, hg2⟩ : ∃ g2 : Nat, g = g2 + 1 := ⟨0, hg⟩
  rw [hg2]
  simp only [p_Reader_term_12U]
  rw [(CS_tokU C4).1]
  refine (pF (by decide)).mpr ((nF c2).mpr (HS h4 ?_ f4))
  rw [List.append_assoc o e e2, List.append_assoc o] at C4; exact C4
theorem SP_sum1 {p q : Nat} {e : List Int32} {P : (Int32 → AH → Prop) → Int32 → AH → Prop} (S : SP 5 p q e P) (c : ¬ tkK bF 58 q = 43) (c' : ¬ tkK bF 58 q = 45) : SP 4 p q e (fun Q => p_Reader_sumU Q P) := by
  obtain ⟨P1, hS⟩ := S
  obtain ⟨s1, s2, s3, s4⟩ := P1.2.2.1
  refine ⟨⟨P1.1, P1.2.1, ⟨fun _ => s1 (by decide), fun _ => ⟨c, c'⟩, fun z => by omega, fun z => by omega⟩, SimOK_up (by decide) (fun z => absurd z (by decide)) P1.2.2.2⟩, fun o h h0 Q ho hp C f HS => ?_⟩
  show p_Reader_sumU Q P 0 h
  unfold p_Reader_sumU
  refine hS o h h0 _ ho hp C f (fun h1 C1 f1 => (nF (by decide)).mpr ?_)
  obtain ⟨g, hg⟩ : ∃ g : Nat, g = 0 := ⟨_, rfl⟩
  refine ⟨g + 1, ?_⟩
  simp only [p_Reader_sum_12U]
  rw [(CS_tokU C1).1]
  exact (pF (by decide)).mpr ((pF c).mpr ((nF c').mpr (HS h1 C1 f1)))
theorem SP_sum2 {p q r : Nat} {e e2 : List Int32} {P : (Int32 → AH → Prop) → Int32 → AH → Prop} (S : SP 5 p q e P) (c : tkK bF 58 q = 43) (S2 : SP 5 (tkE bF 58 q) r e2 P) (c2 : ¬ tkK bF 58 r = 43) (c2' : ¬ tkK bF 58 r = 45) : SP 4 p r (e ++ e2 ++ [16]) (fun Q => p_Reader_sumU Q P) := by
  obtain ⟨P1, hS⟩ := S
  obtain ⟨P2, hS2⟩ := S2
  have hq := P1.1.2.2
  have hpos := tk_pos (b := bF) hq (by rw [c]; decide)
  have l1 := P1.1
  have l2 := P2.1
  obtain ⟨s1, s2, s3, s4⟩ := P2.2.2.1
  refine ⟨⟨⟨by simp; omega, by omega, l2.2.2⟩, exC_bin P1.2.1 P2.2.1 (by unfold binC; decide), ⟨fun _ => s1 (by decide), fun _ => ⟨c2, c2'⟩, fun z => by omega, fun z => by omega⟩, SimOK_bin (sg := 16) (by decide) (by unfold sgI; decide) (by show sgF (tkK bF 58 q) = 16; rw [c]; decide) (SimOK_up (by decide) (fun z => absurd z (by decide)) P1.2.2.2) P2.2.2.2⟩, fun o h h0 Q ho hp C f HS => ?_⟩
  show p_Reader_sumU Q P 0 h
  unfold p_Reader_sumU
  refine hS o h h0 _ ho hp C f (fun h1 C1 f1 => (nF (by decide)).mpr ?_)
  obtain ⟨g, hg⟩ : ∃ g : Nat, g = 1 := ⟨_, rfl⟩
  refine ⟨g + 1, ?_⟩
  simp only [p_Reader_sum_12U]
  rw [(CS_tokU C1).1]
  refine (pF (by decide)).mpr ((pT c).mpr ?_)
  unfold p_Reader_sum_37U
  rw [(CS_tokU C1).1]
  refine CS_nextU (by decide) hq C1 f1 (fun h2 C2 f2 => ?_)
  refine hS2 (o ++ e) h2 h0 _ (by simp; omega) hpos.2.2 C2 f2 (fun h3 C3 f3 => (nF (by decide)).mpr ?_)
  obtain ⟨a1, a2, a3⟩ := CS_lawU (by decide) C3
  refine ⟨a1, (nT c).mpr ?_⟩
  unfold p_Reader_sum_73U
  refine ⟨a2, a3, CS_addU (c := 16) (by decide) C3 (by simp; omega) (by decide) f3 (fun h4 C4 f4 => ?_)⟩
  obtain ⟨g2, hg2⟩ : ∃ g2 : Nat, g = g2 + 1 := ⟨0, hg⟩
  rw [hg2]
  simp only [p_Reader_sum_12U]
  rw [(CS_tokU C4).1]
  refine (pF (by decide)).mpr ((pF c2).mpr ((nF c2').mpr (HS h4 ?_ f4)))
  rw [List.append_assoc o e e2, List.append_assoc o] at C4; exact C4
theorem SP_compared {p q : Nat} {e : List Int32} {P : (Int32 → AH → Prop) → Int32 → AH → Prop} (S : SP 4 p q e P) (c : ¬ tkK bF 58 q = 60) (c' : ¬ tkK bF 58 q = 61) : SP 3 p q e (fun Q => p_Reader_comparedU Q P) := by
  obtain ⟨P1, hS⟩ := S
  obtain ⟨s1, s2, s3, s4⟩ := P1.2.2.1
  refine ⟨⟨P1.1, P1.2.1, ⟨fun _ => s1 (by decide), fun _ => s2 (by decide), fun z => by omega, fun z => by omega⟩, SimOK_cmp0 (fun z => z.elim c c') P1.2.2.2⟩, fun o h h0 Q ho hp C f HS => ?_⟩
  show p_Reader_comparedU Q P 0 h
  unfold p_Reader_comparedU
  refine hS o h h0 _ ho hp C f (fun h1 C1 f1 => (nF (by decide)).mpr ?_)
  rw [(CS_tokU C1).1]
  exact (pF c).mpr ((pF c').mpr (HS h1 C1 f1))
theorem SP_unless {p q : Nat} {e : List Int32} {P P2 : (Int32 → AH → Prop) → Int32 → AH → Prop} (S : SP 3 p q e P) (c : ¬ tkK bF 58 p = 6) : SP 2 p q e (fun Q => p_Reader_unlessU Q P P2) := by
  obtain ⟨P1, hS⟩ := S
  obtain ⟨s1, s2, s3, s4⟩ := P1.2.2.1
  refine ⟨⟨P1.1, P1.2.1, ⟨fun _ => s1 (by decide), fun _ => s2 (by decide), fun z => by omega, fun z => by omega⟩, SimOK_up (by decide) (fun _ => c) P1.2.2.2⟩, fun o h h0 Q ho hp C f HS => ?_⟩
  show p_Reader_unlessU Q P P2 0 h
  unfold p_Reader_unlessU
  rw [(CS_tokU C).1]
  exact (pF c).mpr (hS o h h0 _ ho hp C f (fun h1 C1 f1 => ⟨rfl, HS h1 C1 f1⟩))
theorem SP_both {p q : Nat} {e : List Int32} {P : (Int32 → AH → Prop) → Int32 → AH → Prop} (S : SP 2 p q e P) (c : ¬ tkK bF 58 q = 5) : SP 1 p q e (fun Q => p_Reader_bothU Q P) := by
  obtain ⟨P1, hS⟩ := S
  obtain ⟨s1, s2, s3, s4⟩ := P1.2.2.1
  refine ⟨⟨P1.1, P1.2.1, ⟨fun _ => s1 (by decide), fun _ => s2 (by decide), fun _ => c, fun z => by omega⟩, SimOK_up (by decide) (fun z => absurd z (by decide)) P1.2.2.2⟩, fun o h h0 Q ho hp C f HS => ?_⟩
  show p_Reader_bothU Q P 0 h
  unfold p_Reader_bothU
  refine hS o h h0 _ ho hp C f (fun h1 C1 f1 => (nF (by decide)).mpr ?_)
  obtain ⟨g, hg⟩ : ∃ g : Nat, g = 0 := ⟨_, rfl⟩
  refine ⟨g + 1, ?_⟩
  simp only [p_Reader_both_12U]
  rw [(CS_tokU C1).1]
  exact (pF (by decide)).mpr ((nF c).mpr (HS h1 C1 f1))
theorem SP_either {p q : Nat} {e : List Int32} {P : (Int32 → AH → Prop) → Int32 → AH → Prop} (S : SP 1 p q e P) (c : ¬ tkK bF 58 q = 4) : SP 0 p q e (fun Q => p_Reader_eitherU Q P) := by
  obtain ⟨P1, hS⟩ := S
  obtain ⟨s1, s2, s3, s4⟩ := P1.2.2.1
  refine ⟨⟨P1.1, P1.2.1, ⟨fun _ => s1 (by decide), fun _ => s2 (by decide), fun _ => s3 (by decide), fun _ => c⟩, SimOK_up (by decide) (fun z => absurd z (by decide)) P1.2.2.2⟩, fun o h h0 Q ho hp C f HS => ?_⟩
  show p_Reader_eitherU Q P 0 h
  unfold p_Reader_eitherU
  refine hS o h h0 _ ho hp C f (fun h1 C1 f1 => (nF (by decide)).mpr ?_)
  obtain ⟨g, hg⟩ : ∃ g : Nat, g = 0 := ⟨_, rfl⟩
  refine ⟨g + 1, ?_⟩
  simp only [p_Reader_either_12U]
  rw [(CS_tokU C1).1]
  exact (pF (by decide)).mpr ((nF c).mpr (HS h1 C1 f1))
/-- from a sum on, with a ; behind it -/
theorem SP_whole {k p q : Nat} {e : List Int32} (S : SP 4 p q e (PRdU k 4)) (c : tkK bF 58 q = 59) (c6 : ¬ tkK bF 58 p = 6) : SP 0 p q e (PRdU (k + 4) 0) := by
  have ne : ∀ x : Int32, ¬ (59 : Int32) = x → ¬ tkK bF 58 q = x := fun x hx z => hx (c.symm.trans z)
  have S3 : SP 3 p q e (PRdU (k + 1) 3) := SP_compared S (ne 60 (by decide)) (ne 61 (by decide))
  have S2 : SP 2 p q e (PRdU (k + 2) 2) := SP_unless S3 c6
  have S1 : SP 1 p q e (PRdU (k + 3) 1) := SP_both S2 (ne 5 (by decide))
  exact SP_either S1 (ne 4 (by decide))
theorem SP_o {k p : Nat} (hp : p ≤ 58) (hK : tkK bF 58 p = 2 ∨ tkK bF 58 p = 3) : SP 6 p (tkE bF 58 p) [codV bF 58 p] (PRdU (k + 1) 6) := SP_one hp hK
theorem SP_t1 {k p q : Nat} {e : List Int32} (S : SP 6 p q e (PRdU k 6)) (c : ¬ tkK bF 58 q = 42) : SP 5 p q e (PRdU (k + 1) 5) := SP_term1 S c
theorem SP_t2 {k p q r : Nat} {e e2 : List Int32} (S : SP 6 p q e (PRdU k 6)) (c : tkK bF 58 q = 42) (S2 : SP 6 (tkE bF 58 q) r e2 (PRdU k 6)) (c2 : ¬ tkK bF 58 r = 42) : SP 5 p r (e ++ e2 ++ [18]) (PRdU (k + 1) 5) := SP_term2 S c S2 c2
theorem SP_s1 {k p q : Nat} {e : List Int32} (S : SP 5 p q e (PRdU k 5)) (c : ¬ tkK bF 58 q = 43) (c' : ¬ tkK bF 58 q = 45) : SP 4 p q e (PRdU (k + 1) 4) := SP_sum1 S c c'
theorem SP_s2 {k p q r : Nat} {e e2 : List Int32} (S : SP 5 p q e (PRdU k 5)) (c : tkK bF 58 q = 43) (S2 : SP 5 (tkE bF 58 q) r e2 (PRdU k 5)) (c2 : ¬ tkK bF 58 r = 43) (c2' : ¬ tkK bF 58 r = 45) : SP 4 p r (e ++ e2 ++ [16]) (PRdU (k + 1) 4) := SP_sum2 S c S2 c2 c2'
theorem tkE_F : tkE bF 58 0 = 6 ∧ tkE bF 58 6 = 11 ∧ tkE bF 58 11 = 13 ∧ tkE bF 58 13 = 20 ∧ tkE bF 58 20 = 22 ∧ tkE bF 58 22 = 24 ∧ tkE bF 58 24 = 26 ∧ tkE bF 58 26 = 32 ∧ tkE bF 58 32 = 34 ∧ tkE bF 58 34 = 36 ∧ tkE bF 58 36 = 41 ∧ tkE bF 58 41 = 47 ∧ tkE bF 58 47 = 49 ∧ tkE bF 58 49 = 56 ∧ tkE bF 58 56 = 58 := by decide +kernel
theorem kk_F : tkK bF 58 0 = 7 ∧ tkK bF 58 6 = 3 ∧ tkK bF 58 11 = 43 ∧ tkK bF 58 13 = 3 ∧ tkK bF 58 20 = 42 ∧ tkK bF 58 22 = 2 ∧ tkK bF 58 24 = 59 ∧ tkK bF 58 26 = 8 ∧ tkK bF 58 32 = 2 ∧ tkK bF 58 34 = 59 ∧ tkK bF 58 36 = 9 ∧ tkK bF 58 41 = 3 ∧ tkK bF 58 47 = 42 ∧ tkK bF 58 49 = 3 ∧ tkK bF 58 56 = 59 ∧ tkK bF 58 58 = 0 := by decide +kernel
def eF1 : List Int32 := [codV bF 58 6] ++ ([codV bF 58 13] ++ [codV bF 58 22] ++ [18]) ++ [16]
def eF2 : List Int32 := [codV bF 58 32]
def eF3 : List Int32 := [codV bF 58 41] ++ [codV bF 58 49] ++ [18]
theorem SP_F1 : SP 0 6 24 eF1 (PRdU 42 0) := by
  obtain ⟨t0, t1, t2, t3, t4, t5, t6, t7, t8, t9, t10, t11, t12, t13, t14⟩ := tkE_F
  obtain ⟨k0, k1, k2, k3, k4, k5, k6, k7, k8, k9, k10, k11, k12, k13, k14, k15⟩ := kk_F
  have a1 : SP 6 6 11 [codV bF 58 6] (PRdU 36 6) := by have := SP_o (k := 35) (p := 6) (by decide) (Or.inr k1); rw [t1] at this; exact this
  have a2 : SP 6 13 20 [codV bF 58 13] (PRdU 36 6) := by have := SP_o (k := 35) (p := 13) (by decide) (Or.inr k3); rw [t3] at this; exact this
  have a3 : SP 6 (tkE bF 58 20) 24 [codV bF 58 22] (PRdU 36 6) := by have := SP_o (k := 35) (p := 22) (by decide) (Or.inl k5); rw [t5] at this; rw [t4]; exact this
  have b1 : SP 5 6 11 _ (PRdU 37 5) := SP_t1 a1 (by rw [k2]; decide)
  have b2 : SP 5 (tkE bF 58 11) 24 ([codV bF 58 13] ++ [codV bF 58 22] ++ [18]) (PRdU 37 5) := by rw [t2]; exact SP_t2 a2 k4 a3 (by rw [k6]; decide)
  have c1 : SP 4 6 24 _ (PRdU 38 4) := SP_s2 b1 k2 b2 (by rw [k6]; decide) (by rw [k6]; decide)
  exact SP_whole (k := 38) c1 k6 (by rw [k1]; decide)
theorem SP_F2 : SP 0 32 34 eF2 (PRdU 42 0) := by
  obtain ⟨t0, t1, t2, t3, t4, t5, t6, t7, t8, t9, t10, t11, t12, t13, t14⟩ := tkE_F
  obtain ⟨k0, k1, k2, k3, k4, k5, k6, k7, k8, k9, k10, k11, k12, k13, k14, k15⟩ := kk_F
  have a1 : SP 6 32 34 [codV bF 58 32] (PRdU 36 6) := by have := SP_o (k := 35) (p := 32) (by decide) (Or.inl k8); rw [t8] at this; exact this
  have b1 : SP 5 32 34 _ (PRdU 37 5) := SP_t1 a1 (by rw [k9]; decide)
  have c1 : SP 4 32 34 _ (PRdU 38 4) := SP_s1 b1 (by rw [k9]; decide) (by rw [k9]; decide)
  exact SP_whole (k := 38) c1 k9 (by rw [k8]; decide)
theorem SP_F3 : SP 0 41 56 eF3 (PRdU 42 0) := by
  obtain ⟨t0, t1, t2, t3, t4, t5, t6, t7, t8, t9, t10, t11, t12, t13, t14⟩ := tkE_F
  obtain ⟨k0, k1, k2, k3, k4, k5, k6, k7, k8, k9, k10, k11, k12, k13, k14, k15⟩ := kk_F
  have a1 : SP 6 41 47 [codV bF 58 41] (PRdU 36 6) := by have := SP_o (k := 35) (p := 41) (by decide) (Or.inr k11); rw [t11] at this; exact this
  have a2 : SP 6 (tkE bF 58 47) 56 [codV bF 58 49] (PRdU 36 6) := by have := SP_o (k := 35) (p := 49) (by decide) (Or.inr k13); rw [t13] at this; rw [t12]; exact this
  have b1 : SP 5 41 56 _ (PRdU 37 5) := SP_t2 a1 k12 a2 (by rw [k14]; decide)
  have c1 : SP 4 41 56 _ (PRdU 38 4) := SP_s1 b1 (by rw [k14]; decide) (by rw [k14]; decide)
  exact SP_whole (k := 38) c1 k14 (by rw [k11]; decide)
