theorem d_MO_chains_0 : decode prog_14_method_7_code 0 = .ok (.iconst 0, 1) := by decide +kernel
theorem d_MO_chains_1 : decode prog_14_method_7_code 1 = .ok (.istore_n 1, 1) := by decide +kernel
theorem d_MO_chains_2 : decode prog_14_method_7_code 2 = .ok (.iconst 0, 1) := by decide +kernel
theorem d_MO_chains_3 : decode prog_14_method_7_code 3 = .ok (.istore_n 2, 1) := by decide +kernel
theorem d_MO_chains_4 : decode prog_14_method_7_code 4 = .ok (.iload_n 2, 1) := by decide +kernel
theorem d_MO_chains_5 : decode prog_14_method_7_code 5 = .ok (.aload_n 0, 1) := by decide +kernel
theorem d_MO_chains_6 : decode prog_14_method_7_code 6 = .ok (.getfield 90, 3) := by decide +kernel
theorem d_MO_chains_9 : decode prog_14_method_7_code 9 = .ok (.if_icmp .ge 25, 3) := by decide +kernel
theorem d_MO_chains_12 : decode prog_14_method_7_code 12 = .ok (.iload_n 1, 1) := by decide +kernel
theorem d_MO_chains_13 : decode prog_14_method_7_code 13 = .ok (.aload_n 0, 1) := by decide +kernel
theorem d_MO_chains_14 : decode prog_14_method_7_code 14 = .ok (.iload_n 2, 1) := by decide +kernel
theorem d_MO_chains_15 : decode prog_14_method_7_code 15 = .ok (.invokevirtual 97, 3) := by decide +kernel
theorem d_MO_chains_18 : decode prog_14_method_7_code 18 = .ok (.ifCond .eq 7, 3) := by decide +kernel
theorem d_MO_chains_21 : decode prog_14_method_7_code 21 = .ok (.iconst 1, 1) := by decide +kernel
theorem d_MO_chains_22 : decode prog_14_method_7_code 22 = .ok (.goto 4, 3) := by decide +kernel
theorem d_MO_chains_25 : decode prog_14_method_7_code 25 = .ok (.iconst 0, 1) := by decide +kernel
theorem d_MO_chains_26 : decode prog_14_method_7_code 26 = .ok (.iadd, 1) := by decide +kernel
theorem d_MO_chains_27 : decode prog_14_method_7_code 27 = .ok (.istore_n 1, 1) := by decide +kernel
theorem d_MO_chains_28 : decode prog_14_method_7_code 28 = .ok (.iinc 2 1, 3) := by decide +kernel
theorem d_MO_chains_31 : decode prog_14_method_7_code 31 = .ok (.goto (-27), 3) := by decide +kernel
theorem d_MO_chains_34 : decode prog_14_method_7_code 34 = .ok (.iload_n 1, 1) := by decide +kernel
theorem d_MO_chains_35 : decode prog_14_method_7_code 35 = .ok (.ireturn, 1) := by decide +kernel
def p_MO_chains_26 (Q : Int32 → AH → Prop) (K4 : Int32 → Int32 → AH → Prop) (x2 : Int32) (s0 : Int32) (s1 : Int32) (h : AH) : Prop := K4 (s0 + s1) (x2 + 1) h
def p_MO_chains_4 (Q : Int32 → AH → Prop) : Nat → Int32 → Int32 → AH → Prop
  | 0 => fun _ _ _ => False
  | n + 1 => fun x1 x2 h => let K4 := p_MO_chains_4 Q n; (((h.1 59 0) ≤ x2 → Q x1 h) ∧ (¬ (h.1 59 0) ≤ x2 → p_MO_isLesser (fun r2 h1 => ((r2 = 0 → p_MO_chains_26 Q  K4 x2 x1 0 h1) ∧ (¬ r2 = 0 → p_MO_chains_26 Q  K4 x2 x1 1 h1))) x2 h))
def p_MO_chains (Q : Int32 → AH → Prop) (h : AH) : Prop := ∃ n, p_MO_chains_4 Q   n 0 0 h
set_option maxRecDepth 20000 in
theorem r_MO_chains_26 {G : GG} {d : Nat} {Q : Int32 → AH → Prop} {K4 : Int32 → Int32 → AH → Prop} (k4 : ∀ x1 x2 h, K4 x1 x2 h → Att G T1 m_MO_chains (d + 1) 4 [some (.ref 59), some (.int x1), some (.int x2)] [] h 0 0 (iQ Q)) (x2 : Int32) (s0 : Int32) (s1 : Int32) (h : AH) (H : p_MO_chains_26 Q K4 x2 s0 s1 h) : Att G T1 m_MO_chains (d + 1) 26 [some (.ref 59), none, some (.int x2)] [.int s1, .int s0] h 0 0 (iQ Q) := by
  refine A_iadd d_MO_chains_26 ?_
  refine A_istore_n [some (.ref 59), some (.int (s0 + s1)), some (.int x2)] d_MO_chains_27 (by decide) rfl rfl ?_
  refine A_iinc 1 [some (.ref 59), some (.int (s0 + s1)), some (.int (x2 + 1))] d_MO_chains_28 rfl (by decide) (by decide) rfl rfl ?_
  refine A_goto 4 d_MO_chains_31 (by decide) ?_
  exact k4 _ _ _ H
set_option maxRecDepth 20000 in
theorem r_MO_chains_4 {G : GG} {d : Nat} {Q : Int32 → AH → Prop} : ∀ (n : Nat) (x1 : Int32) (x2 : Int32) (h : AH), p_MO_chains_4 Q n x1 x2 h → Att G T1 m_MO_chains (d + 1) 4 [some (.ref 59), some (.int x1), some (.int x2)] [] h 0 0 (iQ Q) := by
  intro n
  induction n with
  | zero => intro x1 x2 h H; exact H.elim
  | succ n k4 =>
    intro x1 x2 h H
    refine A_iload_n d_MO_chains_4 rfl ?_
    refine A_aload_n d_MO_chains_5 rfl ?_
    refine A_get (v := .int (h.1 59 0)) d_MO_chains_6 (fo_MO_90_12 rfl) (vA_s (by decide)) rfl (by first | rfl | (show Value.int _ = Value.int _; simp [wI, wL, wR, wC, up])) ?_
    refine A_icmp_ge 34 d_MO_chains_9 (by decide) (fun z => ?_) (fun z => ?_)
    · have H := H.1 z
      refine A_iload_n d_MO_chains_34 rfl ?_
      exact A_iret d_MO_chains_35 rfl rfl H
    · have H := H.2 z
      refine A_iload_n d_MO_chains_12 rfl ?_
      refine A_aload_n d_MO_chains_13 rfl ?_
      refine A_iload_n d_MO_chains_14 rfl ?_
      refine A_cI [.ref 59, .int x2] [.int x1] (ct_MO_97 rfl) d_MO_chains_15 rfl rfl (by decide) (Nat.le_of_ble_eq_true rfl) (rcA_o (c := 12) rfl (vA_s (by decide)) rfl (by decide) rfl) (ok_MO_isLesser (d := d) H) (fun r2 h1 H => ?_)
      refine A_if_eq 25 d_MO_chains_18 (by decide) (fun z => ?_) (fun z => ?_)
      · have H := H.1 z
        refine A_iconst 0 (by decide) d_MO_chains_25 ?_
        refine A_sub (L' := [some (.ref 59), none, some (.int x2)]) ⟨rfl, rfl, trivial⟩ ?_
        exact r_MO_chains_26  k4 _ _ _ _ H
      · have H := H.2 z
        refine A_iconst 1 (by decide) d_MO_chains_21 ?_
        refine A_goto 26 d_MO_chains_22 (by decide) ?_
        refine A_sub (L' := [some (.ref 59), none, some (.int x2)]) ⟨rfl, rfl, trivial⟩ ?_
        exact r_MO_chains_26  k4 _ _ _ _ H
set_option maxRecDepth 20000 in
theorem r_MO_chains_0 {G : GG} {d : Nat} {Q : Int32 → AH → Prop} (h : AH) (H : p_MO_chains Q h) : Att G T1 m_MO_chains (d + 1) 0 [some (.ref 59), none, none] [] h 0 0 (iQ Q) := by
  refine A_iconst 0 (by decide) d_MO_chains_0 ?_
  refine A_istore_n [some (.ref 59), some (.int 0), none] d_MO_chains_1 (by decide) rfl rfl ?_
  refine A_iconst 0 (by decide) d_MO_chains_2 ?_
  refine A_istore_n [some (.ref 59), some (.int 0), some (.int 0)] d_MO_chains_3 (by decide) rfl rfl ?_
  obtain ⟨n9, H⟩ := H
  exact r_MO_chains_4   n9 _ _ _ H
set_option maxRecDepth 20000 in
theorem ok_MO_chains {G : GG} {d : Nat} {Q : Int32 → AH → Prop} {h : AH} (H : p_MO_chains Q h) : WP G T1 m_MO_chains (d + 1) [.ref 59] h 0 0 (iQ Q) := by
  exact WP.enter 2 (by decide) rfl rfl (r_MO_chains_0 h H)
theorem d_MO_isByte_0 : decode prog_14_method_10_code 0 = .ok (.iload_n 0, 1) := by decide +kernel
theorem d_MO_isByte_1 : decode prog_14_method_10_code 1 = .ok (.iconst 0, 1) := by decide +kernel
theorem d_MO_isByte_2 : decode prog_14_method_10_code 2 = .ok (.sipush 255, 3) := by decide +kernel
theorem d_MO_isByte_5 : decode prog_14_method_10_code 5 = .ok (.invokestatic 93, 3) := by decide +kernel
theorem d_MO_isByte_8 : decode prog_14_method_10_code 8 = .ok (.ireturn, 1) := by decide +kernel
def p_MO_isByte (Q : Int32 → AH → Prop) (x0 : Int32) (h : AH) : Prop := p_MO_in (fun r2 h1 => narrow .boolean (.int r2) = .int r2 ∧ Q r2 h1) x0 0 255 h
set_option maxRecDepth 20000 in
theorem r_MO_isByte_0 {G : GG} {d : Nat} {Q : Int32 → AH → Prop} (x0 : Int32) (h : AH) (H : p_MO_isByte Q x0 h) : Att G T1 m_MO_isByte (d + 1) 0 [some (.int x0)] [] h 0 0 (iQ Q) := by
  refine A_iload_n d_MO_isByte_0 rfl ?_
  refine A_iconst 0 (by decide) d_MO_isByte_1 ?_
  refine A_sipush 255 (by decide) d_MO_isByte_2 ?_
  refine A_cI [.int x0, .int 0, .int 255] [] (ct_MO_93 rfl) d_MO_isByte_5 rfl rfl (by decide) (Nat.le_of_ble_eq_true rfl) trivial (ok_MO_in (d := d) H) (fun r2 h1 H => ?_)
  exact A_iret d_MO_isByte_8 rfl H.1 H.2
set_option maxRecDepth 20000 in
theorem ok_MO_isByte {G : GG} {d : Nat} {Q : Int32 → AH → Prop} {x0 : Int32} {h : AH} (H : p_MO_isByte Q x0 h) : WP G T1 m_MO_isByte (d + 1) [.int x0] h 0 0 (iQ Q) := by
  exact WP.enter 0 (by decide) rfl rfl (r_MO_isByte_0 x0 h H)
theorem d_MO_force_0 : decode prog_14_method_25_code 0 = .ok (.iload_n 1, 1) := by decide +kernel
theorem d_MO_force_1 : decode prog_14_method_25_code 1 = .ok (.iconst 0, 1) := by decide +kernel
theorem d_MO_force_2 : decode prog_14_method_25_code 2 = .ok (.aload_n 0, 1) := by decide +kernel
theorem d_MO_force_3 : decode prog_14_method_25_code 3 = .ok (.getfield 107, 3) := by decide +kernel
theorem d_MO_force_6 : decode prog_14_method_25_code 6 = .ok (.iconst 1, 1) := by decide +kernel
theorem d_MO_force_7 : decode prog_14_method_25_code 7 = .ok (.isub, 1) := by decide +kernel
theorem d_MO_force_8 : decode prog_14_method_25_code 8 = .ok (.invokestatic 93, 3) := by decide +kernel
theorem d_MO_force_11 : decode prog_14_method_25_code 11 = .ok (.ifCond .ne 6, 3) := by decide +kernel
theorem d_MO_force_14 : decode prog_14_method_25_code 14 = .ok (.bipush (-2), 2) := by decide +kernel
theorem d_MO_force_16 : decode prog_14_method_25_code 16 = .ok (.ireturn, 1) := by decide +kernel
theorem d_MO_force_17 : decode prog_14_method_25_code 17 = .ok (.aload_n 0, 1) := by decide +kernel
theorem d_MO_force_18 : decode prog_14_method_25_code 18 = .ok (.getfield 110, 3) := by decide +kernel
theorem d_MO_force_21 : decode prog_14_method_25_code 21 = .ok (.istore_n 2, 1) := by decide +kernel
theorem d_MO_force_22 : decode prog_14_method_25_code 22 = .ok (.aload_n 0, 1) := by decide +kernel
theorem d_MO_force_23 : decode prog_14_method_25_code 23 = .ok (.iload_n 1, 1) := by decide +kernel
theorem d_MO_force_24 : decode prog_14_method_25_code 24 = .ok (.putfield 110, 3) := by decide +kernel
theorem d_MO_force_27 : decode prog_14_method_25_code 27 = .ok (.iload_n 2, 1) := by decide +kernel
theorem d_MO_force_28 : decode prog_14_method_25_code 28 = .ok (.ireturn, 1) := by decide +kernel
def p_MO_force (Q : Int32 → AH → Prop) (x1 : Int32) (h : AH) : Prop := p_MO_in (fun r2 h1 => ((¬ r2 = 0 → Q (h1.1 59 12) (wI h1 59 12 x1)) ∧ (r2 = 0 → Q (-2) h1))) x1 0 ((h.1 59 11) - 1) h
set_option maxRecDepth 20000 in
theorem r_MO_force_0 {G : GG} {d : Nat} {Q : Int32 → AH → Prop} (x1 : Int32) (h : AH) (H : p_MO_force Q x1 h) : Att G T1 m_MO_force (d + 1) 0 [some (.ref 59), some (.int x1), none] [] h 0 0 (iQ Q) := by
  refine A_iload_n d_MO_force_0 rfl ?_
  refine A_iconst 0 (by decide) d_MO_force_1 ?_
  refine A_aload_n d_MO_force_2 rfl ?_
  refine A_get (v := .int (h.1 59 11)) d_MO_force_3 (fo_MO_107_12 rfl) (vA_s (by decide)) rfl (by first | rfl | (show Value.int _ = Value.int _; simp [wI, wL, wR, wC, up])) ?_
  refine A_iconst 1 (by decide) d_MO_force_6 ?_
  refine A_isub d_MO_force_7 ?_
  refine A_cI [.int x1, .int 0, .int ((h.1 59 11) - 1)] [] (ct_MO_93 rfl) d_MO_force_8 rfl rfl (by decide) (Nat.le_of_ble_eq_true rfl) trivial (ok_MO_in (d := d) H) (fun r2 h1 H => ?_)
  refine A_if_ne 17 d_MO_force_11 (by decide) (fun z => ?_) (fun z => ?_)
  · have H := H.1 z
    refine A_aload_n d_MO_force_17 rfl ?_
    refine A_get (v := .int (h1.1 59 12)) d_MO_force_18 (fo_MO_110_12 rfl) (vA_s (by decide)) rfl (by first | rfl | (show Value.int _ = Value.int _; simp [wI, wL, wR, wC, up])) ?_
    refine A_istore_n [some (.ref 59), some (.int x1), some (.int (h1.1 59 12))] d_MO_force_21 (by decide) rfl rfl ?_
    refine A_aload_n d_MO_force_22 rfl ?_
    refine A_iload_n d_MO_force_23 rfl ?_
    refine A_putI (k := 12) d_MO_force_24 (fo_MO_110_12 rfl) (Or.inr ⟨rfl, _, ft_12_12⟩) (fun z => by cases z) rfl (vA_s (by decide)) rfl rfl rfl ?_
    refine A_iload_n d_MO_force_27 rfl ?_
    exact A_iret d_MO_force_28 rfl rfl H
  · have H := H.2 z
    refine A_bipush (-2) (by decide) d_MO_force_14 ?_
    exact A_iret d_MO_force_16 rfl rfl H
set_option maxRecDepth 20000 in
theorem ok_MO_force {G : GG} {d : Nat} {Q : Int32 → AH → Prop} {x1 : Int32} {h : AH} (H : p_MO_force Q x1 h) : WP G T1 m_MO_force (d + 1) [.ref 59, .int x1] h 0 0 (iQ Q) := by
  exact WP.enter 1 (by decide) rfl rfl (r_MO_force_0 x1 h H)
theorem d_MO_isHouse_0 : decode prog_14_method_5_code 0 = .ok (.iload_n 1, 1) := by decide +kernel
theorem d_MO_isHouse_1 : decode prog_14_method_5_code 1 = .ok (.iconst 0, 1) := by decide +kernel
theorem d_MO_isHouse_2 : decode prog_14_method_5_code 2 = .ok (.aload_n 0, 1) := by decide +kernel
theorem d_MO_isHouse_3 : decode prog_14_method_5_code 3 = .ok (.getfield 90, 3) := by decide +kernel
theorem d_MO_isHouse_6 : decode prog_14_method_5_code 6 = .ok (.iconst 1, 1) := by decide +kernel
theorem d_MO_isHouse_7 : decode prog_14_method_5_code 7 = .ok (.isub, 1) := by decide +kernel
theorem d_MO_isHouse_8 : decode prog_14_method_5_code 8 = .ok (.invokestatic 93, 3) := by decide +kernel
theorem d_MO_isHouse_11 : decode prog_14_method_5_code 11 = .ok (.ireturn, 1) := by decide +kernel
def p_MO_isHouse (Q : Int32 → AH → Prop) (x1 : Int32) (h : AH) : Prop := p_MO_in (fun r2 h1 => narrow .boolean (.int r2) = .int r2 ∧ Q r2 h1) x1 0 ((h.1 59 0) - 1) h
set_option maxRecDepth 20000 in
theorem r_MO_isHouse_0 {G : GG} {d : Nat} {Q : Int32 → AH → Prop} (x1 : Int32) (h : AH) (H : p_MO_isHouse Q x1 h) : Att G T1 m_MO_isHouse (d + 1) 0 [some (.ref 59), some (.int x1)] [] h 0 0 (iQ Q) := by
  refine A_iload_n d_MO_isHouse_0 rfl ?_
  refine A_iconst 0 (by decide) d_MO_isHouse_1 ?_
  refine A_aload_n d_MO_isHouse_2 rfl ?_
  refine A_get (v := .int (h.1 59 0)) d_MO_isHouse_3 (fo_MO_90_12 rfl) (vA_s (by decide)) rfl (by first | rfl | (show Value.int _ = Value.int _; simp [wI, wL, wR, wC, up])) ?_
  refine A_iconst 1 (by decide) d_MO_isHouse_6 ?_
  refine A_isub d_MO_isHouse_7 ?_
  refine A_cI [.int x1, .int 0, .int ((h.1 59 0) - 1)] [] (ct_MO_93 rfl) d_MO_isHouse_8 rfl rfl (by decide) (Nat.le_of_ble_eq_true rfl) trivial (ok_MO_in (d := d) H) (fun r2 h1 H => ?_)
  exact A_iret d_MO_isHouse_11 rfl H.1 H.2
set_option maxRecDepth 20000 in
theorem ok_MO_isHouse {G : GG} {d : Nat} {Q : Int32 → AH → Prop} {x1 : Int32} {h : AH} (H : p_MO_isHouse Q x1 h) : WP G T1 m_MO_isHouse (d + 1) [.ref 59, .int x1] h 0 0 (iQ Q) := by
  exact WP.enter 0 (by decide) rfl rfl (r_MO_isHouse_0 x1 h H)
theorem d_MO_isMany_0 : decode prog_14_method_27_code 0 = .ok (.iload_n 0, 1) := by decide +kernel
theorem d_MO_isMany_1 : decode prog_14_method_27_code 1 = .ok (.iconst 0, 1) := by decide +kernel
theorem d_MO_isMany_2 : decode prog_14_method_27_code 2 = .ok (.bipush 24, 2) := by decide +kernel
theorem d_MO_isMany_4 : decode prog_14_method_27_code 4 = .ok (.invokestatic 93, 3) := by decide +kernel
theorem d_MO_isMany_7 : decode prog_14_method_27_code 7 = .ok (.ireturn, 1) := by decide +kernel
def p_MO_isMany (Q : Int32 → AH → Prop) (x0 : Int32) (h : AH) : Prop := p_MO_in (fun r2 h1 => narrow .boolean (.int r2) = .int r2 ∧ Q r2 h1) x0 0 24 h
set_option maxRecDepth 20000 in
theorem r_MO_isMany_0 {G : GG} {d : Nat} {Q : Int32 → AH → Prop} (x0 : Int32) (h : AH) (H : p_MO_isMany Q x0 h) : Att G T1 m_MO_isMany (d + 1) 0 [some (.int x0)] [] h 0 0 (iQ Q) := by
  refine A_iload_n d_MO_isMany_0 rfl ?_
  refine A_iconst 0 (by decide) d_MO_isMany_1 ?_
  refine A_bipush 24 (by decide) d_MO_isMany_2 ?_
  refine A_cI [.int x0, .int 0, .int 24] [] (ct_MO_93 rfl) d_MO_isMany_4 rfl rfl (by decide) (Nat.le_of_ble_eq_true rfl) trivial (ok_MO_in (d := d) H) (fun r2 h1 H => ?_)
  exact A_iret d_MO_isMany_7 rfl H.1 H.2
set_option maxRecDepth 20000 in
theorem ok_MO_isMany {G : GG} {d : Nat} {Q : Int32 → AH → Prop} {x0 : Int32} {h : AH} (H : p_MO_isMany Q x0 h) : WP G T1 m_MO_isMany (d + 1) [.int x0] h 0 0 (iQ Q) := by
  exact WP.enter 0 (by decide) rfl rfl (r_MO_isMany_0 x0 h H)
theorem d_MO_says_0 : decode prog_14_method_24_code 0 = .ok (.iconst 0, 1) := by decide +kernel
theorem d_MO_says_1 : decode prog_14_method_24_code 1 = .ok (.istore_n 2, 1) := by decide +kernel
theorem d_MO_says_2 : decode prog_14_method_24_code 2 = .ok (.aload_n 0, 1) := by decide +kernel
theorem d_MO_says_3 : decode prog_14_method_24_code 3 = .ok (.getfield 34, 3) := by decide +kernel
theorem d_MO_says_6 : decode prog_14_method_24_code 6 = .ok (.iconst 4, 1) := by decide +kernel
theorem d_MO_says_7 : decode prog_14_method_24_code 7 = .ok (.aload_n 0, 1) := by decide +kernel
theorem d_MO_says_8 : decode prog_14_method_24_code 8 = .ok (.getfield 110, 3) := by decide +kernel
theorem d_MO_says_11 : decode prog_14_method_24_code 11 = .ok (.imul, 1) := by decide +kernel
theorem d_MO_says_12 : decode prog_14_method_24_code 12 = .ok (.iload_n 1, 1) := by decide +kernel
theorem d_MO_says_13 : decode prog_14_method_24_code 13 = .ok (.iadd, 1) := by decide +kernel
theorem d_MO_says_14 : decode prog_14_method_24_code 14 = .ok (.iaload, 1) := by decide +kernel
theorem d_MO_says_15 : decode prog_14_method_24_code 15 = .ok (.istore_n 3, 1) := by decide +kernel
theorem d_MO_says_16 : decode prog_14_method_24_code 16 = .ok (.iload_n 3, 1) := by decide +kernel
theorem d_MO_says_17 : decode prog_14_method_24_code 17 = .ok (.aload_n 0, 1) := by decide +kernel
theorem d_MO_says_18 : decode prog_14_method_24_code 18 = .ok (.getfield 34, 3) := by decide +kernel
theorem d_MO_says_21 : decode prog_14_method_24_code 21 = .ok (.iconst 4, 1) := by decide +kernel
theorem d_MO_says_22 : decode prog_14_method_24_code 22 = .ok (.aload_n 0, 1) := by decide +kernel
theorem d_MO_says_23 : decode prog_14_method_24_code 23 = .ok (.getfield 110, 3) := by decide +kernel
theorem d_MO_says_26 : decode prog_14_method_24_code 26 = .ok (.imul, 1) := by decide +kernel
theorem d_MO_says_27 : decode prog_14_method_24_code 27 = .ok (.iload_n 1, 1) := by decide +kernel
theorem d_MO_says_28 : decode prog_14_method_24_code 28 = .ok (.iadd, 1) := by decide +kernel
theorem d_MO_says_29 : decode prog_14_method_24_code 29 = .ok (.iconst 1, 1) := by decide +kernel
theorem d_MO_says_30 : decode prog_14_method_24_code 30 = .ok (.iadd, 1) := by decide +kernel
theorem d_MO_says_31 : decode prog_14_method_24_code 31 = .ok (.iaload, 1) := by decide +kernel
theorem d_MO_says_32 : decode prog_14_method_24_code 32 = .ok (.if_icmp .ge 165, 3) := by decide +kernel
theorem d_MO_says_35 : decode prog_14_method_24_code 35 = .ok (.aload_n 0, 1) := by decide +kernel
theorem d_MO_says_36 : decode prog_14_method_24_code 36 = .ok (.getfield 31, 3) := by decide +kernel
theorem d_MO_says_39 : decode prog_14_method_24_code 39 = .ok (.sipush 200, 3) := by decide +kernel
theorem d_MO_says_42 : decode prog_14_method_24_code 42 = .ok (.aload_n 0, 1) := by decide +kernel
theorem d_MO_says_43 : decode prog_14_method_24_code 43 = .ok (.getfield 110, 3) := by decide +kernel
theorem d_MO_says_46 : decode prog_14_method_24_code 46 = .ok (.imul, 1) := by decide +kernel
theorem d_MO_says_47 : decode prog_14_method_24_code 47 = .ok (.iload_n 3, 1) := by decide +kernel
theorem d_MO_says_48 : decode prog_14_method_24_code 48 = .ok (.iadd, 1) := by decide +kernel
theorem d_MO_says_49 : decode prog_14_method_24_code 49 = .ok (.iaload, 1) := by decide +kernel
theorem d_MO_says_50 : decode prog_14_method_24_code 50 = .ok (.istore 4, 2) := by decide +kernel
theorem d_MO_says_52 : decode prog_14_method_24_code 52 = .ok (.iload 4, 2) := by decide +kernel
theorem d_MO_says_54 : decode prog_14_method_24_code 54 = .ok (.ldc 158, 2) := by decide +kernel
theorem d_MO_says_56 : decode prog_14_method_24_code 56 = .ok (.if_icmp .ge 10, 3) := by decide +kernel
theorem d_MO_says_59 : decode prog_14_method_24_code 59 = .ok (.iload 4, 2) := by decide +kernel
theorem d_MO_says_61 : decode prog_14_method_24_code 61 = .ok (.bipush 11, 2) := by decide +kernel
theorem d_MO_says_63 : decode prog_14_method_24_code 63 = .ok (.if_icmp .ge 37, 3) := by decide +kernel
theorem d_MO_says_66 : decode prog_14_method_24_code 66 = .ok (.aload_n 0, 1) := by decide +kernel
theorem d_MO_says_67 : decode prog_14_method_24_code 67 = .ok (.getfield 58, 3) := by decide +kernel
theorem d_MO_says_70 : decode prog_14_method_24_code 70 = .ok (.iload_n 2, 1) := by decide +kernel
theorem d_MO_says_71 : decode prog_14_method_24_code 71 = .ok (.iload 4, 2) := by decide +kernel
theorem d_MO_says_73 : decode prog_14_method_24_code 73 = .ok (.bipush 11, 2) := by decide +kernel
theorem d_MO_says_75 : decode prog_14_method_24_code 75 = .ok (.if_icmp .ge 13, 3) := by decide +kernel
theorem d_MO_says_78 : decode prog_14_method_24_code 78 = .ok (.aload_n 0, 1) := by decide +kernel
theorem d_MO_says_79 : decode prog_14_method_24_code 79 = .ok (.getfield 61, 3) := by decide +kernel
theorem d_MO_says_82 : decode prog_14_method_24_code 82 = .ok (.iload 4, 2) := by decide +kernel
theorem d_MO_says_84 : decode prog_14_method_24_code 84 = .ok (.iaload, 1) := by decide +kernel
theorem d_MO_says_85 : decode prog_14_method_24_code 85 = .ok (.goto 8, 3) := by decide +kernel
theorem d_MO_says_88 : decode prog_14_method_24_code 88 = .ok (.iload 4, 2) := by decide +kernel
theorem d_MO_says_90 : decode prog_14_method_24_code 90 = .ok (.ldc 158, 2) := by decide +kernel
theorem d_MO_says_92 : decode prog_14_method_24_code 92 = .ok (.isub, 1) := by decide +kernel
theorem d_MO_says_93 : decode prog_14_method_24_code 93 = .ok (.iastore, 1) := by decide +kernel
theorem d_MO_says_94 : decode prog_14_method_24_code 94 = .ok (.iinc 2 1, 3) := by decide +kernel
theorem d_MO_says_97 : decode prog_14_method_24_code 97 = .ok (.goto 94, 3) := by decide +kernel
theorem d_MO_says_100 : decode prog_14_method_24_code 100 = .ok (.iload 4, 2) := by decide +kernel
theorem d_MO_says_102 : decode prog_14_method_24_code 102 = .ok (.bipush 13, 2) := by decide +kernel
theorem d_MO_says_104 : decode prog_14_method_24_code 104 = .ok (.if_icmp .ne 30, 3) := by decide +kernel
theorem d_MO_says_107 : decode prog_14_method_24_code 107 = .ok (.aload_n 0, 1) := by decide +kernel
theorem d_MO_says_108 : decode prog_14_method_24_code 108 = .ok (.getfield 58, 3) := by decide +kernel
theorem d_MO_says_111 : decode prog_14_method_24_code 111 = .ok (.iload_n 2, 1) := by decide +kernel
theorem d_MO_says_112 : decode prog_14_method_24_code 112 = .ok (.iconst 1, 1) := by decide +kernel
theorem d_MO_says_113 : decode prog_14_method_24_code 113 = .ok (.isub, 1) := by decide +kernel
theorem d_MO_says_114 : decode prog_14_method_24_code 114 = .ok (.aload_n 0, 1) := by decide +kernel
theorem d_MO_says_115 : decode prog_14_method_24_code 115 = .ok (.getfield 58, 3) := by decide +kernel
theorem d_MO_says_118 : decode prog_14_method_24_code 118 = .ok (.iload_n 2, 1) := by decide +kernel
theorem d_MO_says_119 : decode prog_14_method_24_code 119 = .ok (.iconst 1, 1) := by decide +kernel
theorem d_MO_says_120 : decode prog_14_method_24_code 120 = .ok (.isub, 1) := by decide +kernel
theorem d_MO_says_121 : decode prog_14_method_24_code 121 = .ok (.iaload, 1) := by decide +kernel
theorem d_MO_says_122 : decode prog_14_method_24_code 122 = .ok (.ifCond .ne 7, 3) := by decide +kernel
theorem d_MO_says_125 : decode prog_14_method_24_code 125 = .ok (.iconst 1, 1) := by decide +kernel
theorem d_MO_says_126 : decode prog_14_method_24_code 126 = .ok (.goto 4, 3) := by decide +kernel
theorem d_MO_says_129 : decode prog_14_method_24_code 129 = .ok (.iconst 0, 1) := by decide +kernel
theorem d_MO_says_130 : decode prog_14_method_24_code 130 = .ok (.iastore, 1) := by decide +kernel
theorem d_MO_says_131 : decode prog_14_method_24_code 131 = .ok (.goto 60, 3) := by decide +kernel
theorem d_MO_says_134 : decode prog_14_method_24_code 134 = .ok (.iload 4, 2) := by decide +kernel
theorem d_MO_says_136 : decode prog_14_method_24_code 136 = .ok (.bipush 19, 2) := by decide +kernel
theorem d_MO_says_138 : decode prog_14_method_24_code 138 = .ok (.if_icmp .ne 23, 3) := by decide +kernel
theorem d_MO_says_141 : decode prog_14_method_24_code 141 = .ok (.aload_n 0, 1) := by decide +kernel
theorem d_MO_says_142 : decode prog_14_method_24_code 142 = .ok (.getfield 58, 3) := by decide +kernel
theorem d_MO_says_145 : decode prog_14_method_24_code 145 = .ok (.iload_n 2, 1) := by decide +kernel
theorem d_MO_says_146 : decode prog_14_method_24_code 146 = .ok (.iconst 1, 1) := by decide +kernel
theorem d_MO_says_147 : decode prog_14_method_24_code 147 = .ok (.isub, 1) := by decide +kernel
theorem d_MO_says_148 : decode prog_14_method_24_code 148 = .ok (.aload_n 0, 1) := by decide +kernel
theorem d_MO_says_149 : decode prog_14_method_24_code 149 = .ok (.getfield 58, 3) := by decide +kernel
theorem d_MO_says_152 : decode prog_14_method_24_code 152 = .ok (.iload_n 2, 1) := by decide +kernel
theorem d_MO_says_153 : decode prog_14_method_24_code 153 = .ok (.iconst 1, 1) := by decide +kernel
theorem d_MO_says_154 : decode prog_14_method_24_code 154 = .ok (.isub, 1) := by decide +kernel
theorem d_MO_says_155 : decode prog_14_method_24_code 155 = .ok (.iaload, 1) := by decide +kernel
theorem d_MO_says_156 : decode prog_14_method_24_code 156 = .ok (.ineg, 1) := by decide +kernel
theorem d_MO_says_157 : decode prog_14_method_24_code 157 = .ok (.iastore, 1) := by decide +kernel
theorem d_MO_says_158 : decode prog_14_method_24_code 158 = .ok (.goto 33, 3) := by decide +kernel
theorem d_MO_says_161 : decode prog_14_method_24_code 161 = .ok (.iinc 2 (-1), 3) := by decide +kernel
theorem d_MO_says_164 : decode prog_14_method_24_code 164 = .ok (.aload_n 0, 1) := by decide +kernel
theorem d_MO_says_165 : decode prog_14_method_24_code 165 = .ok (.getfield 58, 3) := by decide +kernel
theorem d_MO_says_168 : decode prog_14_method_24_code 168 = .ok (.iload_n 2, 1) := by decide +kernel
theorem d_MO_says_169 : decode prog_14_method_24_code 169 = .ok (.iconst 1, 1) := by decide +kernel
theorem d_MO_says_170 : decode prog_14_method_24_code 170 = .ok (.isub, 1) := by decide +kernel
theorem d_MO_says_171 : decode prog_14_method_24_code 171 = .ok (.iload 4, 2) := by decide +kernel
theorem d_MO_says_173 : decode prog_14_method_24_code 173 = .ok (.aload_n 0, 1) := by decide +kernel
theorem d_MO_says_174 : decode prog_14_method_24_code 174 = .ok (.getfield 58, 3) := by decide +kernel
theorem d_MO_says_177 : decode prog_14_method_24_code 177 = .ok (.iload_n 2, 1) := by decide +kernel
theorem d_MO_says_178 : decode prog_14_method_24_code 178 = .ok (.iconst 1, 1) := by decide +kernel
theorem d_MO_says_179 : decode prog_14_method_24_code 179 = .ok (.isub, 1) := by decide +kernel
theorem d_MO_says_180 : decode prog_14_method_24_code 180 = .ok (.iaload, 1) := by decide +kernel
theorem d_MO_says_181 : decode prog_14_method_24_code 181 = .ok (.aload_n 0, 1) := by decide +kernel
theorem d_MO_says_182 : decode prog_14_method_24_code 182 = .ok (.getfield 58, 3) := by decide +kernel
theorem d_MO_says_185 : decode prog_14_method_24_code 185 = .ok (.iload_n 2, 1) := by decide +kernel
theorem d_MO_says_186 : decode prog_14_method_24_code 186 = .ok (.iaload, 1) := by decide +kernel
theorem d_MO_says_187 : decode prog_14_method_24_code 187 = .ok (.invokestatic 172, 3) := by decide +kernel
theorem d_MO_says_190 : decode prog_14_method_24_code 190 = .ok (.iastore, 1) := by decide +kernel
theorem d_MO_says_191 : decode prog_14_method_24_code 191 = .ok (.iinc 3 1, 3) := by decide +kernel
theorem d_MO_says_194 : decode prog_14_method_24_code 194 = .ok (.goto (-178), 3) := by decide +kernel
theorem d_MO_says_197 : decode prog_14_method_24_code 197 = .ok (.aload_n 0, 1) := by decide +kernel
theorem d_MO_says_198 : decode prog_14_method_24_code 198 = .ok (.getfield 58, 3) := by decide +kernel
theorem d_MO_says_201 : decode prog_14_method_24_code 201 = .ok (.iconst 0, 1) := by decide +kernel
theorem d_MO_says_202 : decode prog_14_method_24_code 202 = .ok (.iaload, 1) := by decide +kernel
theorem d_MO_says_203 : decode prog_14_method_24_code 203 = .ok (.ireturn, 1) := by decide +kernel
def p_MO_says_191 (Q : Int32 → AH → Prop) (K16 : Int32 → Int32 → Int32 → AH → Prop) (x1 : Int32) (x2 : Int32) (x3 : Int32) (h : AH) : Prop := K16 x1 x2 (x3 + 1) h
def p_MO_says_130 (Q : Int32 → AH → Prop) (K16 : Int32 → Int32 → Int32 → AH → Prop) (x1 : Int32) (x2 : Int32) (x3 : Int32) (s1 : Int32) (s2 : Int32) (h : AH) : Prop := inb s1 200 ∧ p_MO_says_191 Q  K16 x1 x2 x3 (wI h 76 s1 s2)
def p_MO_says_93 (Q : Int32 → AH → Prop) (K16 : Int32 → Int32 → Int32 → AH → Prop) (x1 : Int32) (x2 : Int32) (x3 : Int32) (s1 : Int32) (s2 : Int32) (h : AH) : Prop := inb s1 200 ∧ p_MO_says_191 Q  K16 x1 (x2 + 1) x3 (wI h 76 s1 s2)
def p_MO_says_66 (Q : Int32 → AH → Prop) (K16 : Int32 → Int32 → Int32 → AH → Prop) (x1 : Int32) (x2 : Int32) (x3 : Int32) (x4 : Int32) (h : AH) : Prop := ((11 ≤ x4 → p_MO_says_93 Q  K16 x1 x2 x3 x2 (x4 - 100000) h) ∧ (¬ 11 ≤ x4 → inb x4 6 ∧ p_MO_says_93 Q  K16 x1 x2 x3 x2 (h.1 77 x4) h))
def p_MO_says_16 (Q : Int32 → AH → Prop) : Nat → Int32 → Int32 → Int32 → AH → Prop
  | 0 => fun _ _ _ _ => False
  | n + 1 => fun x1 x2 x3 h => let K16 := p_MO_says_16 Q n; inb (((4 * (h.1 59 12)) + x1) + 1) 24 ∧ (((h.1 68 (((4 * (h.1 59 12)) + x1) + 1)) ≤ x3 → Q (h.1 76 0) h) ∧ (¬ (h.1 68 (((4 * (h.1 59 12)) + x1) + 1)) ≤ x3 → inb ((200 * (h.1 59 12)) + x3) 1200 ∧ ((100000 ≤ (h.1 67 ((200 * (h.1 59 12)) + x3)) → p_MO_says_66 Q  K16 x1 x2 x3 (h.1 67 ((200 * (h.1 59 12)) + x3)) h) ∧ (¬ 100000 ≤ (h.1 67 ((200 * (h.1 59 12)) + x3)) → ((11 ≤ (h.1 67 ((200 * (h.1 59 12)) + x3)) → ((¬ (h.1 67 ((200 * (h.1 59 12)) + x3)) = 13 → ((¬ (h.1 67 ((200 * (h.1 59 12)) + x3)) = 19 → inb ((x2 + (-1)) - 1) 200 ∧ inb (x2 + (-1)) 200 ∧ p_MO_two (fun r6 h5 => inb ((x2 + (-1)) - 1) 200 ∧ p_MO_says_191 Q  K16 x1 (x2 + (-1)) x3 (wI h5 76 ((x2 + (-1)) - 1) r6)) (h.1 67 ((200 * (h.1 59 12)) + x3)) (h.1 76 ((x2 + (-1)) - 1)) (h.1 76 (x2 + (-1))) h) ∧ ((h.1 67 ((200 * (h.1 59 12)) + x3)) = 19 → inb (x2 - 1) 200 ∧ p_MO_says_191 Q  K16 x1 x2 x3 (wI h 76 (x2 - 1) (-(h.1 76 (x2 - 1))))))) ∧ ((h.1 67 ((200 * (h.1 59 12)) + x3)) = 13 → inb (x2 - 1) 200 ∧ ((¬ (h.1 76 (x2 - 1)) = 0 → p_MO_says_130 Q  K16 x1 x2 x3 (x2 - 1) 0 h) ∧ ((h.1 76 (x2 - 1)) = 0 → p_MO_says_130 Q  K16 x1 x2 x3 (x2 - 1) 1 h))))) ∧ (¬ 11 ≤ (h.1 67 ((200 * (h.1 59 12)) + x3)) → p_MO_says_66 Q  K16 x1 x2 x3 (h.1 67 ((200 * (h.1 59 12)) + x3)) h))))))
def p_MO_says (Q : Int32 → AH → Prop) (x1 : Int32) (h : AH) : Prop := inb ((4 * (h.1 59 12)) + x1) 24 ∧ ∃ n, p_MO_says_16 Q   n x1 0 (h.1 68 ((4 * (h.1 59 12)) + x1)) h
set_option maxRecDepth 20000 in
theorem r_MO_says_191 {G : GG} {d : Nat} {Q : Int32 → AH → Prop} {K16 : Int32 → Int32 → Int32 → AH → Prop} (k16 : ∀ x1 x2 x3 h, K16 x1 x2 x3 h → Att G T1 m_MO_says (d + 1) 16 [some (.ref 59), some (.int x1), some (.int x2), some (.int x3), none] [] h 0 0 (iQ Q)) (x1 : Int32) (x2 : Int32) (x3 : Int32) (h : AH) (H : p_MO_says_191 Q K16 x1 x2 x3 h) : Att G T1 m_MO_says (d + 1) 191 [some (.ref 59), some (.int x1), some (.int x2), some (.int x3), none] [] h 0 0 (iQ Q) := by
  refine A_iinc 1 [some (.ref 59), some (.int x1), some (.int x2), some (.int (x3 + 1)), none] d_MO_says_191 rfl (by decide) (by decide) rfl rfl ?_
  refine A_goto 16 d_MO_says_194 (by decide) ?_
  exact k16 _ _ _ _ H
set_option maxRecDepth 20000 in
theorem r_MO_says_130 {G : GG} {d : Nat} {Q : Int32 → AH → Prop} {K16 : Int32 → Int32 → Int32 → AH → Prop} (k16 : ∀ x1 x2 x3 h, K16 x1 x2 x3 h → Att G T1 m_MO_says (d + 1) 16 [some (.ref 59), some (.int x1), some (.int x2), some (.int x3), none] [] h 0 0 (iQ Q)) (x1 : Int32) (x2 : Int32) (x3 : Int32) (s1 : Int32) (s2 : Int32) (h : AH) (H : p_MO_says_130 Q K16 x1 x2 x3 s1 s2 h) : Att G T1 m_MO_says (d + 1) 130 [some (.ref 59), some (.int x1), some (.int x2), some (.int x3), none] [.int s2, .int s1, .ref 76] h 0 0 (iQ Q) := by
  obtain ⟨c1, H⟩ := H
  refine A_iast (n := 200) d_MO_says_130 (vA_s (by decide)) rfl c1 ?_
  refine A_goto 191 d_MO_says_131 (by decide) ?_
  exact r_MO_says_191  k16 _ _ _ _ H
set_option maxRecDepth 20000 in
theorem r_MO_says_93 {G : GG} {d : Nat} {Q : Int32 → AH → Prop} {K16 : Int32 → Int32 → Int32 → AH → Prop} (k16 : ∀ x1 x2 x3 h, K16 x1 x2 x3 h → Att G T1 m_MO_says (d + 1) 16 [some (.ref 59), some (.int x1), some (.int x2), some (.int x3), none] [] h 0 0 (iQ Q)) (x1 : Int32) (x2 : Int32) (x3 : Int32) (s1 : Int32) (s2 : Int32) (h : AH) (H : p_MO_says_93 Q K16 x1 x2 x3 s1 s2 h) : Att G T1 m_MO_says (d + 1) 93 [some (.ref 59), some (.int x1), some (.int x2), some (.int x3), none] [.int s2, .int s1, .ref 76] h 0 0 (iQ Q) := by
  obtain ⟨c1, H⟩ := H
  refine A_iast (n := 200) d_MO_says_93 (vA_s (by decide)) rfl c1 ?_
  refine A_iinc 1 [some (.ref 59), some (.int x1), some (.int (x2 + 1)), some (.int x3), none] d_MO_says_94 rfl (by decide) (by decide) rfl rfl ?_
  refine A_goto 191 d_MO_says_97 (by decide) ?_
  exact r_MO_says_191  k16 _ _ _ _ H
set_option maxRecDepth 20000 in
theorem r_MO_says_66 {G : GG} {d : Nat} {Q : Int32 → AH → Prop} {K16 : Int32 → Int32 → Int32 → AH → Prop} (k16 : ∀ x1 x2 x3 h, K16 x1 x2 x3 h → Att G T1 m_MO_says (d + 1) 16 [some (.ref 59), some (.int x1), some (.int x2), some (.int x3), none] [] h 0 0 (iQ Q)) (x1 : Int32) (x2 : Int32) (x3 : Int32) (x4 : Int32) (h : AH) (H : p_MO_says_66 Q K16 x1 x2 x3 x4 h) : Att G T1 m_MO_says (d + 1) 66 [some (.ref 59), some (.int x1), some (.int x2), some (.int x3), some (.int x4)] [] h 0 0 (iQ Q) := by
  refine A_aload_n d_MO_says_66 rfl ?_
  refine A_get (v := .ref 76) d_MO_says_67 (fo_MO_58_12 rfl) (vA_s (by decide)) rfl (by first | rfl | (show Value.int _ = Value.int _; simp [wI, wL, wR, wC, up])) ?_
  refine A_iload_n d_MO_says_70 rfl ?_
  refine A_iload d_MO_says_71 rfl ?_
  refine A_bipush 11 (by decide) d_MO_says_73 ?_
  refine A_icmp_ge 88 d_MO_says_75 (by decide) (fun z => ?_) (fun z => ?_)
  · have H := H.1 z
    refine A_iload d_MO_says_88 rfl ?_
    refine A_ldc 100000 d_MO_says_90 (tG 855 (by decide +kernel) (by decide +kernel)) ?_
    refine A_isub d_MO_says_92 ?_
    refine A_sub (L' := [some (.ref 59), some (.int x1), some (.int x2), some (.int x3), none]) ⟨rfl, rfl, rfl, rfl, trivial⟩ ?_
    exact r_MO_says_93  k16 _ _ _ _ _ _ H
  · have H := H.2 z
    refine A_aload_n d_MO_says_78 rfl ?_
    refine A_get (v := .ref 77) d_MO_says_79 (fo_MO_61_12 rfl) (vA_s (by decide)) rfl (by first | rfl | (show Value.int _ = Value.int _; simp [wI, wL, wR, wC, up])) ?_
    refine A_iload d_MO_says_82 rfl ?_
    obtain ⟨c1, H⟩ := H
    refine A_ialdv (n := 6) (v := (h.1 77 x4)) d_MO_says_84 (vA_s (by decide)) rfl c1 rfl ?_
    refine A_goto 93 d_MO_says_85 (by decide) ?_
    refine A_sub (L' := [some (.ref 59), some (.int x1), some (.int x2), some (.int x3), none]) ⟨rfl, rfl, rfl, rfl, trivial⟩ ?_
    exact r_MO_says_93  k16 _ _ _ _ _ _ H
set_option maxRecDepth 20000 in
theorem r_MO_says_16 {G : GG} {d : Nat} {Q : Int32 → AH → Prop} : ∀ (n : Nat) (x1 : Int32) (x2 : Int32) (x3 : Int32) (h : AH), p_MO_says_16 Q n x1 x2 x3 h → Att G T1 m_MO_says (d + 1) 16 [some (.ref 59), some (.int x1), some (.int x2), some (.int x3), none] [] h 0 0 (iQ Q) := by
  intro n
  induction n with
  | zero => intro x1 x2 x3 h H; exact H.elim
  | succ n k16 =>
    intro x1 x2 x3 h H
    refine A_iload_n d_MO_says_16 rfl ?_
    refine A_aload_n d_MO_says_17 rfl ?_
    refine A_get (v := .ref 68) d_MO_says_18 (fo_MO_34_12 rfl) (vA_s (by decide)) rfl (by first | rfl | (show Value.int _ = Value.int _; simp [wI, wL, wR, wC, up])) ?_
    refine A_iconst 4 (by decide) d_MO_says_21 ?_
    refine A_aload_n d_MO_says_22 rfl ?_
    refine A_get (v := .int (h.1 59 12)) d_MO_says_23 (fo_MO_110_12 rfl) (vA_s (by decide)) rfl (by first | rfl | (show Value.int _ = Value.int _; simp [wI, wL, wR, wC, up])) ?_
    refine A_imul d_MO_says_26 ?_
    refine A_iload_n d_MO_says_27 rfl ?_
    refine A_iadd d_MO_says_28 ?_
    refine A_iconst 1 (by decide) d_MO_says_29 ?_
    refine A_iadd d_MO_says_30 ?_
    obtain ⟨c1, H⟩ := H
    refine A_ialdv (n := 24) (v := (h.1 68 (((4 * (h.1 59 12)) + x1) + 1))) d_MO_says_31 (vA_s (by decide)) rfl c1 rfl ?_
    refine A_icmp_ge 197 d_MO_says_32 (by decide) (fun z => ?_) (fun z => ?_)
    · have H := H.1 z
      refine A_aload_n d_MO_says_197 rfl ?_
      refine A_get (v := .ref 76) d_MO_says_198 (fo_MO_58_12 rfl) (vA_s (by decide)) rfl (by first | rfl | (show Value.int _ = Value.int _; simp [wI, wL, wR, wC, up])) ?_
      refine A_iconst 0 (by decide) d_MO_says_201 ?_
      refine A_ialdv (n := 200) (v := (h.1 76 0)) d_MO_says_202 (vA_s (by decide)) rfl (by decide) rfl ?_
      exact A_iret d_MO_says_203 rfl rfl H
    · have H := H.2 z
      refine A_aload_n d_MO_says_35 rfl ?_
      refine A_get (v := .ref 67) d_MO_says_36 (fo_MO_31_12 rfl) (vA_s (by decide)) rfl (by first | rfl | (show Value.int _ = Value.int _; simp [wI, wL, wR, wC, up])) ?_
      refine A_sipush 200 (by decide) d_MO_says_39 ?_
      refine A_aload_n d_MO_says_42 rfl ?_
      refine A_get (v := .int (h.1 59 12)) d_MO_says_43 (fo_MO_110_12 rfl) (vA_s (by decide)) rfl (by first | rfl | (show Value.int _ = Value.int _; simp [wI, wL, wR, wC, up])) ?_
      refine A_imul d_MO_says_46 ?_
      refine A_iload_n d_MO_says_47 rfl ?_
      refine A_iadd d_MO_says_48 ?_
      obtain ⟨c2, H⟩ := H
      refine A_ialdv (n := 1200) (v := (h.1 67 ((200 * (h.1 59 12)) + x3))) d_MO_says_49 (vA_s (by decide)) rfl c2 rfl ?_
      refine A_istore [some (.ref 59), some (.int x1), some (.int x2), some (.int x3), some (.int (h.1 67 ((200 * (h.1 59 12)) + x3)))] d_MO_says_50 (by decide) rfl rfl ?_
      refine A_iload d_MO_says_52 rfl ?_
      refine A_ldc 100000 d_MO_says_54 (tG 855 (by decide +kernel) (by decide +kernel)) ?_
      refine A_icmp_ge 66 d_MO_says_56 (by decide) (fun z => ?_) (fun z => ?_)
      · have H := H.1 z
        exact r_MO_says_66  k16 _ _ _ _ _ H
      · have H := H.2 z
        refine A_iload d_MO_says_59 rfl ?_
        refine A_bipush 11 (by decide) d_MO_says_61 ?_
        refine A_icmp_ge 100 d_MO_says_63 (by decide) (fun z => ?_) (fun z => ?_)
        · have H := H.1 z
          refine A_iload d_MO_says_100 rfl ?_
          refine A_bipush 13 (by decide) d_MO_says_102 ?_
          refine A_icmp_ne 134 d_MO_says_104 (by decide) (fun z => ?_) (fun z => ?_)
          · have H := H.1 z
            refine A_iload d_MO_says_134 rfl ?_
            refine A_bipush 19 (by decide) d_MO_says_136 ?_
            refine A_icmp_ne 161 d_MO_says_138 (by decide) (fun z => ?_) (fun z => ?_)
            · have H := H.1 z
              refine A_iinc (-1) [some (.ref 59), some (.int x1), some (.int (x2 + (-1))), some (.int x3), some (.int (h.1 67 ((200 * (h.1 59 12)) + x3)))] d_MO_says_161 rfl (by decide) (by decide) rfl rfl ?_
              refine A_aload_n d_MO_says_164 rfl ?_
              refine A_get (v := .ref 76) d_MO_says_165 (fo_MO_58_12 rfl) (vA_s (by decide)) rfl (by first | rfl | (show Value.int _ = Value.int _; simp [wI, wL, wR, wC, up])) ?_
              refine A_iload_n d_MO_says_168 rfl ?_
              refine A_iconst 1 (by decide) d_MO_says_169 ?_
              refine A_isub d_MO_says_170 ?_
              refine A_iload d_MO_says_171 rfl ?_
              refine A_aload_n d_MO_says_173 rfl ?_
              refine A_get (v := .ref 76) d_MO_says_174 (fo_MO_58_12 rfl) (vA_s (by decide)) rfl (by first | rfl | (show Value.int _ = Value.int _; simp [wI, wL, wR, wC, up])) ?_
              refine A_iload_n d_MO_says_177 rfl ?_
              refine A_iconst 1 (by decide) d_MO_says_178 ?_
              refine A_isub d_MO_says_179 ?_
              obtain ⟨c3, H⟩ := H
              refine A_ialdv (n := 200) (v := (h.1 76 ((x2 + (-1)) - 1))) d_MO_says_180 (vA_s (by decide)) rfl c3 rfl ?_
              refine A_aload_n d_MO_says_181 rfl ?_
              refine A_get (v := .ref 76) d_MO_says_182 (fo_MO_58_12 rfl) (vA_s (by decide)) rfl (by first | rfl | (show Value.int _ = Value.int _; simp [wI, wL, wR, wC, up])) ?_
              refine A_iload_n d_MO_says_185 rfl ?_
              obtain ⟨c4, H⟩ := H
              refine A_ialdv (n := 200) (v := (h.1 76 (x2 + (-1)))) d_MO_says_186 (vA_s (by decide)) rfl c4 rfl ?_
              refine A_cI [.int (h.1 67 ((200 * (h.1 59 12)) + x3)), .int (h.1 76 ((x2 + (-1)) - 1)), .int (h.1 76 (x2 + (-1)))] [.int ((x2 + (-1)) - 1), .ref 76] (ct_MO_172 rfl) d_MO_says_187 rfl rfl (by decide) (Nat.le_of_ble_eq_true rfl) trivial (ok_MO_two (d := d) H) (fun r6 h5 H => ?_)
              obtain ⟨c7, H⟩ := H
              refine A_iast (n := 200) d_MO_says_190 (vA_s (by decide)) rfl c7 ?_
              refine A_sub (L' := [some (.ref 59), some (.int x1), some (.int (x2 + (-1))), some (.int x3), none]) ⟨rfl, rfl, rfl, rfl, trivial⟩ ?_
              exact r_MO_says_191  k16 _ _ _ _ H
            · have H := H.2 z
              refine A_aload_n d_MO_says_141 rfl ?_
              refine A_get (v := .ref 76) d_MO_says_142 (fo_MO_58_12 rfl) (vA_s (by decide)) rfl (by first | rfl | (show Value.int _ = Value.int _; simp [wI, wL, wR, wC, up])) ?_
              refine A_iload_n d_MO_says_145 rfl ?_
              refine A_iconst 1 (by decide) d_MO_says_146 ?_
              refine A_isub d_MO_says_147 ?_
              refine A_aload_n d_MO_says_148 rfl ?_
              refine A_get (v := .ref 76) d_MO_says_149 (fo_MO_58_12 rfl) (vA_s (by decide)) rfl (by first | rfl | (show Value.int _ = Value.int _; simp [wI, wL, wR, wC, up])) ?_
              refine A_iload_n d_MO_says_152 rfl ?_
              refine A_iconst 1 (by decide) d_MO_says_153 ?_
              refine A_isub d_MO_says_154 ?_
              obtain ⟨c8, H⟩ := H
              refine A_ialdv (n := 200) (v := (h.1 76 (x2 - 1))) d_MO_says_155 (vA_s (by decide)) rfl c8 rfl ?_
              refine A_ineg d_MO_says_156 ?_
              refine A_iast (n := 200) d_MO_says_157 (vA_s (by decide)) rfl c8 ?_
              refine A_goto 191 d_MO_says_158 (by decide) ?_
              refine A_sub (L' := [some (.ref 59), some (.int x1), some (.int x2), some (.int x3), none]) ⟨rfl, rfl, rfl, rfl, trivial⟩ ?_
              exact r_MO_says_191  k16 _ _ _ _ H
          · have H := H.2 z
            refine A_aload_n d_MO_says_107 rfl ?_
            refine A_get (v := .ref 76) d_MO_says_108 (fo_MO_58_12 rfl) (vA_s (by decide)) rfl (by first | rfl | (show Value.int _ = Value.int _; simp [wI, wL, wR, wC, up])) ?_
            refine A_iload_n d_MO_says_111 rfl ?_
            refine A_iconst 1 (by decide) d_MO_says_112 ?_
            refine A_isub d_MO_says_113 ?_
            refine A_aload_n d_MO_says_114 rfl ?_
            refine A_get (v := .ref 76) d_MO_says_115 (fo_MO_58_12 rfl) (vA_s (by decide)) rfl (by first | rfl | (show Value.int _ = Value.int _; simp [wI, wL, wR, wC, up])) ?_
            refine A_iload_n d_MO_says_118 rfl ?_
            refine A_iconst 1 (by decide) d_MO_says_119 ?_
            refine A_isub d_MO_says_120 ?_
            obtain ⟨c9, H⟩ := H
            refine A_ialdv (n := 200) (v := (h.1 76 (x2 - 1))) d_MO_says_121 (vA_s (by decide)) rfl c9 rfl ?_
            refine A_if_ne 129 d_MO_says_122 (by decide) (fun z => ?_) (fun z => ?_)
            · have H := H.1 z
              refine A_iconst 0 (by decide) d_MO_says_129 ?_
              refine A_sub (L' := [some (.ref 59), some (.int x1), some (.int x2), some (.int x3), none]) ⟨rfl, rfl, rfl, rfl, trivial⟩ ?_
              exact r_MO_says_130  k16 _ _ _ _ _ _ H
            · have H := H.2 z
              refine A_iconst 1 (by decide) d_MO_says_125 ?_
              refine A_goto 130 d_MO_says_126 (by decide) ?_
              refine A_sub (L' := [some (.ref 59), some (.int x1), some (.int x2), some (.int x3), none]) ⟨rfl, rfl, rfl, rfl, trivial⟩ ?_
              exact r_MO_says_130  k16 _ _ _ _ _ _ H
        · have H := H.2 z
          exact r_MO_says_66  k16 _ _ _ _ _ H
set_option maxRecDepth 20000 in
theorem r_MO_says_0 {G : GG} {d : Nat} {Q : Int32 → AH → Prop} (x1 : Int32) (h : AH) (H : p_MO_says Q x1 h) : Att G T1 m_MO_says (d + 1) 0 [some (.ref 59), some (.int x1), none, none, none] [] h 0 0 (iQ Q) := by
  refine A_iconst 0 (by decide) d_MO_says_0 ?_
  refine A_istore_n [some (.ref 59), some (.int x1), some (.int 0), none, none] d_MO_says_1 (by decide) rfl rfl ?_
  refine A_aload_n d_MO_says_2 rfl ?_
  refine A_get (v := .ref 68) d_MO_says_3 (fo_MO_34_12 rfl) (vA_s (by decide)) rfl (by first | rfl | (show Value.int _ = Value.int _; simp [wI, wL, wR, wC, up])) ?_
  refine A_iconst 4 (by decide) d_MO_says_6 ?_
  refine A_aload_n d_MO_says_7 rfl ?_
  refine A_get (v := .int (h.1 59 12)) d_MO_says_8 (fo_MO_110_12 rfl) (vA_s (by decide)) rfl (by first | rfl | (show Value.int _ = Value.int _; simp [wI, wL, wR, wC, up])) ?_
  refine A_imul d_MO_says_11 ?_
  refine A_iload_n d_MO_says_12 rfl ?_
  refine A_iadd d_MO_says_13 ?_
  obtain ⟨c1, H⟩ := H
  refine A_ialdv (n := 24) (v := (h.1 68 ((4 * (h.1 59 12)) + x1))) d_MO_says_14 (vA_s (by decide)) rfl c1 rfl ?_
  refine A_istore_n [some (.ref 59), some (.int x1), some (.int 0), some (.int (h.1 68 ((4 * (h.1 59 12)) + x1))), none] d_MO_says_15 (by decide) rfl rfl ?_
  obtain ⟨n9, H⟩ := H
  exact r_MO_says_16   n9 _ _ _ _ H
set_option maxRecDepth 20000 in
theorem ok_MO_says {G : GG} {d : Nat} {Q : Int32 → AH → Prop} {x1 : Int32} {h : AH} (H : p_MO_says Q x1 h) : WP G T1 m_MO_says (d + 1) [.ref 59, .int x1] h 0 0 (iQ Q) := by
  exact WP.enter 3 (by decide) rfl rfl (r_MO_says_0 x1 h H)
theorem d_MO_house_0 : decode prog_14_method_29_code 0 = .ok (.iload_n 1, 1) := by decide +kernel
theorem d_MO_house_1 : decode prog_14_method_29_code 1 = .ok (.iconst 0, 1) := by decide +kernel
theorem d_MO_house_2 : decode prog_14_method_29_code 2 = .ok (.iconst 5, 1) := by decide +kernel
theorem d_MO_house_3 : decode prog_14_method_29_code 3 = .ok (.invokestatic 93, 3) := by decide +kernel
theorem d_MO_house_6 : decode prog_14_method_29_code 6 = .ok (.ifCond .eq 23, 3) := by decide +kernel
theorem d_MO_house_9 : decode prog_14_method_29_code 9 = .ok (.iload_n 2, 1) := by decide +kernel
theorem d_MO_house_10 : decode prog_14_method_29_code 10 = .ok (.iconst 0, 1) := by decide +kernel
theorem d_MO_house_11 : decode prog_14_method_29_code 11 = .ok (.bipush 99, 2) := by decide +kernel
theorem d_MO_house_13 : decode prog_14_method_29_code 13 = .ok (.invokestatic 93, 3) := by decide +kernel
theorem d_MO_house_16 : decode prog_14_method_29_code 16 = .ok (.ifCond .eq 13, 3) := by decide +kernel
theorem d_MO_house_19 : decode prog_14_method_29_code 19 = .ok (.iload_n 3, 1) := by decide +kernel
theorem d_MO_house_20 : decode prog_14_method_29_code 20 = .ok (.iconst 0, 1) := by decide +kernel
theorem d_MO_house_21 : decode prog_14_method_29_code 21 = .ok (.bipush 9, 2) := by decide +kernel
theorem d_MO_house_23 : decode prog_14_method_29_code 23 = .ok (.invokestatic 93, 3) := by decide +kernel
theorem d_MO_house_26 : decode prog_14_method_29_code 26 = .ok (.ifCond .ne 6, 3) := by decide +kernel
theorem d_MO_house_29 : decode prog_14_method_29_code 29 = .ok (.bipush (-2), 2) := by decide +kernel
theorem d_MO_house_31 : decode prog_14_method_29_code 31 = .ok (.ireturn, 1) := by decide +kernel
theorem d_MO_house_32 : decode prog_14_method_29_code 32 = .ok (.aload_n 0, 1) := by decide +kernel
theorem d_MO_house_33 : decode prog_14_method_29_code 33 = .ok (.getfield 90, 3) := by decide +kernel
theorem d_MO_house_36 : decode prog_14_method_29_code 36 = .ok (.bipush 7, 2) := by decide +kernel
theorem d_MO_house_38 : decode prog_14_method_29_code 38 = .ok (.if_icmp .ne 6, 3) := by decide +kernel
theorem d_MO_house_41 : decode prog_14_method_29_code 41 = .ok (.bipush (-4), 2) := by decide +kernel
theorem d_MO_house_43 : decode prog_14_method_29_code 43 = .ok (.ireturn, 1) := by decide +kernel
theorem d_MO_house_44 : decode prog_14_method_29_code 44 = .ok (.aload_n 0, 1) := by decide +kernel
theorem d_MO_house_45 : decode prog_14_method_29_code 45 = .ok (.getfield 7, 3) := by decide +kernel
theorem d_MO_house_48 : decode prog_14_method_29_code 48 = .ok (.aload_n 0, 1) := by decide +kernel
theorem d_MO_house_49 : decode prog_14_method_29_code 49 = .ok (.getfield 90, 3) := by decide +kernel
theorem d_MO_house_52 : decode prog_14_method_29_code 52 = .ok (.iload_n 1, 1) := by decide +kernel
theorem d_MO_house_53 : decode prog_14_method_29_code 53 = .ok (.iastore, 1) := by decide +kernel
theorem d_MO_house_54 : decode prog_14_method_29_code 54 = .ok (.aload_n 0, 1) := by decide +kernel
theorem d_MO_house_55 : decode prog_14_method_29_code 55 = .ok (.getfield 13, 3) := by decide +kernel
theorem d_MO_house_58 : decode prog_14_method_29_code 58 = .ok (.aload_n 0, 1) := by decide +kernel
theorem d_MO_house_59 : decode prog_14_method_29_code 59 = .ok (.getfield 90, 3) := by decide +kernel
theorem d_MO_house_62 : decode prog_14_method_29_code 62 = .ok (.iload_n 2, 1) := by decide +kernel
theorem d_MO_house_63 : decode prog_14_method_29_code 63 = .ok (.iastore, 1) := by decide +kernel
theorem d_MO_house_64 : decode prog_14_method_29_code 64 = .ok (.aload_n 0, 1) := by decide +kernel
theorem d_MO_house_65 : decode prog_14_method_29_code 65 = .ok (.getfield 16, 3) := by decide +kernel
theorem d_MO_house_68 : decode prog_14_method_29_code 68 = .ok (.aload_n 0, 1) := by decide +kernel
theorem d_MO_house_69 : decode prog_14_method_29_code 69 = .ok (.getfield 90, 3) := by decide +kernel
theorem d_MO_house_72 : decode prog_14_method_29_code 72 = .ok (.iload_n 3, 1) := by decide +kernel
theorem d_MO_house_73 : decode prog_14_method_29_code 73 = .ok (.iastore, 1) := by decide +kernel
theorem d_MO_house_74 : decode prog_14_method_29_code 74 = .ok (.aload_n 0, 1) := by decide +kernel
theorem d_MO_house_75 : decode prog_14_method_29_code 75 = .ok (.getfield 19, 3) := by decide +kernel
theorem d_MO_house_78 : decode prog_14_method_29_code 78 = .ok (.aload_n 0, 1) := by decide +kernel
theorem d_MO_house_79 : decode prog_14_method_29_code 79 = .ok (.getfield 90, 3) := by decide +kernel
theorem d_MO_house_82 : decode prog_14_method_29_code 82 = .ok (.bipush 9, 2) := by decide +kernel
theorem d_MO_house_84 : decode prog_14_method_29_code 84 = .ok (.iastore, 1) := by decide +kernel
theorem d_MO_house_85 : decode prog_14_method_29_code 85 = .ok (.aload_n 0, 1) := by decide +kernel
theorem d_MO_house_86 : decode prog_14_method_29_code 86 = .ok (.getfield 22, 3) := by decide +kernel
theorem d_MO_house_89 : decode prog_14_method_29_code 89 = .ok (.aload_n 0, 1) := by decide +kernel
theorem d_MO_house_90 : decode prog_14_method_29_code 90 = .ok (.getfield 90, 3) := by decide +kernel
theorem d_MO_house_93 : decode prog_14_method_29_code 93 = .ok (.iconst 0, 1) := by decide +kernel
theorem d_MO_house_94 : decode prog_14_method_29_code 94 = .ok (.iastore, 1) := by decide +kernel
theorem d_MO_house_95 : decode prog_14_method_29_code 95 = .ok (.aload_n 0, 1) := by decide +kernel
theorem d_MO_house_96 : decode prog_14_method_29_code 96 = .ok (.getfield 25, 3) := by decide +kernel
theorem d_MO_house_99 : decode prog_14_method_29_code 99 = .ok (.aload_n 0, 1) := by decide +kernel
theorem d_MO_house_100 : decode prog_14_method_29_code 100 = .ok (.getfield 90, 3) := by decide +kernel
theorem d_MO_house_103 : decode prog_14_method_29_code 103 = .ok (.iconst (-1), 1) := by decide +kernel
theorem d_MO_house_104 : decode prog_14_method_29_code 104 = .ok (.iastore, 1) := by decide +kernel
theorem d_MO_house_105 : decode prog_14_method_29_code 105 = .ok (.aload_n 0, 1) := by decide +kernel
theorem d_MO_house_106 : decode prog_14_method_29_code 106 = .ok (.dup, 1) := by decide +kernel
theorem d_MO_house_107 : decode prog_14_method_29_code 107 = .ok (.getfield 90, 3) := by decide +kernel
theorem d_MO_house_110 : decode prog_14_method_29_code 110 = .ok (.iconst 1, 1) := by decide +kernel
theorem d_MO_house_111 : decode prog_14_method_29_code 111 = .ok (.iadd, 1) := by decide +kernel
theorem d_MO_house_112 : decode prog_14_method_29_code 112 = .ok (.putfield 90, 3) := by decide +kernel
theorem d_MO_house_115 : decode prog_14_method_29_code 115 = .ok (.aload_n 0, 1) := by decide +kernel
theorem d_MO_house_116 : decode prog_14_method_29_code 116 = .ok (.getfield 90, 3) := by decide +kernel
theorem d_MO_house_119 : decode prog_14_method_29_code 119 = .ok (.iconst 1, 1) := by decide +kernel
theorem d_MO_house_120 : decode prog_14_method_29_code 120 = .ok (.isub, 1) := by decide +kernel
theorem d_MO_house_121 : decode prog_14_method_29_code 121 = .ok (.ireturn, 1) := by decide +kernel
def p_MO_house (Q : Int32 → AH → Prop) (x1 : Int32) (x2 : Int32) (x3 : Int32) (h : AH) : Prop := p_MO_in (fun r2 h1 => ((r2 = 0 → Q (-2) h1) ∧ (¬ r2 = 0 → p_MO_in (fun r4 h3 => ((r4 = 0 → Q (-2) h3) ∧ (¬ r4 = 0 → p_MO_in (fun r6 h5 => ((¬ r6 = 0 → ((¬ (h5.1 59 0) = 7 → inb (h5.1 59 0) 7 ∧ Q (((h5.1 59 0) + 1) - 1) (wI (wI (wI (wI (wI (wI (wI h5 60 (h5.1 59 0) x1) 61 (h5.1 59 0) x2) 62 (h5.1 59 0) x3) 63 (h5.1 59 0) 9) 64 (h5.1 59 0) 0) 65 (h5.1 59 0) (-1)) 59 0 ((h5.1 59 0) + 1))) ∧ ((h5.1 59 0) = 7 → Q (-4) h5))) ∧ (r6 = 0 → Q (-2) h5))) x3 0 9 h3))) x2 0 99 h1))) x1 0 5 h
set_option maxRecDepth 20000 in
theorem r_MO_house_0 {G : GG} {d : Nat} {Q : Int32 → AH → Prop} (x1 : Int32) (x2 : Int32) (x3 : Int32) (h : AH) (H : p_MO_house Q x1 x2 x3 h) : Att G T1 m_MO_house (d + 1) 0 [some (.ref 59), some (.int x1), some (.int x2), some (.int x3)] [] h 0 0 (iQ Q) := by
  refine A_iload_n d_MO_house_0 rfl ?_
  refine A_iconst 0 (by decide) d_MO_house_1 ?_
  refine A_iconst 5 (by decide) d_MO_house_2 ?_
  refine A_cI [.int x1, .int 0, .int 5] [] (ct_MO_93 rfl) d_MO_house_3 rfl rfl (by decide) (Nat.le_of_ble_eq_true rfl) trivial (ok_MO_in (d := d) H) (fun r2 h1 H => ?_)
  refine A_if_eq 29 d_MO_house_6 (by decide) (fun z => ?_) (fun z => ?_)
  · have H := H.1 z
    refine A_bipush (-2) (by decide) d_MO_house_29 ?_
    exact A_iret d_MO_house_31 rfl rfl H
  · have H := H.2 z
    refine A_iload_n d_MO_house_9 rfl ?_
    refine A_iconst 0 (by decide) d_MO_house_10 ?_
    refine A_bipush 99 (by decide) d_MO_house_11 ?_
    refine A_cI [.int x2, .int 0, .int 99] [] (ct_MO_93 rfl) d_MO_house_13 rfl rfl (by decide) (Nat.le_of_ble_eq_true rfl) trivial (ok_MO_in (d := d) H) (fun r4 h3 H => ?_)
    refine A_if_eq 29 d_MO_house_16 (by decide) (fun z => ?_) (fun z => ?_)
    · have H := H.1 z
      refine A_bipush (-2) (by decide) d_MO_house_29 ?_
      exact A_iret d_MO_house_31 rfl rfl H
    · have H := H.2 z
      refine A_iload_n d_MO_house_19 rfl ?_
      refine A_iconst 0 (by decide) d_MO_house_20 ?_
      refine A_bipush 9 (by decide) d_MO_house_21 ?_
      refine A_cI [.int x3, .int 0, .int 9] [] (ct_MO_93 rfl) d_MO_house_23 rfl rfl (by decide) (Nat.le_of_ble_eq_true rfl) trivial (ok_MO_in (d := d) H) (fun r6 h5 H => ?_)
      refine A_if_ne 32 d_MO_house_26 (by decide) (fun z => ?_) (fun z => ?_)
      · have H := H.1 z
        refine A_aload_n d_MO_house_32 rfl ?_
        refine A_get (v := .int (h5.1 59 0)) d_MO_house_33 (fo_MO_90_12 rfl) (vA_s (by decide)) rfl (by first | rfl | (show Value.int _ = Value.int _; simp [wI, wL, wR, wC, up])) ?_
        refine A_bipush 7 (by decide) d_MO_house_36 ?_
        refine A_icmp_ne 44 d_MO_house_38 (by decide) (fun z => ?_) (fun z => ?_)
        · have H := H.1 z
          refine A_aload_n d_MO_house_44 rfl ?_
          refine A_get (v := .ref 60) d_MO_house_45 (fo_MO_7_12 rfl) (vA_s (by decide)) rfl (by first | rfl | (show Value.int _ = Value.int _; simp [wI, wL, wR, wC, up])) ?_
          refine A_aload_n d_MO_house_48 rfl ?_
          refine A_get (v := .int (h5.1 59 0)) d_MO_house_49 (fo_MO_90_12 rfl) (vA_s (by decide)) rfl (by first | rfl | (show Value.int _ = Value.int _; simp [wI, wL, wR, wC, up])) ?_
          refine A_iload_n d_MO_house_52 rfl ?_
          obtain ⟨c7, H⟩ := H
          refine A_iast (n := 7) d_MO_house_53 (vA_s (by decide)) rfl c7 ?_
          refine A_aload_n d_MO_house_54 rfl ?_
          refine A_get (v := .ref 61) d_MO_house_55 (fo_MO_13_12 rfl) (vA_s (by decide)) rfl (by first | rfl | (show Value.int _ = Value.int _; simp [wI, wL, wR, wC, up])) ?_
          refine A_aload_n d_MO_house_58 rfl ?_
          refine A_get (v := .int (h5.1 59 0)) d_MO_house_59 (fo_MO_90_12 rfl) (vA_s (by decide)) rfl (by first | rfl | (show Value.int _ = Value.int _; simp [wI, wL, wR, wC, up])) ?_
          refine A_iload_n d_MO_house_62 rfl ?_
          refine A_iast (n := 7) d_MO_house_63 (vA_s (by decide)) rfl c7 ?_
          refine A_aload_n d_MO_house_64 rfl ?_
          refine A_get (v := .ref 62) d_MO_house_65 (fo_MO_16_12 rfl) (vA_s (by decide)) rfl (by first | rfl | (show Value.int _ = Value.int _; simp [wI, wL, wR, wC, up])) ?_
          refine A_aload_n d_MO_house_68 rfl ?_
          refine A_get (v := .int (h5.1 59 0)) d_MO_house_69 (fo_MO_90_12 rfl) (vA_s (by decide)) rfl (by first | rfl | (show Value.int _ = Value.int _; simp [wI, wL, wR, wC, up])) ?_
          refine A_iload_n d_MO_house_72 rfl ?_
          refine A_iast (n := 7) d_MO_house_73 (vA_s (by decide)) rfl c7 ?_
          refine A_aload_n d_MO_house_74 rfl ?_
          refine A_get (v := .ref 63) d_MO_house_75 (fo_MO_19_12 rfl) (vA_s (by decide)) rfl (by first | rfl | (show Value.int _ = Value.int _; simp [wI, wL, wR, wC, up])) ?_
          refine A_aload_n d_MO_house_78 rfl ?_
          refine A_get (v := .int (h5.1 59 0)) d_MO_house_79 (fo_MO_90_12 rfl) (vA_s (by decide)) rfl (by first | rfl | (show Value.int _ = Value.int _; simp [wI, wL, wR, wC, up])) ?_
          refine A_bipush 9 (by decide) d_MO_house_82 ?_
          refine A_iast (n := 7) d_MO_house_84 (vA_s (by decide)) rfl c7 ?_
          refine A_aload_n d_MO_house_85 rfl ?_
          refine A_get (v := .ref 64) d_MO_house_86 (fo_MO_22_12 rfl) (vA_s (by decide)) rfl (by first | rfl | (show Value.int _ = Value.int _; simp [wI, wL, wR, wC, up])) ?_
          refine A_aload_n d_MO_house_89 rfl ?_
          refine A_get (v := .int (h5.1 59 0)) d_MO_house_90 (fo_MO_90_12 rfl) (vA_s (by decide)) rfl (by first | rfl | (show Value.int _ = Value.int _; simp [wI, wL, wR, wC, up])) ?_
          refine A_iconst 0 (by decide) d_MO_house_93 ?_
          refine A_iast (n := 7) d_MO_house_94 (vA_s (by decide)) rfl c7 ?_
          refine A_aload_n d_MO_house_95 rfl ?_
          refine A_get (v := .ref 65) d_MO_house_96 (fo_MO_25_12 rfl) (vA_s (by decide)) rfl (by first | rfl | (show Value.int _ = Value.int _; simp [wI, wL, wR, wC, up])) ?_
          refine A_aload_n d_MO_house_99 rfl ?_
          refine A_get (v := .int (h5.1 59 0)) d_MO_house_100 (fo_MO_90_12 rfl) (vA_s (by decide)) rfl (by first | rfl | (show Value.int _ = Value.int _; simp [wI, wL, wR, wC, up])) ?_
          refine A_iconst (-1) (by decide) d_MO_house_103 ?_
          refine A_iast (n := 7) d_MO_house_104 (vA_s (by decide)) rfl c7 ?_
          refine A_aload_n d_MO_house_105 rfl ?_
          refine A_dup rfl d_MO_house_106 ?_
          refine A_get (v := .int (h5.1 59 0)) d_MO_house_107 (fo_MO_90_12 rfl) (vA_s (by decide)) rfl (by first | rfl | (show Value.int _ = Value.int _; simp [wI, wL, wR, wC, up])) ?_
          refine A_iconst 1 (by decide) d_MO_house_110 ?_
          refine A_iadd d_MO_house_111 ?_
          refine A_putI (k := 0) d_MO_house_112 (fo_MO_90_12 rfl) (Or.inr ⟨rfl, _, ft_12_0⟩) (fun z => by cases z) rfl (vA_s (by decide)) rfl rfl rfl ?_
          refine A_aload_n d_MO_house_115 rfl ?_
          refine A_get (v := .int ((h5.1 59 0) + 1)) d_MO_house_116 (fo_MO_90_12 rfl) (vA_s (by decide)) rfl (by first | rfl | (show Value.int _ = Value.int _; simp [wI, wL, wR, wC, up])) ?_
          refine A_iconst 1 (by decide) d_MO_house_119 ?_
          refine A_isub d_MO_house_120 ?_
          exact A_iret d_MO_house_121 rfl rfl H
        · have H := H.2 z
          refine A_bipush (-4) (by decide) d_MO_house_41 ?_
          exact A_iret d_MO_house_43 rfl rfl H
      · have H := H.2 z
        refine A_bipush (-2) (by decide) d_MO_house_29 ?_
        exact A_iret d_MO_house_31 rfl rfl H
set_option maxRecDepth 20000 in
theorem ok_MO_house {G : GG} {d : Nat} {Q : Int32 → AH → Prop} {x1 : Int32} {x2 : Int32} {x3 : Int32} {h : AH} (H : p_MO_house Q x1 x2 x3 h) : WP G T1 m_MO_house (d + 1) [.ref 59, .int x1, .int x2, .int x3] h 0 0 (iQ Q) := by
  exact WP.enter 0 (by decide) rfl rfl (r_MO_house_0 x1 x2 x3 h H)
theorem d_MO_links_0 : decode prog_14_method_32_code 0 = .ok (.aload_n 0, 1) := by decide +kernel
theorem d_MO_links_1 : decode prog_14_method_32_code 1 = .ok (.iload_n 1, 1) := by decide +kernel
theorem d_MO_links_2 : decode prog_14_method_32_code 2 = .ok (.invokevirtual 192, 3) := by decide +kernel
theorem d_MO_links_5 : decode prog_14_method_32_code 5 = .ok (.aload_n 0, 1) := by decide +kernel
theorem d_MO_links_6 : decode prog_14_method_32_code 6 = .ok (.iload_n 2, 1) := by decide +kernel
theorem d_MO_links_7 : decode prog_14_method_32_code 7 = .ok (.invokevirtual 192, 3) := by decide +kernel
theorem d_MO_links_10 : decode prog_14_method_32_code 10 = .ok (.iload_n 1, 1) := by decide +kernel
theorem d_MO_links_11 : decode prog_14_method_32_code 11 = .ok (.iload_n 2, 1) := by decide +kernel
theorem d_MO_links_12 : decode prog_14_method_32_code 12 = .ok (.if_icmp .eq 17, 3) := by decide +kernel
theorem d_MO_links_15 : decode prog_14_method_32_code 15 = .ok (.aload_n 0, 1) := by decide +kernel
theorem d_MO_links_16 : decode prog_14_method_32_code 16 = .ok (.getfield 25, 3) := by decide +kernel
theorem d_MO_links_19 : decode prog_14_method_32_code 19 = .ok (.iload_n 1, 1) := by decide +kernel
theorem d_MO_links_20 : decode prog_14_method_32_code 20 = .ok (.iload_n 2, 1) := by decide +kernel
theorem d_MO_links_21 : decode prog_14_method_32_code 21 = .ok (.iastore, 1) := by decide +kernel
theorem d_MO_links_22 : decode prog_14_method_32_code 22 = .ok (.aload_n 0, 1) := by decide +kernel
theorem d_MO_links_23 : decode prog_14_method_32_code 23 = .ok (.getfield 25, 3) := by decide +kernel
theorem d_MO_links_26 : decode prog_14_method_32_code 26 = .ok (.iload_n 2, 1) := by decide +kernel
theorem d_MO_links_27 : decode prog_14_method_32_code 27 = .ok (.iload_n 1, 1) := by decide +kernel
theorem d_MO_links_28 : decode prog_14_method_32_code 28 = .ok (.iastore, 1) := by decide +kernel
theorem d_MO_links_29 : decode prog_14_method_32_code 29 = .ok (.return_, 1) := by decide +kernel
def p_MO_links (Q : AH → Prop) (x1 : Int32) (x2 : Int32) (h : AH) : Prop := p_MO_comesFree (fun h1 => p_MO_comesFree (fun h2 => ((x1 = x2 → Q h2) ∧ (¬ x1 = x2 → inb x1 7 ∧ inb x2 7 ∧ Q (wI (wI h2 65 x1 x2) 65 x2 x1)))) x2 h1) x1 h
set_option maxRecDepth 20000 in
theorem r_MO_links_0 {G : GG} {d : Nat} {Q : AH → Prop} (x1 : Int32) (x2 : Int32) (h : AH) (H : p_MO_links Q x1 x2 h) : Att G T1 m_MO_links (d + 1) 0 [some (.ref 59), some (.int x1), some (.int x2)] [] h 0 0 (vQ Q) := by
  refine A_aload_n d_MO_links_0 rfl ?_
  refine A_iload_n d_MO_links_1 rfl ?_
  refine A_cV [.ref 59, .int x1] [] (ct_MO_192 rfl) d_MO_links_2 rfl rfl (by decide) (Nat.le_of_ble_eq_true rfl) (rcA_o (c := 12) rfl (vA_s (by decide)) rfl (by decide) rfl) (ok_MO_comesFree (d := d) H) (fun h1 H => ?_)
  refine A_aload_n d_MO_links_5 rfl ?_
  refine A_iload_n d_MO_links_6 rfl ?_
  refine A_cV [.ref 59, .int x2] [] (ct_MO_192 rfl) d_MO_links_7 rfl rfl (by decide) (Nat.le_of_ble_eq_true rfl) (rcA_o (c := 12) rfl (vA_s (by decide)) rfl (by decide) rfl) (ok_MO_comesFree (d := d) H) (fun h2 H => ?_)
  refine A_iload_n d_MO_links_10 rfl ?_
  refine A_iload_n d_MO_links_11 rfl ?_
  refine A_icmp_eq 29 d_MO_links_12 (by decide) (fun z => ?_) (fun z => ?_)
  · have H := H.1 z
    exact A_ret d_MO_links_29 rfl H
  · have H := H.2 z
    refine A_aload_n d_MO_links_15 rfl ?_
    refine A_get (v := .ref 65) d_MO_links_16 (fo_MO_25_12 rfl) (vA_s (by decide)) rfl (by first | rfl | (show Value.int _ = Value.int _; simp [wI, wL, wR, wC, up])) ?_
    refine A_iload_n d_MO_links_19 rfl ?_
    refine A_iload_n d_MO_links_20 rfl ?_
    obtain ⟨c3, H⟩ := H
    refine A_iast (n := 7) d_MO_links_21 (vA_s (by decide)) rfl c3 ?_
    refine A_aload_n d_MO_links_22 rfl ?_
    refine A_get (v := .ref 65) d_MO_links_23 (fo_MO_25_12 rfl) (vA_s (by decide)) rfl (by first | rfl | (show Value.int _ = Value.int _; simp [wI, wL, wR, wC, up])) ?_
    refine A_iload_n d_MO_links_26 rfl ?_
    refine A_iload_n d_MO_links_27 rfl ?_
    obtain ⟨c4, H⟩ := H
    refine A_iast (n := 7) d_MO_links_28 (vA_s (by decide)) rfl c4 ?_
    exact A_ret d_MO_links_29 rfl H
set_option maxRecDepth 20000 in
theorem ok_MO_links {G : GG} {d : Nat} {Q : AH → Prop} {x1 : Int32} {x2 : Int32} {h : AH} (H : p_MO_links Q x1 x2 h) : WP G T1 m_MO_links (d + 1) [.ref 59, .int x1, .int x2] h 0 0 (vQ Q) := by
  exact WP.enter 0 (by decide) rfl rfl (r_MO_links_0 x1 x2 h H)
theorem d_MO_dawn_0 : decode prog_14_method_62_code 0 = .ok (.iload_n 1, 1) := by decide +kernel
theorem d_MO_dawn_1 : decode prog_14_method_62_code 1 = .ok (.iconst 0, 1) := by decide +kernel
theorem d_MO_dawn_2 : decode prog_14_method_62_code 2 = .ok (.bipush 9, 2) := by decide +kernel
theorem d_MO_dawn_4 : decode prog_14_method_62_code 4 = .ok (.invokestatic 93, 3) := by decide +kernel
theorem d_MO_dawn_7 : decode prog_14_method_62_code 7 = .ok (.ifCond .ne 6, 3) := by decide +kernel
theorem d_MO_dawn_10 : decode prog_14_method_62_code 10 = .ok (.bipush (-2), 2) := by decide +kernel
theorem d_MO_dawn_12 : decode prog_14_method_62_code 12 = .ok (.ireturn, 1) := by decide +kernel
theorem d_MO_dawn_13 : decode prog_14_method_62_code 13 = .ok (.iconst 0, 1) := by decide +kernel
theorem d_MO_dawn_14 : decode prog_14_method_62_code 14 = .ok (.istore_n 2, 1) := by decide +kernel
theorem d_MO_dawn_15 : decode prog_14_method_62_code 15 = .ok (.iconst 0, 1) := by decide +kernel
theorem d_MO_dawn_16 : decode prog_14_method_62_code 16 = .ok (.istore_n 3, 1) := by decide +kernel
theorem d_MO_dawn_17 : decode prog_14_method_62_code 17 = .ok (.iload_n 3, 1) := by decide +kernel
theorem d_MO_dawn_18 : decode prog_14_method_62_code 18 = .ok (.aload_n 0, 1) := by decide +kernel
theorem d_MO_dawn_19 : decode prog_14_method_62_code 19 = .ok (.getfield 90, 3) := by decide +kernel
theorem d_MO_dawn_22 : decode prog_14_method_62_code 22 = .ok (.if_icmp .ge 45, 3) := by decide +kernel
theorem d_MO_dawn_25 : decode prog_14_method_62_code 25 = .ok (.aload_n 0, 1) := by decide +kernel
theorem d_MO_dawn_26 : decode prog_14_method_62_code 26 = .ok (.getfield 19, 3) := by decide +kernel
theorem d_MO_dawn_29 : decode prog_14_method_62_code 29 = .ok (.iload_n 3, 1) := by decide +kernel
theorem d_MO_dawn_30 : decode prog_14_method_62_code 30 = .ok (.iaload, 1) := by decide +kernel
theorem d_MO_dawn_31 : decode prog_14_method_62_code 31 = .ok (.iload_n 1, 1) := by decide +kernel
theorem d_MO_dawn_32 : decode prog_14_method_62_code 32 = .ok (.iadd, 1) := by decide +kernel
theorem d_MO_dawn_33 : decode prog_14_method_62_code 33 = .ok (.iconst 0, 1) := by decide +kernel
theorem d_MO_dawn_34 : decode prog_14_method_62_code 34 = .ok (.bipush 9, 2) := by decide +kernel
theorem d_MO_dawn_36 : decode prog_14_method_62_code 36 = .ok (.invokestatic 179, 3) := by decide +kernel
theorem d_MO_dawn_39 : decode prog_14_method_62_code 39 = .ok (.istore 4, 2) := by decide +kernel
theorem d_MO_dawn_41 : decode prog_14_method_62_code 41 = .ok (.iload_n 2, 1) := by decide +kernel
theorem d_MO_dawn_42 : decode prog_14_method_62_code 42 = .ok (.iload 4, 2) := by decide +kernel
theorem d_MO_dawn_44 : decode prog_14_method_62_code 44 = .ok (.aload_n 0, 1) := by decide +kernel
theorem d_MO_dawn_45 : decode prog_14_method_62_code 45 = .ok (.getfield 19, 3) := by decide +kernel
theorem d_MO_dawn_48 : decode prog_14_method_62_code 48 = .ok (.iload_n 3, 1) := by decide +kernel
theorem d_MO_dawn_49 : decode prog_14_method_62_code 49 = .ok (.iaload, 1) := by decide +kernel
theorem d_MO_dawn_50 : decode prog_14_method_62_code 50 = .ok (.isub, 1) := by decide +kernel
theorem d_MO_dawn_51 : decode prog_14_method_62_code 51 = .ok (.iadd, 1) := by decide +kernel
theorem d_MO_dawn_52 : decode prog_14_method_62_code 52 = .ok (.istore_n 2, 1) := by decide +kernel
theorem d_MO_dawn_53 : decode prog_14_method_62_code 53 = .ok (.aload_n 0, 1) := by decide +kernel
theorem d_MO_dawn_54 : decode prog_14_method_62_code 54 = .ok (.getfield 19, 3) := by decide +kernel
theorem d_MO_dawn_57 : decode prog_14_method_62_code 57 = .ok (.iload_n 3, 1) := by decide +kernel
theorem d_MO_dawn_58 : decode prog_14_method_62_code 58 = .ok (.iload 4, 2) := by decide +kernel
theorem d_MO_dawn_60 : decode prog_14_method_62_code 60 = .ok (.iastore, 1) := by decide +kernel
theorem d_MO_dawn_61 : decode prog_14_method_62_code 61 = .ok (.iinc 3 1, 3) := by decide +kernel
theorem d_MO_dawn_64 : decode prog_14_method_62_code 64 = .ok (.goto (-47), 3) := by decide +kernel
theorem d_MO_dawn_67 : decode prog_14_method_62_code 67 = .ok (.iload_n 2, 1) := by decide +kernel
theorem d_MO_dawn_68 : decode prog_14_method_62_code 68 = .ok (.ireturn, 1) := by decide +kernel
def p_MO_dawn_17 (Q : Int32 → AH → Prop) : Nat → Int32 → Int32 → Int32 → AH → Prop
  | 0 => fun _ _ _ _ => False
  | n + 1 => fun x1 x2 x3 h => let K17 := p_MO_dawn_17 Q n; (((h.1 59 0) ≤ x3 → Q x2 h) ∧ (¬ (h.1 59 0) ≤ x3 → inb x3 7 ∧ p_MO_within (fun r3 h2 => inb x3 7 ∧ K17 x1 (x2 + (r3 - (h2.1 63 x3))) (x3 + 1) (wI h2 63 x3 r3)) ((h.1 63 x3) + x1) 0 9 h))
def p_MO_dawn (Q : Int32 → AH → Prop) (x1 : Int32) (h : AH) : Prop := p_MO_in (fun r2 h1 => ((¬ r2 = 0 → ∃ n, p_MO_dawn_17 Q   n x1 0 0 h1) ∧ (r2 = 0 → Q (-2) h1))) x1 0 9 h
set_option maxRecDepth 20000 in
theorem r_MO_dawn_17 {G : GG} {d : Nat} {Q : Int32 → AH → Prop} : ∀ (n : Nat) (x1 : Int32) (x2 : Int32) (x3 : Int32) (h : AH), p_MO_dawn_17 Q n x1 x2 x3 h → Att G T1 m_MO_dawn (d + 1) 17 [some (.ref 59), some (.int x1), some (.int x2), some (.int x3), none] [] h 0 0 (iQ Q) := by
  intro n
  induction n with
  | zero => intro x1 x2 x3 h H; exact H.elim
  | succ n k17 =>
    intro x1 x2 x3 h H
    refine A_iload_n d_MO_dawn_17 rfl ?_
    refine A_aload_n d_MO_dawn_18 rfl ?_
    refine A_get (v := .int (h.1 59 0)) d_MO_dawn_19 (fo_MO_90_12 rfl) (vA_s (by decide)) rfl (by first | rfl | (show Value.int _ = Value.int _; simp [wI, wL, wR, wC, up])) ?_
    refine A_icmp_ge 67 d_MO_dawn_22 (by decide) (fun z => ?_) (fun z => ?_)
    · have H := H.1 z
      refine A_iload_n d_MO_dawn_67 rfl ?_
      exact A_iret d_MO_dawn_68 rfl rfl H
    · have H := H.2 z
      refine A_aload_n d_MO_dawn_25 rfl ?_
      refine A_get (v := .ref 63) d_MO_dawn_26 (fo_MO_19_12 rfl) (vA_s (by decide)) rfl (by first | rfl | (show Value.int _ = Value.int _; simp [wI, wL, wR, wC, up])) ?_
      refine A_iload_n d_MO_dawn_29 rfl ?_
      obtain ⟨c1, H⟩ := H
      refine A_ialdv (n := 7) (v := (h.1 63 x3)) d_MO_dawn_30 (vA_s (by decide)) rfl c1 rfl ?_
      refine A_iload_n d_MO_dawn_31 rfl ?_
      refine A_iadd d_MO_dawn_32 ?_
      refine A_iconst 0 (by decide) d_MO_dawn_33 ?_
      refine A_bipush 9 (by decide) d_MO_dawn_34 ?_
      refine A_cI [.int ((h.1 63 x3) + x1), .int 0, .int 9] [] (ct_MO_179 rfl) d_MO_dawn_36 rfl rfl (by decide) (Nat.le_of_ble_eq_true rfl) trivial (ok_MO_within (d := d) H) (fun r3 h2 H => ?_)
      refine A_istore [some (.ref 59), some (.int x1), some (.int x2), some (.int x3), some (.int r3)] d_MO_dawn_39 (by decide) rfl rfl ?_
      refine A_iload_n d_MO_dawn_41 rfl ?_
      refine A_iload d_MO_dawn_42 rfl ?_
      refine A_aload_n d_MO_dawn_44 rfl ?_
      refine A_get (v := .ref 63) d_MO_dawn_45 (fo_MO_19_12 rfl) (vA_s (by decide)) rfl (by first | rfl | (show Value.int _ = Value.int _; simp [wI, wL, wR, wC, up])) ?_
      refine A_iload_n d_MO_dawn_48 rfl ?_
      obtain ⟨c4, H⟩ := H
      refine A_ialdv (n := 7) (v := (h2.1 63 x3)) d_MO_dawn_49 (vA_s (by decide)) rfl c4 rfl ?_
      refine A_isub d_MO_dawn_50 ?_
      refine A_iadd d_MO_dawn_51 ?_
      refine A_istore_n [some (.ref 59), some (.int x1), some (.int (x2 + (r3 - (h2.1 63 x3)))), some (.int x3), some (.int r3)] d_MO_dawn_52 (by decide) rfl rfl ?_
      refine A_aload_n d_MO_dawn_53 rfl ?_
      refine A_get (v := .ref 63) d_MO_dawn_54 (fo_MO_19_12 rfl) (vA_s (by decide)) rfl (by first | rfl | (show Value.int _ = Value.int _; simp [wI, wL, wR, wC, up])) ?_
      refine A_iload_n d_MO_dawn_57 rfl ?_
      refine A_iload d_MO_dawn_58 rfl ?_
      refine A_iast (n := 7) d_MO_dawn_60 (vA_s (by decide)) rfl c4 ?_
      refine A_iinc 1 [some (.ref 59), some (.int x1), some (.int (x2 + (r3 - (h2.1 63 x3)))), some (.int (x3 + 1)), some (.int r3)] d_MO_dawn_61 rfl (by decide) (by decide) rfl rfl ?_
      refine A_goto 17 d_MO_dawn_64 (by decide) ?_
      refine A_sub (L' := [some (.ref 59), some (.int x1), some (.int (x2 + (r3 - (h2.1 63 x3)))), some (.int (x3 + 1)), none]) ⟨rfl, rfl, rfl, rfl, trivial⟩ ?_
      exact k17 _ _ _ _ H
set_option maxRecDepth 20000 in
theorem r_MO_dawn_0 {G : GG} {d : Nat} {Q : Int32 → AH → Prop} (x1 : Int32) (h : AH) (H : p_MO_dawn Q x1 h) : Att G T1 m_MO_dawn (d + 1) 0 [some (.ref 59), some (.int x1), none, none, none] [] h 0 0 (iQ Q) := by
  refine A_iload_n d_MO_dawn_0 rfl ?_
  refine A_iconst 0 (by decide) d_MO_dawn_1 ?_
  refine A_bipush 9 (by decide) d_MO_dawn_2 ?_
  refine A_cI [.int x1, .int 0, .int 9] [] (ct_MO_93 rfl) d_MO_dawn_4 rfl rfl (by decide) (Nat.le_of_ble_eq_true rfl) trivial (ok_MO_in (d := d) H) (fun r2 h1 H => ?_)
  refine A_if_ne 13 d_MO_dawn_7 (by decide) (fun z => ?_) (fun z => ?_)
  · have H := H.1 z
    refine A_iconst 0 (by decide) d_MO_dawn_13 ?_
    refine A_istore_n [some (.ref 59), some (.int x1), some (.int 0), none, none] d_MO_dawn_14 (by decide) rfl rfl ?_
    refine A_iconst 0 (by decide) d_MO_dawn_15 ?_
    refine A_istore_n [some (.ref 59), some (.int x1), some (.int 0), some (.int 0), none] d_MO_dawn_16 (by decide) rfl rfl ?_
    obtain ⟨n9, H⟩ := H
    exact r_MO_dawn_17   n9 _ _ _ _ H
  · have H := H.2 z
    refine A_bipush (-2) (by decide) d_MO_dawn_10 ?_
    exact A_iret d_MO_dawn_12 rfl rfl H
set_option maxRecDepth 20000 in
theorem ok_MO_dawn {G : GG} {d : Nat} {Q : Int32 → AH → Prop} {x1 : Int32} {h : AH} (H : p_MO_dawn Q x1 h) : WP G T1 m_MO_dawn (d + 1) [.ref 59, .int x1] h 0 0 (iQ Q) := by
  exact WP.enter 3 (by decide) rfl rfl (r_MO_dawn_0 x1 h H)
theorem d_MO_sheetWrong_0 : decode prog_14_method_63_code 0 = .ok (.iload_n 1, 1) := by decide +kernel
theorem d_MO_sheetWrong_1 : decode prog_14_method_63_code 1 = .ok (.iconst 0, 1) := by decide +kernel
theorem d_MO_sheetWrong_2 : decode prog_14_method_63_code 2 = .ok (.iconst 3, 1) := by decide +kernel
theorem d_MO_sheetWrong_3 : decode prog_14_method_63_code 3 = .ok (.invokestatic 93, 3) := by decide +kernel
theorem d_MO_sheetWrong_6 : decode prog_14_method_63_code 6 = .ok (.ifCond .ne 6, 3) := by decide +kernel
theorem d_MO_sheetWrong_9 : decode prog_14_method_63_code 9 = .ok (.bipush (-2), 2) := by decide +kernel
theorem d_MO_sheetWrong_11 : decode prog_14_method_63_code 11 = .ok (.ireturn, 1) := by decide +kernel
theorem d_MO_sheetWrong_12 : decode prog_14_method_63_code 12 = .ok (.aload_n 0, 1) := by decide +kernel
theorem d_MO_sheetWrong_13 : decode prog_14_method_63_code 13 = .ok (.getfield 40, 3) := by decide +kernel
theorem d_MO_sheetWrong_16 : decode prog_14_method_63_code 16 = .ok (.iload_n 1, 1) := by decide +kernel
theorem d_MO_sheetWrong_17 : decode prog_14_method_63_code 17 = .ok (.iaload, 1) := by decide +kernel
theorem d_MO_sheetWrong_18 : decode prog_14_method_63_code 18 = .ok (.iconst (-1), 1) := by decide +kernel
theorem d_MO_sheetWrong_19 : decode prog_14_method_63_code 19 = .ok (.if_icmp .ne 6, 3) := by decide +kernel
theorem d_MO_sheetWrong_22 : decode prog_14_method_63_code 22 = .ok (.bipush (-11), 2) := by decide +kernel
theorem d_MO_sheetWrong_24 : decode prog_14_method_63_code 24 = .ok (.ireturn, 1) := by decide +kernel
theorem d_MO_sheetWrong_25 : decode prog_14_method_63_code 25 = .ok (.aload_n 0, 1) := by decide +kernel
theorem d_MO_sheetWrong_26 : decode prog_14_method_63_code 26 = .ok (.getfield 43, 3) := by decide +kernel
theorem d_MO_sheetWrong_29 : decode prog_14_method_63_code 29 = .ok (.iload_n 1, 1) := by decide +kernel
theorem d_MO_sheetWrong_30 : decode prog_14_method_63_code 30 = .ok (.iaload, 1) := by decide +kernel
theorem d_MO_sheetWrong_31 : decode prog_14_method_63_code 31 = .ok (.aload_n 0, 1) := by decide +kernel
theorem d_MO_sheetWrong_32 : decode prog_14_method_63_code 32 = .ok (.getfield 90, 3) := by decide +kernel
theorem d_MO_sheetWrong_35 : decode prog_14_method_63_code 35 = .ok (.if_icmp .ne 7, 3) := by decide +kernel
theorem d_MO_sheetWrong_38 : decode prog_14_method_63_code 38 = .ok (.iconst 0, 1) := by decide +kernel
theorem d_MO_sheetWrong_39 : decode prog_14_method_63_code 39 = .ok (.goto 5, 3) := by decide +kernel
theorem d_MO_sheetWrong_42 : decode prog_14_method_63_code 42 = .ok (.bipush (-2), 2) := by decide +kernel
theorem d_MO_sheetWrong_44 : decode prog_14_method_63_code 44 = .ok (.ireturn, 1) := by decide +kernel
def p_MO_sheetWrong (Q : Int32 → AH → Prop) (x1 : Int32) (h : AH) : Prop := p_MO_in (fun r2 h1 => ((¬ r2 = 0 → inb x1 4 ∧ ((¬ (h1.1 70 x1) = (-1) → ((¬ (h1.1 71 x1) = (h1.1 59 0) → Q (-2) h1) ∧ ((h1.1 71 x1) = (h1.1 59 0) → Q 0 h1))) ∧ ((h1.1 70 x1) = (-1) → Q (-11) h1))) ∧ (r2 = 0 → Q (-2) h1))) x1 0 3 h
set_option maxRecDepth 20000 in
theorem r_MO_sheetWrong_0 {G : GG} {d : Nat} {Q : Int32 → AH → Prop} (x1 : Int32) (h : AH) (H : p_MO_sheetWrong Q x1 h) : Att G T1 m_MO_sheetWrong (d + 1) 0 [some (.ref 59), some (.int x1)] [] h 0 0 (iQ Q) := by
  refine A_iload_n d_MO_sheetWrong_0 rfl ?_
  refine A_iconst 0 (by decide) d_MO_sheetWrong_1 ?_
  refine A_iconst 3 (by decide) d_MO_sheetWrong_2 ?_
  refine A_cI [.int x1, .int 0, .int 3] [] (ct_MO_93 rfl) d_MO_sheetWrong_3 rfl rfl (by decide) (Nat.le_of_ble_eq_true rfl) trivial (ok_MO_in (d := d) H) (fun r2 h1 H => ?_)
  refine A_if_ne 12 d_MO_sheetWrong_6 (by decide) (fun z => ?_) (fun z => ?_)
  · have H := H.1 z
    refine A_aload_n d_MO_sheetWrong_12 rfl ?_
    refine A_get (v := .ref 70) d_MO_sheetWrong_13 (fo_MO_40_12 rfl) (vA_s (by decide)) rfl (by first | rfl | (show Value.int _ = Value.int _; simp [wI, wL, wR, wC, up])) ?_
    refine A_iload_n d_MO_sheetWrong_16 rfl ?_
    obtain ⟨c3, H⟩ := H
    refine A_ialdv (n := 4) (v := (h1.1 70 x1)) d_MO_sheetWrong_17 (vA_s (by decide)) rfl c3 rfl ?_
    refine A_iconst (-1) (by decide) d_MO_sheetWrong_18 ?_
    refine A_icmp_ne 25 d_MO_sheetWrong_19 (by decide) (fun z => ?_) (fun z => ?_)
    · have H := H.1 z
      refine A_aload_n d_MO_sheetWrong_25 rfl ?_
      refine A_get (v := .ref 71) d_MO_sheetWrong_26 (fo_MO_43_12 rfl) (vA_s (by decide)) rfl (by first | rfl | (show Value.int _ = Value.int _; simp [wI, wL, wR, wC, up])) ?_
      refine A_iload_n d_MO_sheetWrong_29 rfl ?_
      refine A_ialdv (n := 4) (v := (h1.1 71 x1)) d_MO_sheetWrong_30 (vA_s (by decide)) rfl c3 rfl ?_
      refine A_aload_n d_MO_sheetWrong_31 rfl ?_
      refine A_get (v := .int (h1.1 59 0)) d_MO_sheetWrong_32 (fo_MO_90_12 rfl) (vA_s (by decide)) rfl (by first | rfl | (show Value.int _ = Value.int _; simp [wI, wL, wR, wC, up])) ?_
      refine A_icmp_ne 42 d_MO_sheetWrong_35 (by decide) (fun z => ?_) (fun z => ?_)
      · have H := H.1 z
        refine A_bipush (-2) (by decide) d_MO_sheetWrong_42 ?_
        exact A_iret d_MO_sheetWrong_44 rfl rfl H
      · have H := H.2 z
        refine A_iconst 0 (by decide) d_MO_sheetWrong_38 ?_
        refine A_goto 44 d_MO_sheetWrong_39 (by decide) ?_
        exact A_iret d_MO_sheetWrong_44 rfl rfl H
    · have H := H.2 z
      refine A_bipush (-11) (by decide) d_MO_sheetWrong_22 ?_
      exact A_iret d_MO_sheetWrong_24 rfl rfl H
  · have H := H.2 z
    refine A_bipush (-2) (by decide) d_MO_sheetWrong_9 ?_
    exact A_iret d_MO_sheetWrong_11 rfl rfl H
set_option maxRecDepth 20000 in
theorem ok_MO_sheetWrong {G : GG} {d : Nat} {Q : Int32 → AH → Prop} {x1 : Int32} {h : AH} (H : p_MO_sheetWrong Q x1 h) : WP G T1 m_MO_sheetWrong (d + 1) [.ref 59, .int x1] h 0 0 (iQ Q) := by
  exact WP.enter 0 (by decide) rfl rfl (r_MO_sheetWrong_0 x1 h H)
theorem d_MO_sheet_0 : decode prog_14_method_78_code 0 = .ok (.iload_n 1, 1) := by decide +kernel
theorem d_MO_sheet_1 : decode prog_14_method_78_code 1 = .ok (.iconst 0, 1) := by decide +kernel
theorem d_MO_sheet_2 : decode prog_14_method_78_code 2 = .ok (.iconst 3, 1) := by decide +kernel
theorem d_MO_sheet_3 : decode prog_14_method_78_code 3 = .ok (.invokestatic 93, 3) := by decide +kernel
theorem d_MO_sheet_6 : decode prog_14_method_78_code 6 = .ok (.ifCond .eq 23, 3) := by decide +kernel
theorem d_MO_sheet_9 : decode prog_14_method_78_code 9 = .ok (.iload_n 2, 1) := by decide +kernel
theorem d_MO_sheet_10 : decode prog_14_method_78_code 10 = .ok (.iconst (-1), 1) := by decide +kernel
theorem d_MO_sheet_11 : decode prog_14_method_78_code 11 = .ok (.iconst 2, 1) := by decide +kernel
theorem d_MO_sheet_12 : decode prog_14_method_78_code 12 = .ok (.invokestatic 93, 3) := by decide +kernel
theorem d_MO_sheet_15 : decode prog_14_method_78_code 15 = .ok (.ifCond .eq 14, 3) := by decide +kernel
theorem d_MO_sheet_18 : decode prog_14_method_78_code 18 = .ok (.iload_n 2, 1) := by decide +kernel
theorem d_MO_sheet_19 : decode prog_14_method_78_code 19 = .ok (.iconst (-1), 1) := by decide +kernel
theorem d_MO_sheet_20 : decode prog_14_method_78_code 20 = .ok (.if_icmp .eq 12, 3) := by decide +kernel
theorem d_MO_sheet_23 : decode prog_14_method_78_code 23 = .ok (.iload_n 3, 1) := by decide +kernel
theorem d_MO_sheet_24 : decode prog_14_method_78_code 24 = .ok (.bipush 40, 2) := by decide +kernel
theorem d_MO_sheet_26 : decode prog_14_method_78_code 26 = .ok (.if_icmp .le 6, 3) := by decide +kernel
theorem d_MO_sheet_29 : decode prog_14_method_78_code 29 = .ok (.bipush (-2), 2) := by decide +kernel
theorem d_MO_sheet_31 : decode prog_14_method_78_code 31 = .ok (.ireturn, 1) := by decide +kernel
theorem d_MO_sheet_32 : decode prog_14_method_78_code 32 = .ok (.iload_n 2, 1) := by decide +kernel
theorem d_MO_sheet_33 : decode prog_14_method_78_code 33 = .ok (.iconst (-1), 1) := by decide +kernel
theorem d_MO_sheet_34 : decode prog_14_method_78_code 34 = .ok (.if_icmp .eq 10, 3) := by decide +kernel
theorem d_MO_sheet_37 : decode prog_14_method_78_code 37 = .ok (.iload_n 3, 1) := by decide +kernel
theorem d_MO_sheet_38 : decode prog_14_method_78_code 38 = .ok (.ifCond .ge 6, 3) := by decide +kernel
theorem d_MO_sheet_41 : decode prog_14_method_78_code 41 = .ok (.bipush (-14), 2) := by decide +kernel
theorem d_MO_sheet_43 : decode prog_14_method_78_code 43 = .ok (.ireturn, 1) := by decide +kernel
theorem d_MO_sheet_44 : decode prog_14_method_78_code 44 = .ok (.aload_n 0, 1) := by decide +kernel
theorem d_MO_sheet_45 : decode prog_14_method_78_code 45 = .ok (.getfield 40, 3) := by decide +kernel
theorem d_MO_sheet_48 : decode prog_14_method_78_code 48 = .ok (.iload_n 1, 1) := by decide +kernel
theorem d_MO_sheet_49 : decode prog_14_method_78_code 49 = .ok (.iload_n 2, 1) := by decide +kernel
theorem d_MO_sheet_50 : decode prog_14_method_78_code 50 = .ok (.iastore, 1) := by decide +kernel
theorem d_MO_sheet_51 : decode prog_14_method_78_code 51 = .ok (.aload_n 0, 1) := by decide +kernel
theorem d_MO_sheet_52 : decode prog_14_method_78_code 52 = .ok (.getfield 43, 3) := by decide +kernel
theorem d_MO_sheet_55 : decode prog_14_method_78_code 55 = .ok (.iload_n 1, 1) := by decide +kernel
theorem d_MO_sheet_56 : decode prog_14_method_78_code 56 = .ok (.iload_n 2, 1) := by decide +kernel
theorem d_MO_sheet_57 : decode prog_14_method_78_code 57 = .ok (.iconst (-1), 1) := by decide +kernel
theorem d_MO_sheet_58 : decode prog_14_method_78_code 58 = .ok (.if_icmp .ne 7, 3) := by decide +kernel
theorem d_MO_sheet_61 : decode prog_14_method_78_code 61 = .ok (.iconst 0, 1) := by decide +kernel
theorem d_MO_sheet_62 : decode prog_14_method_78_code 62 = .ok (.goto 4, 3) := by decide +kernel
theorem d_MO_sheet_65 : decode prog_14_method_78_code 65 = .ok (.iload_n 3, 1) := by decide +kernel
theorem d_MO_sheet_66 : decode prog_14_method_78_code 66 = .ok (.iastore, 1) := by decide +kernel
theorem d_MO_sheet_67 : decode prog_14_method_78_code 67 = .ok (.iconst 0, 1) := by decide +kernel
theorem d_MO_sheet_68 : decode prog_14_method_78_code 68 = .ok (.istore 4, 2) := by decide +kernel
theorem d_MO_sheet_70 : decode prog_14_method_78_code 70 = .ok (.iload 4, 2) := by decide +kernel
theorem d_MO_sheet_72 : decode prog_14_method_78_code 72 = .ok (.bipush 40, 2) := by decide +kernel
theorem d_MO_sheet_74 : decode prog_14_method_78_code 74 = .ok (.if_icmp .ge 22, 3) := by decide +kernel
theorem d_MO_sheet_77 : decode prog_14_method_78_code 77 = .ok (.aload_n 0, 1) := by decide +kernel
theorem d_MO_sheet_78 : decode prog_14_method_78_code 78 = .ok (.getfield 46, 3) := by decide +kernel
theorem d_MO_sheet_81 : decode prog_14_method_78_code 81 = .ok (.bipush 40, 2) := by decide +kernel
theorem d_MO_sheet_83 : decode prog_14_method_78_code 83 = .ok (.iload_n 1, 1) := by decide +kernel
theorem d_MO_sheet_84 : decode prog_14_method_78_code 84 = .ok (.imul, 1) := by decide +kernel
theorem d_MO_sheet_85 : decode prog_14_method_78_code 85 = .ok (.iload 4, 2) := by decide +kernel
theorem d_MO_sheet_87 : decode prog_14_method_78_code 87 = .ok (.iadd, 1) := by decide +kernel
theorem d_MO_sheet_88 : decode prog_14_method_78_code 88 = .ok (.iconst 0, 1) := by decide +kernel
theorem d_MO_sheet_89 : decode prog_14_method_78_code 89 = .ok (.iastore, 1) := by decide +kernel
theorem d_MO_sheet_90 : decode prog_14_method_78_code 90 = .ok (.iinc 4 1, 3) := by decide +kernel
theorem d_MO_sheet_93 : decode prog_14_method_78_code 93 = .ok (.goto (-23), 3) := by decide +kernel
theorem d_MO_sheet_96 : decode prog_14_method_78_code 96 = .ok (.iconst 1, 1) := by decide +kernel
theorem d_MO_sheet_97 : decode prog_14_method_78_code 97 = .ok (.ireturn, 1) := by decide +kernel
def p_MO_sheet_70 (Q : Int32 → AH → Prop) : Nat → Int32 → Int32 → AH → Prop
  | 0 => fun _ _ _ => False
  | n + 1 => fun x1 x4 h => let K70 := p_MO_sheet_70 Q n; ((40 ≤ x4 → Q 1 h) ∧ (¬ 40 ≤ x4 → inb ((40 * x1) + x4) 160 ∧ K70 x1 (x4 + 1) (wI h 72 ((40 * x1) + x4) 0)))
def p_MO_sheet_66 (Q : Int32 → AH → Prop) (x1 : Int32) (s1 : Int32) (s2 : Int32) (h : AH) : Prop := inb s1 4 ∧ ∃ n, p_MO_sheet_70 Q   n x1 0 (wI h 71 s1 s2)
def p_MO_sheet_44 (Q : Int32 → AH → Prop) (x1 : Int32) (x2 : Int32) (x3 : Int32) (h : AH) : Prop := inb x1 4 ∧ ((¬ x2 = (-1) → p_MO_sheet_66 Q   x1 x1 x3 (wI h 70 x1 x2)) ∧ (x2 = (-1) → p_MO_sheet_66 Q   x1 x1 0 (wI h 70 x1 x2)))
def p_MO_sheet_32 (Q : Int32 → AH → Prop) (x1 : Int32) (x2 : Int32) (x3 : Int32) (h : AH) : Prop := ((x2 = (-1) → p_MO_sheet_44 Q   x1 x2 x3 h) ∧ (¬ x2 = (-1) → ((0 ≤ x3 → p_MO_sheet_44 Q   x1 x2 x3 h) ∧ (¬ 0 ≤ x3 → Q (-14) h))))
def p_MO_sheet (Q : Int32 → AH → Prop) (x1 : Int32) (x2 : Int32) (x3 : Int32) (h : AH) : Prop := p_MO_in (fun r2 h1 => ((r2 = 0 → Q (-2) h1) ∧ (¬ r2 = 0 → p_MO_in (fun r4 h3 => ((r4 = 0 → Q (-2) h3) ∧ (¬ r4 = 0 → ((x2 = (-1) → p_MO_sheet_32 Q   x1 x2 x3 h3) ∧ (¬ x2 = (-1) → ((x3 ≤ 40 → p_MO_sheet_32 Q   x1 x2 x3 h3) ∧ (¬ x3 ≤ 40 → Q (-2) h3))))))) x2 (-1) 2 h1))) x1 0 3 h
set_option maxRecDepth 20000 in
theorem r_MO_sheet_70 {G : GG} {d : Nat} {Q : Int32 → AH → Prop} : ∀ (n : Nat) (x1 : Int32) (x4 : Int32) (h : AH), p_MO_sheet_70 Q n x1 x4 h → Att G T1 m_MO_sheet (d + 1) 70 [some (.ref 59), some (.int x1), none, none, some (.int x4)] [] h 0 0 (iQ Q) := by
  intro n
  induction n with
  | zero => intro x1 x4 h H; exact H.elim
  | succ n k70 =>
    intro x1 x4 h H
    refine A_iload d_MO_sheet_70 rfl ?_
    refine A_bipush 40 (by decide) d_MO_sheet_72 ?_
    refine A_icmp_ge 96 d_MO_sheet_74 (by decide) (fun z => ?_) (fun z => ?_)
    · have H := H.1 z
      refine A_iconst 1 (by decide) d_MO_sheet_96 ?_
      exact A_iret d_MO_sheet_97 rfl rfl H
    · have H := H.2 z
      refine A_aload_n d_MO_sheet_77 rfl ?_
      refine A_get (v := .ref 72) d_MO_sheet_78 (fo_MO_46_12 rfl) (vA_s (by decide)) rfl (by first | rfl | (show Value.int _ = Value.int _; simp [wI, wL, wR, wC, up])) ?_
      refine A_bipush 40 (by decide) d_MO_sheet_81 ?_
      refine A_iload_n d_MO_sheet_83 rfl ?_
      refine A_imul d_MO_sheet_84 ?_
      refine A_iload d_MO_sheet_85 rfl ?_
      refine A_iadd d_MO_sheet_87 ?_
      refine A_iconst 0 (by decide) d_MO_sheet_88 ?_
      obtain ⟨c1, H⟩ := H
      refine A_iast (n := 160) d_MO_sheet_89 (vA_s (by decide)) rfl c1 ?_
      refine A_iinc 1 [some (.ref 59), some (.int x1), none, none, some (.int (x4 + 1))] d_MO_sheet_90 rfl (by decide) (by decide) rfl rfl ?_
      refine A_goto 70 d_MO_sheet_93 (by decide) ?_
      exact k70 _ _ _ H
set_option maxRecDepth 20000 in
theorem r_MO_sheet_66 {G : GG} {d : Nat} {Q : Int32 → AH → Prop} (x1 : Int32) (s1 : Int32) (s2 : Int32) (h : AH) (H : p_MO_sheet_66 Q x1 s1 s2 h) : Att G T1 m_MO_sheet (d + 1) 66 [some (.ref 59), some (.int x1), none, none, none] [.int s2, .int s1, .ref 71] h 0 0 (iQ Q) := by
  obtain ⟨c1, H⟩ := H
  refine A_iast (n := 4) d_MO_sheet_66 (vA_s (by decide)) rfl c1 ?_
  refine A_iconst 0 (by decide) d_MO_sheet_67 ?_
  refine A_istore [some (.ref 59), some (.int x1), none, none, some (.int 0)] d_MO_sheet_68 (by decide) rfl rfl ?_
  obtain ⟨n9, H⟩ := H
  exact r_MO_sheet_70   n9 _ _ _ H
set_option maxRecDepth 20000 in
theorem r_MO_sheet_44 {G : GG} {d : Nat} {Q : Int32 → AH → Prop} (x1 : Int32) (x2 : Int32) (x3 : Int32) (h : AH) (H : p_MO_sheet_44 Q x1 x2 x3 h) : Att G T1 m_MO_sheet (d + 1) 44 [some (.ref 59), some (.int x1), some (.int x2), some (.int x3), none] [] h 0 0 (iQ Q) := by
  refine A_aload_n d_MO_sheet_44 rfl ?_
  refine A_get (v := .ref 70) d_MO_sheet_45 (fo_MO_40_12 rfl) (vA_s (by decide)) rfl (by first | rfl | (show Value.int _ = Value.int _; simp [wI, wL, wR, wC, up])) ?_
  refine A_iload_n d_MO_sheet_48 rfl ?_
  refine A_iload_n d_MO_sheet_49 rfl ?_
  obtain ⟨c1, H⟩ := H
  refine A_iast (n := 4) d_MO_sheet_50 (vA_s (by decide)) rfl c1 ?_
  refine A_aload_n d_MO_sheet_51 rfl ?_
  refine A_get (v := .ref 71) d_MO_sheet_52 (fo_MO_43_12 rfl) (vA_s (by decide)) rfl (by first | rfl | (show Value.int _ = Value.int _; simp [wI, wL, wR, wC, up])) ?_
  refine A_iload_n d_MO_sheet_55 rfl ?_
  refine A_iload_n d_MO_sheet_56 rfl ?_
  refine A_iconst (-1) (by decide) d_MO_sheet_57 ?_
  refine A_icmp_ne 65 d_MO_sheet_58 (by decide) (fun z => ?_) (fun z => ?_)
  · have H := H.1 z
    refine A_iload_n d_MO_sheet_65 rfl ?_
    refine A_sub (L' := [some (.ref 59), some (.int x1), none, none, none]) ⟨rfl, rfl, trivial⟩ ?_
    exact r_MO_sheet_66   _ _ _ _ H
  · have H := H.2 z
    refine A_iconst 0 (by decide) d_MO_sheet_61 ?_
    refine A_goto 66 d_MO_sheet_62 (by decide) ?_
    refine A_sub (L' := [some (.ref 59), some (.int x1), none, none, none]) ⟨rfl, rfl, trivial⟩ ?_
    exact r_MO_sheet_66   _ _ _ _ H
set_option maxRecDepth 20000 in
theorem r_MO_sheet_32 {G : GG} {d : Nat} {Q : Int32 → AH → Prop} (x1 : Int32) (x2 : Int32) (x3 : Int32) (h : AH) (H : p_MO_sheet_32 Q x1 x2 x3 h) : Att G T1 m_MO_sheet (d + 1) 32 [some (.ref 59), some (.int x1), some (.int x2), some (.int x3), none] [] h 0 0 (iQ Q) := by
  refine A_iload_n d_MO_sheet_32 rfl ?_
  refine A_iconst (-1) (by decide) d_MO_sheet_33 ?_
  refine A_icmp_eq 44 d_MO_sheet_34 (by decide) (fun z => ?_) (fun z => ?_)
  · have H := H.1 z
    exact r_MO_sheet_44   _ _ _ _ H
  · have H := H.2 z
    refine A_iload_n d_MO_sheet_37 rfl ?_
    refine A_if_ge 44 d_MO_sheet_38 (by decide) (fun z => ?_) (fun z => ?_)
    · have H := H.1 z
      exact r_MO_sheet_44   _ _ _ _ H
    · have H := H.2 z
      refine A_bipush (-14) (by decide) d_MO_sheet_41 ?_
      exact A_iret d_MO_sheet_43 rfl rfl H
set_option maxRecDepth 20000 in
theorem r_MO_sheet_0 {G : GG} {d : Nat} {Q : Int32 → AH → Prop} (x1 : Int32) (x2 : Int32) (x3 : Int32) (h : AH) (H : p_MO_sheet Q x1 x2 x3 h) : Att G T1 m_MO_sheet (d + 1) 0 [some (.ref 59), some (.int x1), some (.int x2), some (.int x3), none] [] h 0 0 (iQ Q) := by
  refine A_iload_n d_MO_sheet_0 rfl ?_
  refine A_iconst 0 (by decide) d_MO_sheet_1 ?_
  refine A_iconst 3 (by decide) d_MO_sheet_2 ?_
  refine A_cI [.int x1, .int 0, .int 3] [] (ct_MO_93 rfl) d_MO_sheet_3 rfl rfl (by decide) (Nat.le_of_ble_eq_true rfl) trivial (ok_MO_in (d := d) H) (fun r2 h1 H => ?_)
  refine A_if_eq 29 d_MO_sheet_6 (by decide) (fun z => ?_) (fun z => ?_)
  · have H := H.1 z
    refine A_bipush (-2) (by decide) d_MO_sheet_29 ?_
    exact A_iret d_MO_sheet_31 rfl rfl H
  · have H := H.2 z
    refine A_iload_n d_MO_sheet_9 rfl ?_
    refine A_iconst (-1) (by decide) d_MO_sheet_10 ?_
    refine A_iconst 2 (by decide) d_MO_sheet_11 ?_
    refine A_cI [.int x2, .int (-1), .int 2] [] (ct_MO_93 rfl) d_MO_sheet_12 rfl rfl (by decide) (Nat.le_of_ble_eq_true rfl) trivial (ok_MO_in (d := d) H) (fun r4 h3 H => ?_)
    refine A_if_eq 29 d_MO_sheet_15 (by decide) (fun z => ?_) (fun z => ?_)
    · have H := H.1 z
      refine A_bipush (-2) (by decide) d_MO_sheet_29 ?_
      exact A_iret d_MO_sheet_31 rfl rfl H
    · have H := H.2 z
      refine A_iload_n d_MO_sheet_18 rfl ?_
      refine A_iconst (-1) (by decide) d_MO_sheet_19 ?_
      refine A_icmp_eq 32 d_MO_sheet_20 (by decide) (fun z => ?_) (fun z => ?_)
      · have H := H.1 z
        exact r_MO_sheet_32   _ _ _ _ H
      · have H := H.2 z
        refine A_iload_n d_MO_sheet_23 rfl ?_
        refine A_bipush 40 (by decide) d_MO_sheet_24 ?_
        refine A_icmp_le 32 d_MO_sheet_26 (by decide) (fun z => ?_) (fun z => ?_)
        · have H := H.1 z
          exact r_MO_sheet_32   _ _ _ _ H
        · have H := H.2 z
          refine A_bipush (-2) (by decide) d_MO_sheet_29 ?_
          exact A_iret d_MO_sheet_31 rfl rfl H
set_option maxRecDepth 20000 in
theorem ok_MO_sheet {G : GG} {d : Nat} {Q : Int32 → AH → Prop} {x1 : Int32} {x2 : Int32} {x3 : Int32} {h : AH} (H : p_MO_sheet Q x1 x2 x3 h) : WP G T1 m_MO_sheet (d + 1) [.ref 59, .int x1, .int x2, .int x3] h 0 0 (iQ Q) := by
  exact WP.enter 1 (by decide) rfl rfl (r_MO_sheet_0 x1 x2 x3 h H)
theorem d_MO_cell_0 : decode prog_14_method_79_code 0 = .ok (.iload_n 1, 1) := by decide +kernel
theorem d_MO_cell_1 : decode prog_14_method_79_code 1 = .ok (.iconst 0, 1) := by decide +kernel
theorem d_MO_cell_2 : decode prog_14_method_79_code 2 = .ok (.iconst 3, 1) := by decide +kernel
theorem d_MO_cell_3 : decode prog_14_method_79_code 3 = .ok (.invokestatic 93, 3) := by decide +kernel
theorem d_MO_cell_6 : decode prog_14_method_79_code 6 = .ok (.ifCond .ne 6, 3) := by decide +kernel
theorem d_MO_cell_9 : decode prog_14_method_79_code 9 = .ok (.bipush (-2), 2) := by decide +kernel
theorem d_MO_cell_11 : decode prog_14_method_79_code 11 = .ok (.ireturn, 1) := by decide +kernel
theorem d_MO_cell_12 : decode prog_14_method_79_code 12 = .ok (.aload_n 0, 1) := by decide +kernel
theorem d_MO_cell_13 : decode prog_14_method_79_code 13 = .ok (.getfield 40, 3) := by decide +kernel
theorem d_MO_cell_16 : decode prog_14_method_79_code 16 = .ok (.iload_n 1, 1) := by decide +kernel
theorem d_MO_cell_17 : decode prog_14_method_79_code 17 = .ok (.iaload, 1) := by decide +kernel
theorem d_MO_cell_18 : decode prog_14_method_79_code 18 = .ok (.iconst (-1), 1) := by decide +kernel
theorem d_MO_cell_19 : decode prog_14_method_79_code 19 = .ok (.if_icmp .ne 6, 3) := by decide +kernel
theorem d_MO_cell_22 : decode prog_14_method_79_code 22 = .ok (.bipush (-11), 2) := by decide +kernel
theorem d_MO_cell_24 : decode prog_14_method_79_code 24 = .ok (.ireturn, 1) := by decide +kernel
theorem d_MO_cell_25 : decode prog_14_method_79_code 25 = .ok (.iload_n 2, 1) := by decide +kernel
theorem d_MO_cell_26 : decode prog_14_method_79_code 26 = .ok (.iconst 0, 1) := by decide +kernel
theorem d_MO_cell_27 : decode prog_14_method_79_code 27 = .ok (.aload_n 0, 1) := by decide +kernel
theorem d_MO_cell_28 : decode prog_14_method_79_code 28 = .ok (.getfield 43, 3) := by decide +kernel
theorem d_MO_cell_31 : decode prog_14_method_79_code 31 = .ok (.iload_n 1, 1) := by decide +kernel
theorem d_MO_cell_32 : decode prog_14_method_79_code 32 = .ok (.iaload, 1) := by decide +kernel
theorem d_MO_cell_33 : decode prog_14_method_79_code 33 = .ok (.iconst 1, 1) := by decide +kernel
theorem d_MO_cell_34 : decode prog_14_method_79_code 34 = .ok (.isub, 1) := by decide +kernel
theorem d_MO_cell_35 : decode prog_14_method_79_code 35 = .ok (.invokestatic 93, 3) := by decide +kernel
theorem d_MO_cell_38 : decode prog_14_method_79_code 38 = .ok (.ifCond .ne 6, 3) := by decide +kernel
theorem d_MO_cell_41 : decode prog_14_method_79_code 41 = .ok (.bipush (-12), 2) := by decide +kernel
theorem d_MO_cell_43 : decode prog_14_method_79_code 43 = .ok (.ireturn, 1) := by decide +kernel
theorem d_MO_cell_44 : decode prog_14_method_79_code 44 = .ok (.aload_n 0, 1) := by decide +kernel
theorem d_MO_cell_45 : decode prog_14_method_79_code 45 = .ok (.getfield 46, 3) := by decide +kernel
theorem d_MO_cell_48 : decode prog_14_method_79_code 48 = .ok (.bipush 40, 2) := by decide +kernel
theorem d_MO_cell_50 : decode prog_14_method_79_code 50 = .ok (.iload_n 1, 1) := by decide +kernel
theorem d_MO_cell_51 : decode prog_14_method_79_code 51 = .ok (.imul, 1) := by decide +kernel
theorem d_MO_cell_52 : decode prog_14_method_79_code 52 = .ok (.iload_n 2, 1) := by decide +kernel
theorem d_MO_cell_53 : decode prog_14_method_79_code 53 = .ok (.iadd, 1) := by decide +kernel
theorem d_MO_cell_54 : decode prog_14_method_79_code 54 = .ok (.aload_n 0, 1) := by decide +kernel
theorem d_MO_cell_55 : decode prog_14_method_79_code 55 = .ok (.getfield 40, 3) := by decide +kernel
theorem d_MO_cell_58 : decode prog_14_method_79_code 58 = .ok (.iload_n 1, 1) := by decide +kernel
theorem d_MO_cell_59 : decode prog_14_method_79_code 59 = .ok (.iaload, 1) := by decide +kernel
theorem d_MO_cell_60 : decode prog_14_method_79_code 60 = .ok (.ifCond .ne 8, 3) := by decide +kernel
theorem d_MO_cell_63 : decode prog_14_method_79_code 63 = .ok (.iload_n 3, 1) := by decide +kernel
theorem d_MO_cell_64 : decode prog_14_method_79_code 64 = .ok (.i2b, 1) := by decide +kernel
theorem d_MO_cell_65 : decode prog_14_method_79_code 65 = .ok (.goto 19, 3) := by decide +kernel
theorem d_MO_cell_68 : decode prog_14_method_79_code 68 = .ok (.aload_n 0, 1) := by decide +kernel
theorem d_MO_cell_69 : decode prog_14_method_79_code 69 = .ok (.getfield 40, 3) := by decide +kernel
theorem d_MO_cell_72 : decode prog_14_method_79_code 72 = .ok (.iload_n 1, 1) := by decide +kernel
theorem d_MO_cell_73 : decode prog_14_method_79_code 73 = .ok (.iaload, 1) := by decide +kernel
theorem d_MO_cell_74 : decode prog_14_method_79_code 74 = .ok (.iconst 1, 1) := by decide +kernel
theorem d_MO_cell_75 : decode prog_14_method_79_code 75 = .ok (.if_icmp .ne 8, 3) := by decide +kernel
theorem d_MO_cell_78 : decode prog_14_method_79_code 78 = .ok (.iload_n 3, 1) := by decide +kernel
theorem d_MO_cell_79 : decode prog_14_method_79_code 79 = .ok (.i2s, 1) := by decide +kernel
theorem d_MO_cell_80 : decode prog_14_method_79_code 80 = .ok (.goto 4, 3) := by decide +kernel
theorem d_MO_cell_83 : decode prog_14_method_79_code 83 = .ok (.iload_n 3, 1) := by decide +kernel
theorem d_MO_cell_84 : decode prog_14_method_79_code 84 = .ok (.iastore, 1) := by decide +kernel
theorem d_MO_cell_85 : decode prog_14_method_79_code 85 = .ok (.iconst 1, 1) := by decide +kernel
theorem d_MO_cell_86 : decode prog_14_method_79_code 86 = .ok (.ireturn, 1) := by decide +kernel
def p_MO_cell (Q : Int32 → AH → Prop) (x1 : Int32) (x2 : Int32) (x3 : Int32) (h : AH) : Prop := p_MO_in (fun r2 h1 => ((¬ r2 = 0 → inb x1 4 ∧ ((¬ (h1.1 70 x1) = (-1) → p_MO_in (fun r5 h4 => ((¬ r5 = 0 → inb x1 4 ∧ ((¬ (h4.1 70 x1) = 0 → ((¬ (h4.1 70 x1) = 1 → inb ((40 * x1) + x2) 160 ∧ Q 1 (wI h4 72 ((40 * x1) + x2) x3)) ∧ ((h4.1 70 x1) = 1 → inb ((40 * x1) + x2) 160 ∧ Q 1 (wI h4 72 ((40 * x1) + x2) x3.toInt16.toInt32)))) ∧ ((h4.1 70 x1) = 0 → inb ((40 * x1) + x2) 160 ∧ Q 1 (wI h4 72 ((40 * x1) + x2) x3.toInt8.toInt32)))) ∧ (r5 = 0 → Q (-12) h4))) x2 0 ((h1.1 71 x1) - 1) h1) ∧ ((h1.1 70 x1) = (-1) → Q (-11) h1))) ∧ (r2 = 0 → Q (-2) h1))) x1 0 3 h
set_option maxRecDepth 20000 in
theorem r_MO_cell_0 {G : GG} {d : Nat} {Q : Int32 → AH → Prop} (x1 : Int32) (x2 : Int32) (x3 : Int32) (h : AH) (H : p_MO_cell Q x1 x2 x3 h) : Att G T1 m_MO_cell (d + 1) 0 [some (.ref 59), some (.int x1), some (.int x2), some (.int x3)] [] h 0 0 (iQ Q) := by
  refine A_iload_n d_MO_cell_0 rfl ?_
  refine A_iconst 0 (by decide) d_MO_cell_1 ?_
  refine A_iconst 3 (by decide) d_MO_cell_2 ?_
  refine A_cI [.int x1, .int 0, .int 3] [] (ct_MO_93 rfl) d_MO_cell_3 rfl rfl (by decide) (Nat.le_of_ble_eq_true rfl) trivial (ok_MO_in (d := d) H) (fun r2 h1 H => ?_)
  refine A_if_ne 12 d_MO_cell_6 (by decide) (fun z => ?_) (fun z => ?_)
  · have H := H.1 z
    refine A_aload_n d_MO_cell_12 rfl ?_
    refine A_get (v := .ref 70) d_MO_cell_13 (fo_MO_40_12 rfl) (vA_s (by decide)) rfl (by first | rfl | (show Value.int _ = Value.int _; simp [wI, wL, wR, wC, up])) ?_
    refine A_iload_n d_MO_cell_16 rfl ?_
    obtain ⟨c3, H⟩ := H
    refine A_ialdv (n := 4) (v := (h1.1 70 x1)) d_MO_cell_17 (vA_s (by decide)) rfl c3 rfl ?_
    refine A_iconst (-1) (by decide) d_MO_cell_18 ?_
    refine A_icmp_ne 25 d_MO_cell_19 (by decide) (fun z => ?_) (fun z => ?_)
    · have H := H.1 z
      refine A_iload_n d_MO_cell_25 rfl ?_
      refine A_iconst 0 (by decide) d_MO_cell_26 ?_
      refine A_aload_n d_MO_cell_27 rfl ?_
      refine A_get (v := .ref 71) d_MO_cell_28 (fo_MO_43_12 rfl) (vA_s (by decide)) rfl (by first | rfl | (show Value.int _ = Value.int _; simp [wI, wL, wR, wC, up])) ?_
      refine A_iload_n d_MO_cell_31 rfl ?_
      refine A_ialdv (n := 4) (v := (h1.1 71 x1)) d_MO_cell_32 (vA_s (by decide)) rfl c3 rfl ?_
      refine A_iconst 1 (by decide) d_MO_cell_33 ?_
      refine A_isub d_MO_cell_34 ?_
      refine A_cI [.int x2, .int 0, .int ((h1.1 71 x1) - 1)] [] (ct_MO_93 rfl) d_MO_cell_35 rfl rfl (by decide) (Nat.le_of_ble_eq_true rfl) trivial (ok_MO_in (d := d) H) (fun r5 h4 H => ?_)
      refine A_if_ne 44 d_MO_cell_38 (by decide) (fun z => ?_) (fun z => ?_)
      · have H := H.1 z
        refine A_aload_n d_MO_cell_44 rfl ?_
        refine A_get (v := .ref 72) d_MO_cell_45 (fo_MO_46_12 rfl) (vA_s (by decide)) rfl (by first | rfl | (show Value.int _ = Value.int _; simp [wI, wL, wR, wC, up])) ?_
        refine A_bipush 40 (by decide) d_MO_cell_48 ?_
        refine A_iload_n d_MO_cell_50 rfl ?_
        refine A_imul d_MO_cell_51 ?_
        refine A_iload_n d_MO_cell_52 rfl ?_
        refine A_iadd d_MO_cell_53 ?_
        refine A_aload_n d_MO_cell_54 rfl ?_
        refine A_get (v := .ref 70) d_MO_cell_55 (fo_MO_40_12 rfl) (vA_s (by decide)) rfl (by first | rfl | (show Value.int _ = Value.int _; simp [wI, wL, wR, wC, up])) ?_
        refine A_iload_n d_MO_cell_58 rfl ?_
        obtain ⟨c6, H⟩ := H
        refine A_ialdv (n := 4) (v := (h4.1 70 x1)) d_MO_cell_59 (vA_s (by decide)) rfl c6 rfl ?_
        refine A_if_ne 68 d_MO_cell_60 (by decide) (fun z => ?_) (fun z => ?_)
        · have H := H.1 z
          refine A_aload_n d_MO_cell_68 rfl ?_
          refine A_get (v := .ref 70) d_MO_cell_69 (fo_MO_40_12 rfl) (vA_s (by decide)) rfl (by first | rfl | (show Value.int _ = Value.int _; simp [wI, wL, wR, wC, up])) ?_
          refine A_iload_n d_MO_cell_72 rfl ?_
          refine A_ialdv (n := 4) (v := (h4.1 70 x1)) d_MO_cell_73 (vA_s (by decide)) rfl c6 rfl ?_
          refine A_iconst 1 (by decide) d_MO_cell_74 ?_
          refine A_icmp_ne 83 d_MO_cell_75 (by decide) (fun z => ?_) (fun z => ?_)
          · have H := H.1 z
            refine A_iload_n d_MO_cell_83 rfl ?_
            obtain ⟨c7, H⟩ := H
            refine A_iast (n := 160) d_MO_cell_84 (vA_s (by decide)) rfl c7 ?_
            refine A_iconst 1 (by decide) d_MO_cell_85 ?_
            exact A_iret d_MO_cell_86 rfl rfl H
          · have H := H.2 z
            refine A_iload_n d_MO_cell_78 rfl ?_
            refine A_i2s d_MO_cell_79 ?_
            refine A_goto 84 d_MO_cell_80 (by decide) ?_
            obtain ⟨c8, H⟩ := H
            refine A_iast (n := 160) d_MO_cell_84 (vA_s (by decide)) rfl c8 ?_
            refine A_iconst 1 (by decide) d_MO_cell_85 ?_
            exact A_iret d_MO_cell_86 rfl rfl H
        · have H := H.2 z
          refine A_iload_n d_MO_cell_63 rfl ?_
          refine A_i2b d_MO_cell_64 ?_
          refine A_goto 84 d_MO_cell_65 (by decide) ?_
          obtain ⟨c9, H⟩ := H
          refine A_iast (n := 160) d_MO_cell_84 (vA_s (by decide)) rfl c9 ?_
          refine A_iconst 1 (by decide) d_MO_cell_85 ?_
          exact A_iret d_MO_cell_86 rfl rfl H
      · have H := H.2 z
        refine A_bipush (-12) (by decide) d_MO_cell_41 ?_
        exact A_iret d_MO_cell_43 rfl rfl H
    · have H := H.2 z
      refine A_bipush (-11) (by decide) d_MO_cell_22 ?_
      exact A_iret d_MO_cell_24 rfl rfl H
  · have H := H.2 z
    refine A_bipush (-2) (by decide) d_MO_cell_9 ?_
    exact A_iret d_MO_cell_11 rfl rfl H
set_option maxRecDepth 20000 in
theorem ok_MO_cell {G : GG} {d : Nat} {Q : Int32 → AH → Prop} {x1 : Int32} {x2 : Int32} {x3 : Int32} {h : AH} (H : p_MO_cell Q x1 x2 x3 h) : WP G T1 m_MO_cell (d + 1) [.ref 59, .int x1, .int x2, .int x3] h 0 0 (iQ Q) := by
  exact WP.enter 0 (by decide) rfl rfl (r_MO_cell_0 x1 x2 x3 h H)
theorem d_MO_copy_0 : decode prog_14_method_80_code 0 = .ok (.iload_n 1, 1) := by decide +kernel
theorem d_MO_copy_1 : decode prog_14_method_80_code 1 = .ok (.iconst 0, 1) := by decide +kernel
theorem d_MO_copy_2 : decode prog_14_method_80_code 2 = .ok (.iconst 3, 1) := by decide +kernel
theorem d_MO_copy_3 : decode prog_14_method_80_code 3 = .ok (.invokestatic 93, 3) := by decide +kernel
theorem d_MO_copy_6 : decode prog_14_method_80_code 6 = .ok (.ifCond .eq 12, 3) := by decide +kernel
theorem d_MO_copy_9 : decode prog_14_method_80_code 9 = .ok (.iload_n 3, 1) := by decide +kernel
theorem d_MO_copy_10 : decode prog_14_method_80_code 10 = .ok (.iconst 0, 1) := by decide +kernel
theorem d_MO_copy_11 : decode prog_14_method_80_code 11 = .ok (.iconst 3, 1) := by decide +kernel
theorem d_MO_copy_12 : decode prog_14_method_80_code 12 = .ok (.invokestatic 93, 3) := by decide +kernel
theorem d_MO_copy_15 : decode prog_14_method_80_code 15 = .ok (.ifCond .ne 6, 3) := by decide +kernel
theorem d_MO_copy_18 : decode prog_14_method_80_code 18 = .ok (.bipush (-2), 2) := by decide +kernel
theorem d_MO_copy_20 : decode prog_14_method_80_code 20 = .ok (.ireturn, 1) := by decide +kernel
theorem d_MO_copy_21 : decode prog_14_method_80_code 21 = .ok (.aload_n 0, 1) := by decide +kernel
theorem d_MO_copy_22 : decode prog_14_method_80_code 22 = .ok (.getfield 40, 3) := by decide +kernel
theorem d_MO_copy_25 : decode prog_14_method_80_code 25 = .ok (.iload_n 1, 1) := by decide +kernel
theorem d_MO_copy_26 : decode prog_14_method_80_code 26 = .ok (.iaload, 1) := by decide +kernel
theorem d_MO_copy_27 : decode prog_14_method_80_code 27 = .ok (.iconst (-1), 1) := by decide +kernel
theorem d_MO_copy_28 : decode prog_14_method_80_code 28 = .ok (.if_icmp .eq 13, 3) := by decide +kernel
theorem d_MO_copy_31 : decode prog_14_method_80_code 31 = .ok (.aload_n 0, 1) := by decide +kernel
theorem d_MO_copy_32 : decode prog_14_method_80_code 32 = .ok (.getfield 40, 3) := by decide +kernel
theorem d_MO_copy_35 : decode prog_14_method_80_code 35 = .ok (.iload_n 3, 1) := by decide +kernel
theorem d_MO_copy_36 : decode prog_14_method_80_code 36 = .ok (.iaload, 1) := by decide +kernel
theorem d_MO_copy_37 : decode prog_14_method_80_code 37 = .ok (.iconst (-1), 1) := by decide +kernel
theorem d_MO_copy_38 : decode prog_14_method_80_code 38 = .ok (.if_icmp .ne 6, 3) := by decide +kernel
theorem d_MO_copy_41 : decode prog_14_method_80_code 41 = .ok (.bipush (-11), 2) := by decide +kernel
theorem d_MO_copy_43 : decode prog_14_method_80_code 43 = .ok (.ireturn, 1) := by decide +kernel
theorem d_MO_copy_44 : decode prog_14_method_80_code 44 = .ok (.aload_n 0, 1) := by decide +kernel
theorem d_MO_copy_45 : decode prog_14_method_80_code 45 = .ok (.getfield 40, 3) := by decide +kernel
theorem d_MO_copy_48 : decode prog_14_method_80_code 48 = .ok (.iload_n 1, 1) := by decide +kernel
theorem d_MO_copy_49 : decode prog_14_method_80_code 49 = .ok (.iaload, 1) := by decide +kernel
theorem d_MO_copy_50 : decode prog_14_method_80_code 50 = .ok (.aload_n 0, 1) := by decide +kernel
theorem d_MO_copy_51 : decode prog_14_method_80_code 51 = .ok (.getfield 40, 3) := by decide +kernel
theorem d_MO_copy_54 : decode prog_14_method_80_code 54 = .ok (.iload_n 3, 1) := by decide +kernel
theorem d_MO_copy_55 : decode prog_14_method_80_code 55 = .ok (.iaload, 1) := by decide +kernel
theorem d_MO_copy_56 : decode prog_14_method_80_code 56 = .ok (.if_icmp .eq 6, 3) := by decide +kernel
theorem d_MO_copy_59 : decode prog_14_method_80_code 59 = .ok (.bipush (-13), 2) := by decide +kernel
theorem d_MO_copy_61 : decode prog_14_method_80_code 61 = .ok (.ireturn, 1) := by decide +kernel
theorem d_MO_copy_62 : decode prog_14_method_80_code 62 = .ok (.iload 5, 2) := by decide +kernel
theorem d_MO_copy_64 : decode prog_14_method_80_code 64 = .ok (.ifCond .lt 60, 3) := by decide +kernel
theorem d_MO_copy_67 : decode prog_14_method_80_code 67 = .ok (.iload_n 2, 1) := by decide +kernel
theorem d_MO_copy_68 : decode prog_14_method_80_code 68 = .ok (.ifCond .lt 56, 3) := by decide +kernel
theorem d_MO_copy_71 : decode prog_14_method_80_code 71 = .ok (.iload 4, 2) := by decide +kernel
theorem d_MO_copy_73 : decode prog_14_method_80_code 73 = .ok (.ifCond .lt 51, 3) := by decide +kernel
theorem d_MO_copy_76 : decode prog_14_method_80_code 76 = .ok (.iload_n 2, 1) := by decide +kernel
theorem d_MO_copy_77 : decode prog_14_method_80_code 77 = .ok (.aload_n 0, 1) := by decide +kernel
theorem d_MO_copy_78 : decode prog_14_method_80_code 78 = .ok (.getfield 43, 3) := by decide +kernel
theorem d_MO_copy_81 : decode prog_14_method_80_code 81 = .ok (.iload_n 1, 1) := by decide +kernel
theorem d_MO_copy_82 : decode prog_14_method_80_code 82 = .ok (.iaload, 1) := by decide +kernel
theorem d_MO_copy_83 : decode prog_14_method_80_code 83 = .ok (.if_icmp .gt 41, 3) := by decide +kernel
theorem d_MO_copy_86 : decode prog_14_method_80_code 86 = .ok (.iload 4, 2) := by decide +kernel
theorem d_MO_copy_88 : decode prog_14_method_80_code 88 = .ok (.aload_n 0, 1) := by decide +kernel
theorem d_MO_copy_89 : decode prog_14_method_80_code 89 = .ok (.getfield 43, 3) := by decide +kernel
theorem d_MO_copy_92 : decode prog_14_method_80_code 92 = .ok (.iload_n 3, 1) := by decide +kernel
theorem d_MO_copy_93 : decode prog_14_method_80_code 93 = .ok (.iaload, 1) := by decide +kernel
theorem d_MO_copy_94 : decode prog_14_method_80_code 94 = .ok (.if_icmp .gt 30, 3) := by decide +kernel
theorem d_MO_copy_97 : decode prog_14_method_80_code 97 = .ok (.iload 5, 2) := by decide +kernel
theorem d_MO_copy_99 : decode prog_14_method_80_code 99 = .ok (.aload_n 0, 1) := by decide +kernel
theorem d_MO_copy_100 : decode prog_14_method_80_code 100 = .ok (.getfield 43, 3) := by decide +kernel
theorem d_MO_copy_103 : decode prog_14_method_80_code 103 = .ok (.iload_n 1, 1) := by decide +kernel
theorem d_MO_copy_104 : decode prog_14_method_80_code 104 = .ok (.iaload, 1) := by decide +kernel
theorem d_MO_copy_105 : decode prog_14_method_80_code 105 = .ok (.iload_n 2, 1) := by decide +kernel
theorem d_MO_copy_106 : decode prog_14_method_80_code 106 = .ok (.isub, 1) := by decide +kernel
theorem d_MO_copy_107 : decode prog_14_method_80_code 107 = .ok (.if_icmp .gt 17, 3) := by decide +kernel
theorem d_MO_copy_110 : decode prog_14_method_80_code 110 = .ok (.iload 5, 2) := by decide +kernel
theorem d_MO_copy_112 : decode prog_14_method_80_code 112 = .ok (.aload_n 0, 1) := by decide +kernel
theorem d_MO_copy_113 : decode prog_14_method_80_code 113 = .ok (.getfield 43, 3) := by decide +kernel
theorem d_MO_copy_116 : decode prog_14_method_80_code 116 = .ok (.iload_n 3, 1) := by decide +kernel
theorem d_MO_copy_117 : decode prog_14_method_80_code 117 = .ok (.iaload, 1) := by decide +kernel
theorem d_MO_copy_118 : decode prog_14_method_80_code 118 = .ok (.iload 4, 2) := by decide +kernel
theorem d_MO_copy_120 : decode prog_14_method_80_code 120 = .ok (.isub, 1) := by decide +kernel
theorem d_MO_copy_121 : decode prog_14_method_80_code 121 = .ok (.if_icmp .le 6, 3) := by decide +kernel
theorem d_MO_copy_124 : decode prog_14_method_80_code 124 = .ok (.bipush (-12), 2) := by decide +kernel
theorem d_MO_copy_126 : decode prog_14_method_80_code 126 = .ok (.ireturn, 1) := by decide +kernel
theorem d_MO_copy_127 : decode prog_14_method_80_code 127 = .ok (.bipush 40, 2) := by decide +kernel
theorem d_MO_copy_129 : decode prog_14_method_80_code 129 = .ok (.iload_n 1, 1) := by decide +kernel
theorem d_MO_copy_130 : decode prog_14_method_80_code 130 = .ok (.imul, 1) := by decide +kernel
theorem d_MO_copy_131 : decode prog_14_method_80_code 131 = .ok (.iload_n 2, 1) := by decide +kernel
theorem d_MO_copy_132 : decode prog_14_method_80_code 132 = .ok (.iadd, 1) := by decide +kernel
theorem d_MO_copy_133 : decode prog_14_method_80_code 133 = .ok (.istore 6, 2) := by decide +kernel
theorem d_MO_copy_135 : decode prog_14_method_80_code 135 = .ok (.bipush 40, 2) := by decide +kernel
theorem d_MO_copy_137 : decode prog_14_method_80_code 137 = .ok (.iload_n 3, 1) := by decide +kernel
theorem d_MO_copy_138 : decode prog_14_method_80_code 138 = .ok (.imul, 1) := by decide +kernel
theorem d_MO_copy_139 : decode prog_14_method_80_code 139 = .ok (.iload 4, 2) := by decide +kernel
theorem d_MO_copy_141 : decode prog_14_method_80_code 141 = .ok (.iadd, 1) := by decide +kernel
theorem d_MO_copy_142 : decode prog_14_method_80_code 142 = .ok (.istore 7, 2) := by decide +kernel
theorem d_MO_copy_144 : decode prog_14_method_80_code 144 = .ok (.iconst 0, 1) := by decide +kernel
theorem d_MO_copy_145 : decode prog_14_method_80_code 145 = .ok (.istore 8, 2) := by decide +kernel
theorem d_MO_copy_147 : decode prog_14_method_80_code 147 = .ok (.iload 8, 2) := by decide +kernel
theorem d_MO_copy_149 : decode prog_14_method_80_code 149 = .ok (.iload 5, 2) := by decide +kernel
theorem d_MO_copy_151 : decode prog_14_method_80_code 151 = .ok (.if_icmp .ge 50, 3) := by decide +kernel
theorem d_MO_copy_154 : decode prog_14_method_80_code 154 = .ok (.iload 6, 2) := by decide +kernel
theorem d_MO_copy_156 : decode prog_14_method_80_code 156 = .ok (.iload 7, 2) := by decide +kernel
theorem d_MO_copy_158 : decode prog_14_method_80_code 158 = .ok (.if_icmp .ge 13, 3) := by decide +kernel
theorem d_MO_copy_161 : decode prog_14_method_80_code 161 = .ok (.iload 5, 2) := by decide +kernel
theorem d_MO_copy_163 : decode prog_14_method_80_code 163 = .ok (.iconst 1, 1) := by decide +kernel
theorem d_MO_copy_164 : decode prog_14_method_80_code 164 = .ok (.isub, 1) := by decide +kernel
theorem d_MO_copy_165 : decode prog_14_method_80_code 165 = .ok (.iload 8, 2) := by decide +kernel
theorem d_MO_copy_167 : decode prog_14_method_80_code 167 = .ok (.isub, 1) := by decide +kernel
theorem d_MO_copy_168 : decode prog_14_method_80_code 168 = .ok (.goto 5, 3) := by decide +kernel
theorem d_MO_copy_171 : decode prog_14_method_80_code 171 = .ok (.iload 8, 2) := by decide +kernel
theorem d_MO_copy_173 : decode prog_14_method_80_code 173 = .ok (.istore 9, 2) := by decide +kernel
theorem d_MO_copy_175 : decode prog_14_method_80_code 175 = .ok (.aload_n 0, 1) := by decide +kernel
theorem d_MO_copy_176 : decode prog_14_method_80_code 176 = .ok (.getfield 46, 3) := by decide +kernel
theorem d_MO_copy_179 : decode prog_14_method_80_code 179 = .ok (.iload 7, 2) := by decide +kernel
theorem d_MO_copy_181 : decode prog_14_method_80_code 181 = .ok (.iload 9, 2) := by decide +kernel
theorem d_MO_copy_183 : decode prog_14_method_80_code 183 = .ok (.iadd, 1) := by decide +kernel
theorem d_MO_copy_184 : decode prog_14_method_80_code 184 = .ok (.aload_n 0, 1) := by decide +kernel
theorem d_MO_copy_185 : decode prog_14_method_80_code 185 = .ok (.getfield 46, 3) := by decide +kernel
theorem d_MO_copy_188 : decode prog_14_method_80_code 188 = .ok (.iload 6, 2) := by decide +kernel
theorem d_MO_copy_190 : decode prog_14_method_80_code 190 = .ok (.iload 9, 2) := by decide +kernel
theorem d_MO_copy_192 : decode prog_14_method_80_code 192 = .ok (.iadd, 1) := by decide +kernel
theorem d_MO_copy_193 : decode prog_14_method_80_code 193 = .ok (.iaload, 1) := by decide +kernel
theorem d_MO_copy_194 : decode prog_14_method_80_code 194 = .ok (.iastore, 1) := by decide +kernel
theorem d_MO_copy_195 : decode prog_14_method_80_code 195 = .ok (.iinc 8 1, 3) := by decide +kernel
theorem d_MO_copy_198 : decode prog_14_method_80_code 198 = .ok (.goto (-51), 3) := by decide +kernel
theorem d_MO_copy_201 : decode prog_14_method_80_code 201 = .ok (.iload 5, 2) := by decide +kernel
theorem d_MO_copy_203 : decode prog_14_method_80_code 203 = .ok (.ireturn, 1) := by decide +kernel
def p_MO_copy_173 (Q : Int32 → AH → Prop) (K147 : Int32 → Int32 → Int32 → Int32 → AH → Prop) (x5 : Int32) (x6 : Int32) (x7 : Int32) (x8 : Int32) (s0 : Int32) (h : AH) : Prop := inb (x6 + s0) 160 ∧ inb (x7 + s0) 160 ∧ K147 x5 x6 x7 (x8 + 1) (wI h 72 (x7 + s0) (h.1 72 (x6 + s0)))
def p_MO_copy_147 (Q : Int32 → AH → Prop) : Nat → Int32 → Int32 → Int32 → Int32 → AH → Prop
  | 0 => fun _ _ _ _ _ => False
  | n + 1 => fun x5 x6 x7 x8 h => let K147 := p_MO_copy_147 Q n; ((x5 ≤ x8 → Q x5 h) ∧ (¬ x5 ≤ x8 → ((x7 ≤ x6 → p_MO_copy_173 Q  K147 x5 x6 x7 x8 x8 h) ∧ (¬ x7 ≤ x6 → p_MO_copy_173 Q  K147 x5 x6 x7 x8 ((x5 - 1) - x8) h))))
def p_MO_copy (Q : Int32 → AH → Prop) (x1 : Int32) (x2 : Int32) (x3 : Int32) (x4 : Int32) (x5 : Int32) (h : AH) : Prop := p_MO_in (fun r2 h1 => ((r2 = 0 → Q (-2) h1) ∧ (¬ r2 = 0 → p_MO_in (fun r4 h3 => ((¬ r4 = 0 → inb x1 4 ∧ (((h3.1 70 x1) = (-1) → Q (-11) h3) ∧ (¬ (h3.1 70 x1) = (-1) → inb x3 4 ∧ ((¬ (h3.1 70 x3) = (-1) → (((h3.1 70 x1) = (h3.1 70 x3) → ((x5 < 0 → Q (-12) h3) ∧ (¬ x5 < 0 → ((x2 < 0 → Q (-12) h3) ∧ (¬ x2 < 0 → ((x4 < 0 → Q (-12) h3) ∧ (¬ x4 < 0 → (((h3.1 71 x1) < x2 → Q (-12) h3) ∧ (¬ (h3.1 71 x1) < x2 → (((h3.1 71 x3) < x4 → Q (-12) h3) ∧ (¬ (h3.1 71 x3) < x4 → ((((h3.1 71 x1) - x2) < x5 → Q (-12) h3) ∧ (¬ ((h3.1 71 x1) - x2) < x5 → ((x5 ≤ ((h3.1 71 x3) - x4) → ∃ n, p_MO_copy_147 Q   n x5 ((40 * x1) + x2) ((40 * x3) + x4) 0 h3) ∧ (¬ x5 ≤ ((h3.1 71 x3) - x4) → Q (-12) h3))))))))))))))) ∧ (¬ (h3.1 70 x1) = (h3.1 70 x3) → Q (-13) h3))) ∧ ((h3.1 70 x3) = (-1) → Q (-11) h3))))) ∧ (r4 = 0 → Q (-2) h3))) x3 0 3 h1))) x1 0 3 h
set_option maxRecDepth 20000 in
theorem r_MO_copy_173 {G : GG} {d : Nat} {Q : Int32 → AH → Prop} {K147 : Int32 → Int32 → Int32 → Int32 → AH → Prop} (k147 : ∀ x5 x6 x7 x8 h, K147 x5 x6 x7 x8 h → Att G T1 m_MO_copy (d + 1) 147 [some (.ref 59), none, none, none, none, some (.int x5), some (.int x6), some (.int x7), some (.int x8), none] [] h 0 0 (iQ Q)) (x5 : Int32) (x6 : Int32) (x7 : Int32) (x8 : Int32) (s0 : Int32) (h : AH) (H : p_MO_copy_173 Q K147 x5 x6 x7 x8 s0 h) : Att G T1 m_MO_copy (d + 1) 173 [some (.ref 59), none, none, none, none, some (.int x5), some (.int x6), some (.int x7), some (.int x8), none] [.int s0] h 0 0 (iQ Q) := by
  refine A_istore [some (.ref 59), none, none, none, none, some (.int x5), some (.int x6), some (.int x7), some (.int x8), some (.int s0)] d_MO_copy_173 (by decide) rfl rfl ?_
  refine A_aload_n d_MO_copy_175 rfl ?_
  refine A_get (v := .ref 72) d_MO_copy_176 (fo_MO_46_12 rfl) (vA_s (by decide)) rfl (by first | rfl | (show Value.int _ = Value.int _; simp [wI, wL, wR, wC, up])) ?_
  refine A_iload d_MO_copy_179 rfl ?_
  refine A_iload d_MO_copy_181 rfl ?_
  refine A_iadd d_MO_copy_183 ?_
  refine A_aload_n d_MO_copy_184 rfl ?_
  refine A_get (v := .ref 72) d_MO_copy_185 (fo_MO_46_12 rfl) (vA_s (by decide)) rfl (by first | rfl | (show Value.int _ = Value.int _; simp [wI, wL, wR, wC, up])) ?_
  refine A_iload d_MO_copy_188 rfl ?_
  refine A_iload d_MO_copy_190 rfl ?_
  refine A_iadd d_MO_copy_192 ?_
  obtain ⟨c1, H⟩ := H
  refine A_ialdv (n := 160) (v := (h.1 72 (x6 + s0))) d_MO_copy_193 (vA_s (by decide)) rfl c1 rfl ?_
  obtain ⟨c2, H⟩ := H
  refine A_iast (n := 160) d_MO_copy_194 (vA_s (by decide)) rfl c2 ?_
  refine A_iinc 1 [some (.ref 59), none, none, none, none, some (.int x5), some (.int x6), some (.int x7), some (.int (x8 + 1)), some (.int s0)] d_MO_copy_195 rfl (by decide) (by decide) rfl rfl ?_
  refine A_goto 147 d_MO_copy_198 (by decide) ?_
  refine A_sub (L' := [some (.ref 59), none, none, none, none, some (.int x5), some (.int x6), some (.int x7), some (.int (x8 + 1)), none]) ⟨rfl, rfl, rfl, rfl, rfl, trivial⟩ ?_
  exact k147 _ _ _ _ _ H
set_option maxRecDepth 20000 in
theorem r_MO_copy_147 {G : GG} {d : Nat} {Q : Int32 → AH → Prop} : ∀ (n : Nat) (x5 : Int32) (x6 : Int32) (x7 : Int32) (x8 : Int32) (h : AH), p_MO_copy_147 Q n x5 x6 x7 x8 h → Att G T1 m_MO_copy (d + 1) 147 [some (.ref 59), none, none, none, none, some (.int x5), some (.int x6), some (.int x7), some (.int x8), none] [] h 0 0 (iQ Q) := by
  intro n
  induction n with
  | zero => intro x5 x6 x7 x8 h H; exact H.elim
  | succ n k147 =>
    intro x5 x6 x7 x8 h H
    refine A_iload d_MO_copy_147 rfl ?_
    refine A_iload d_MO_copy_149 rfl ?_
    refine A_icmp_ge 201 d_MO_copy_151 (by decide) (fun z => ?_) (fun z => ?_)
    · have H := H.1 z
      refine A_iload d_MO_copy_201 rfl ?_
      exact A_iret d_MO_copy_203 rfl rfl H
    · have H := H.2 z
      refine A_iload d_MO_copy_154 rfl ?_
      refine A_iload d_MO_copy_156 rfl ?_
      refine A_icmp_ge 171 d_MO_copy_158 (by decide) (fun z => ?_) (fun z => ?_)
      · have H := H.1 z
        refine A_iload d_MO_copy_171 rfl ?_
        exact r_MO_copy_173  k147 _ _ _ _ _ _ H
      · have H := H.2 z
        refine A_iload d_MO_copy_161 rfl ?_
        refine A_iconst 1 (by decide) d_MO_copy_163 ?_
        refine A_isub d_MO_copy_164 ?_
        refine A_iload d_MO_copy_165 rfl ?_
        refine A_isub d_MO_copy_167 ?_
        refine A_goto 173 d_MO_copy_168 (by decide) ?_
        exact r_MO_copy_173  k147 _ _ _ _ _ _ H
set_option maxRecDepth 20000 in
theorem r_MO_copy_0 {G : GG} {d : Nat} {Q : Int32 → AH → Prop} (x1 : Int32) (x2 : Int32) (x3 : Int32) (x4 : Int32) (x5 : Int32) (h : AH) (H : p_MO_copy Q x1 x2 x3 x4 x5 h) : Att G T1 m_MO_copy (d + 1) 0 [some (.ref 59), some (.int x1), some (.int x2), some (.int x3), some (.int x4), some (.int x5), none, none, none, none] [] h 0 0 (iQ Q) := by
  refine A_iload_n d_MO_copy_0 rfl ?_
  refine A_iconst 0 (by decide) d_MO_copy_1 ?_
  refine A_iconst 3 (by decide) d_MO_copy_2 ?_
  refine A_cI [.int x1, .int 0, .int 3] [] (ct_MO_93 rfl) d_MO_copy_3 rfl rfl (by decide) (Nat.le_of_ble_eq_true rfl) trivial (ok_MO_in (d := d) H) (fun r2 h1 H => ?_)
  refine A_if_eq 18 d_MO_copy_6 (by decide) (fun z => ?_) (fun z => ?_)
  · have H := H.1 z
    refine A_bipush (-2) (by decide) d_MO_copy_18 ?_
    exact A_iret d_MO_copy_20 rfl rfl H
  · have H := H.2 z
    refine A_iload_n d_MO_copy_9 rfl ?_
    refine A_iconst 0 (by decide) d_MO_copy_10 ?_
    refine A_iconst 3 (by decide) d_MO_copy_11 ?_
    refine A_cI [.int x3, .int 0, .int 3] [] (ct_MO_93 rfl) d_MO_copy_12 rfl rfl (by decide) (Nat.le_of_ble_eq_true rfl) trivial (ok_MO_in (d := d) H) (fun r4 h3 H => ?_)
    refine A_if_ne 21 d_MO_copy_15 (by decide) (fun z => ?_) (fun z => ?_)
    · have H := H.1 z
      refine A_aload_n d_MO_copy_21 rfl ?_
      refine A_get (v := .ref 70) d_MO_copy_22 (fo_MO_40_12 rfl) (vA_s (by decide)) rfl (by first | rfl | (show Value.int _ = Value.int _; simp [wI, wL, wR, wC, up])) ?_
      refine A_iload_n d_MO_copy_25 rfl ?_
      obtain ⟨c5, H⟩ := H
      refine A_ialdv (n := 4) (v := (h3.1 70 x1)) d_MO_copy_26 (vA_s (by decide)) rfl c5 rfl ?_
      refine A_iconst (-1) (by decide) d_MO_copy_27 ?_
      refine A_icmp_eq 41 d_MO_copy_28 (by decide) (fun z => ?_) (fun z => ?_)
      · have H := H.1 z
        refine A_bipush (-11) (by decide) d_MO_copy_41 ?_
        exact A_iret d_MO_copy_43 rfl rfl H
      · have H := H.2 z
        refine A_aload_n d_MO_copy_31 rfl ?_
        refine A_get (v := .ref 70) d_MO_copy_32 (fo_MO_40_12 rfl) (vA_s (by decide)) rfl (by first | rfl | (show Value.int _ = Value.int _; simp [wI, wL, wR, wC, up])) ?_
        refine A_iload_n d_MO_copy_35 rfl ?_
        obtain ⟨c6, H⟩ := H
        refine A_ialdv (n := 4) (v := (h3.1 70 x3)) d_MO_copy_36 (vA_s (by decide)) rfl c6 rfl ?_
        refine A_iconst (-1) (by decide) d_MO_copy_37 ?_
        refine A_icmp_ne 44 d_MO_copy_38 (by decide) (fun z => ?_) (fun z => ?_)
        · have H := H.1 z
          refine A_aload_n d_MO_copy_44 rfl ?_
          refine A_get (v := .ref 70) d_MO_copy_45 (fo_MO_40_12 rfl) (vA_s (by decide)) rfl (by first | rfl | (show Value.int _ = Value.int _; simp [wI, wL, wR, wC, up])) ?_
          refine A_iload_n d_MO_copy_48 rfl ?_
          refine A_ialdv (n := 4) (v := (h3.1 70 x1)) d_MO_copy_49 (vA_s (by decide)) rfl c5 rfl ?_
          refine A_aload_n d_MO_copy_50 rfl ?_
          refine A_get (v := .ref 70) d_MO_copy_51 (fo_MO_40_12 rfl) (vA_s (by decide)) rfl (by first | rfl | (show Value.int _ = Value.int _; simp [wI, wL, wR, wC, up])) ?_
          refine A_iload_n d_MO_copy_54 rfl ?_
          refine A_ialdv (n := 4) (v := (h3.1 70 x3)) d_MO_copy_55 (vA_s (by decide)) rfl c6 rfl ?_
          refine A_icmp_eq 62 d_MO_copy_56 (by decide) (fun z => ?_) (fun z => ?_)
          · have H := H.1 z
            refine A_iload d_MO_copy_62 rfl ?_
            refine A_if_lt 124 d_MO_copy_64 (by decide) (fun z => ?_) (fun z => ?_)
            · have H := H.1 z
              refine A_bipush (-12) (by decide) d_MO_copy_124 ?_
              exact A_iret d_MO_copy_126 rfl rfl H
            · have H := H.2 z
              refine A_iload_n d_MO_copy_67 rfl ?_
              refine A_if_lt 124 d_MO_copy_68 (by decide) (fun z => ?_) (fun z => ?_)
              · have H := H.1 z
                refine A_bipush (-12) (by decide) d_MO_copy_124 ?_
                exact A_iret d_MO_copy_126 rfl rfl H
              · have H := H.2 z
                refine A_iload d_MO_copy_71 rfl ?_
                refine A_if_lt 124 d_MO_copy_73 (by decide) (fun z => ?_) (fun z => ?_)
                · have H := H.1 z
                  refine A_bipush (-12) (by decide) d_MO_copy_124 ?_
                  exact A_iret d_MO_copy_126 rfl rfl H
                · have H := H.2 z
                  refine A_iload_n d_MO_copy_76 rfl ?_
                  refine A_aload_n d_MO_copy_77 rfl ?_
                  refine A_get (v := .ref 71) d_MO_copy_78 (fo_MO_43_12 rfl) (vA_s (by decide)) rfl (by first | rfl | (show Value.int _ = Value.int _; simp [wI, wL, wR, wC, up])) ?_
                  refine A_iload_n d_MO_copy_81 rfl ?_
                  refine A_ialdv (n := 4) (v := (h3.1 71 x1)) d_MO_copy_82 (vA_s (by decide)) rfl c5 rfl ?_
                  refine A_icmp_gt 124 d_MO_copy_83 (by decide) (fun z => ?_) (fun z => ?_)
                  · have H := H.1 z
                    refine A_bipush (-12) (by decide) d_MO_copy_124 ?_
                    exact A_iret d_MO_copy_126 rfl rfl H
                  · have H := H.2 z
                    refine A_iload d_MO_copy_86 rfl ?_
                    refine A_aload_n d_MO_copy_88 rfl ?_
                    refine A_get (v := .ref 71) d_MO_copy_89 (fo_MO_43_12 rfl) (vA_s (by decide)) rfl (by first | rfl | (show Value.int _ = Value.int _; simp [wI, wL, wR, wC, up])) ?_
                    refine A_iload_n d_MO_copy_92 rfl ?_
                    refine A_ialdv (n := 4) (v := (h3.1 71 x3)) d_MO_copy_93 (vA_s (by decide)) rfl c6 rfl ?_
                    refine A_icmp_gt 124 d_MO_copy_94 (by decide) (fun z => ?_) (fun z => ?_)
                    · have H := H.1 z
                      refine A_bipush (-12) (by decide) d_MO_copy_124 ?_
                      exact A_iret d_MO_copy_126 rfl rfl H
                    · have H := H.2 z
                      refine A_iload d_MO_copy_97 rfl ?_
                      refine A_aload_n d_MO_copy_99 rfl ?_
                      refine A_get (v := .ref 71) d_MO_copy_100 (fo_MO_43_12 rfl) (vA_s (by decide)) rfl (by first | rfl | (show Value.int _ = Value.int _; simp [wI, wL, wR, wC, up])) ?_
                      refine A_iload_n d_MO_copy_103 rfl ?_
                      refine A_ialdv (n := 4) (v := (h3.1 71 x1)) d_MO_copy_104 (vA_s (by decide)) rfl c5 rfl ?_
                      refine A_iload_n d_MO_copy_105 rfl ?_
                      refine A_isub d_MO_copy_106 ?_
                      refine A_icmp_gt 124 d_MO_copy_107 (by decide) (fun z => ?_) (fun z => ?_)
                      · have H := H.1 z
                        refine A_bipush (-12) (by decide) d_MO_copy_124 ?_
                        exact A_iret d_MO_copy_126 rfl rfl H
                      · have H := H.2 z
                        refine A_iload d_MO_copy_110 rfl ?_
                        refine A_aload_n d_MO_copy_112 rfl ?_
                        refine A_get (v := .ref 71) d_MO_copy_113 (fo_MO_43_12 rfl) (vA_s (by decide)) rfl (by first | rfl | (show Value.int _ = Value.int _; simp [wI, wL, wR, wC, up])) ?_
                        refine A_iload_n d_MO_copy_116 rfl ?_
                        refine A_ialdv (n := 4) (v := (h3.1 71 x3)) d_MO_copy_117 (vA_s (by decide)) rfl c6 rfl ?_
                        refine A_iload d_MO_copy_118 rfl ?_
                        refine A_isub d_MO_copy_120 ?_
                        refine A_icmp_le 127 d_MO_copy_121 (by decide) (fun z => ?_) (fun z => ?_)
                        · have H := H.1 z
                          refine A_bipush 40 (by decide) d_MO_copy_127 ?_
                          refine A_iload_n d_MO_copy_129 rfl ?_
                          refine A_imul d_MO_copy_130 ?_
                          refine A_iload_n d_MO_copy_131 rfl ?_
                          refine A_iadd d_MO_copy_132 ?_
                          refine A_istore [some (.ref 59), some (.int x1), some (.int x2), some (.int x3), some (.int x4), some (.int x5), some (.int ((40 * x1) + x2)), none, none, none] d_MO_copy_133 (by decide) rfl rfl ?_
                          refine A_bipush 40 (by decide) d_MO_copy_135 ?_
                          refine A_iload_n d_MO_copy_137 rfl ?_
                          refine A_imul d_MO_copy_138 ?_
                          refine A_iload d_MO_copy_139 rfl ?_
                          refine A_iadd d_MO_copy_141 ?_
                          refine A_istore [some (.ref 59), some (.int x1), some (.int x2), some (.int x3), some (.int x4), some (.int x5), some (.int ((40 * x1) + x2)), some (.int ((40 * x3) + x4)), none, none] d_MO_copy_142 (by decide) rfl rfl ?_
                          refine A_iconst 0 (by decide) d_MO_copy_144 ?_
                          refine A_istore [some (.ref 59), some (.int x1), some (.int x2), some (.int x3), some (.int x4), some (.int x5), some (.int ((40 * x1) + x2)), some (.int ((40 * x3) + x4)), some (.int 0), none] d_MO_copy_145 (by decide) rfl rfl ?_
                          refine A_sub (L' := [some (.ref 59), none, none, none, none, some (.int x5), some (.int ((40 * x1) + x2)), some (.int ((40 * x3) + x4)), some (.int 0), none]) ⟨rfl, rfl, rfl, rfl, rfl, trivial⟩ ?_
                          obtain ⟨n9, H⟩ := H
                          exact r_MO_copy_147   n9 _ _ _ _ _ H
                        · have H := H.2 z
                          refine A_bipush (-12) (by decide) d_MO_copy_124 ?_
                          exact A_iret d_MO_copy_126 rfl rfl H
          · have H := H.2 z
            refine A_bipush (-13) (by decide) d_MO_copy_59 ?_
            exact A_iret d_MO_copy_61 rfl rfl H
        · have H := H.2 z
          refine A_bipush (-11) (by decide) d_MO_copy_41 ?_
          exact A_iret d_MO_copy_43 rfl rfl H
    · have H := H.2 z
      refine A_bipush (-2) (by decide) d_MO_copy_18 ?_
      exact A_iret d_MO_copy_20 rfl rfl H
set_option maxRecDepth 20000 in
theorem ok_MO_copy {G : GG} {d : Nat} {Q : Int32 → AH → Prop} {x1 : Int32} {x2 : Int32} {x3 : Int32} {x4 : Int32} {x5 : Int32} {h : AH} (H : p_MO_copy Q x1 x2 x3 x4 x5 h) : WP G T1 m_MO_copy (d + 1) [.ref 59, .int x1, .int x2, .int x3, .int x4, .int x5] h 0 0 (iQ Q) := by
  exact WP.enter 4 (by decide) rfl rfl (r_MO_copy_0 x1 x2 x3 x4 x5 h H)
