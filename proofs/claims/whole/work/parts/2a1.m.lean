theorem d_MO_peopleAll_0 : decode prog_14_method_8_code 0 = .ok (.iconst 0, 1) := by decide +kernel
theorem d_MO_peopleAll_1 : decode prog_14_method_8_code 1 = .ok (.istore_n 1, 1) := by decide +kernel
theorem d_MO_peopleAll_2 : decode prog_14_method_8_code 2 = .ok (.iconst 0, 1) := by decide +kernel
theorem d_MO_peopleAll_3 : decode prog_14_method_8_code 3 = .ok (.istore_n 2, 1) := by decide +kernel
theorem d_MO_peopleAll_4 : decode prog_14_method_8_code 4 = .ok (.iload_n 2, 1) := by decide +kernel
theorem d_MO_peopleAll_5 : decode prog_14_method_8_code 5 = .ok (.aload_n 0, 1) := by decide +kernel
theorem d_MO_peopleAll_6 : decode prog_14_method_8_code 6 = .ok (.getfield 90, 3) := by decide +kernel
theorem d_MO_peopleAll_9 : decode prog_14_method_8_code 9 = .ok (.if_icmp .ge 18, 3) := by decide +kernel
theorem d_MO_peopleAll_12 : decode prog_14_method_8_code 12 = .ok (.iload_n 1, 1) := by decide +kernel
theorem d_MO_peopleAll_13 : decode prog_14_method_8_code 13 = .ok (.aload_n 0, 1) := by decide +kernel
theorem d_MO_peopleAll_14 : decode prog_14_method_8_code 14 = .ok (.getfield 22, 3) := by decide +kernel
theorem d_MO_peopleAll_17 : decode prog_14_method_8_code 17 = .ok (.iload_n 2, 1) := by decide +kernel
theorem d_MO_peopleAll_18 : decode prog_14_method_8_code 18 = .ok (.iaload, 1) := by decide +kernel
theorem d_MO_peopleAll_19 : decode prog_14_method_8_code 19 = .ok (.iadd, 1) := by decide +kernel
theorem d_MO_peopleAll_20 : decode prog_14_method_8_code 20 = .ok (.istore_n 1, 1) := by decide +kernel
theorem d_MO_peopleAll_21 : decode prog_14_method_8_code 21 = .ok (.iinc 2 1, 3) := by decide +kernel
theorem d_MO_peopleAll_24 : decode prog_14_method_8_code 24 = .ok (.goto (-20), 3) := by decide +kernel
theorem d_MO_peopleAll_27 : decode prog_14_method_8_code 27 = .ok (.iload_n 1, 1) := by decide +kernel
theorem d_MO_peopleAll_28 : decode prog_14_method_8_code 28 = .ok (.ireturn, 1) := by decide +kernel
def p_MO_peopleAll_4 (Q : Int32 → AH → Prop) : Nat → Int32 → Int32 → AH → Prop
  | 0 => fun _ _ _ => False
  | n + 1 => fun x1 x2 h => let K4 := p_MO_peopleAll_4 Q n; (((h.1 59 0) ≤ x2 → Q x1 h) ∧ (¬ (h.1 59 0) ≤ x2 → inb x2 7 ∧ K4 (x1 + (h.1 64 x2)) (x2 + 1) h))
def p_MO_peopleAll (Q : Int32 → AH → Prop) (h : AH) : Prop := ∃ n, p_MO_peopleAll_4 Q   n 0 0 h
set_option maxRecDepth 20000 in
theorem r_MO_peopleAll_4 {G : GG} {d : Nat} {Q : Int32 → AH → Prop} : ∀ (n : Nat) (x1 : Int32) (x2 : Int32) (h : AH), p_MO_peopleAll_4 Q n x1 x2 h → Att G T1 m_MO_peopleAll d 4 [some (.ref 59), some (.int x1), some (.int x2)] [] h 0 0 (iQ Q) := by
  intro n
  induction n with
  | zero => intro x1 x2 h H; exact H.elim
  | succ n k4 =>
    intro x1 x2 h H
    refine A_iload_n d_MO_peopleAll_4 rfl ?_
    refine A_aload_n d_MO_peopleAll_5 rfl ?_
    refine A_get (v := .int (h.1 59 0)) d_MO_peopleAll_6 (fo_MO_90_12 rfl) (vA_s (by decide)) rfl (by first | rfl | (show Value.int _ = Value.int _; simp [wI, wL, wR, wC, up])) ?_
    refine A_icmp_ge 27 d_MO_peopleAll_9 (by decide) (fun z => ?_) (fun z => ?_)
    · have H := H.1 z
      refine A_iload_n d_MO_peopleAll_27 rfl ?_
      exact A_iret d_MO_peopleAll_28 rfl rfl H
    · have H := H.2 z
      refine A_iload_n d_MO_peopleAll_12 rfl ?_
      refine A_aload_n d_MO_peopleAll_13 rfl ?_
      refine A_get (v := .ref 64) d_MO_peopleAll_14 (fo_MO_22_12 rfl) (vA_s (by decide)) rfl (by first | rfl | (show Value.int _ = Value.int _; simp [wI, wL, wR, wC, up])) ?_
      refine A_iload_n d_MO_peopleAll_17 rfl ?_
      obtain ⟨c1, H⟩ := H
      refine A_ialdv (n := 7) (v := (h.1 64 x2)) d_MO_peopleAll_18 (vA_s (by decide)) rfl c1 rfl ?_
      refine A_iadd d_MO_peopleAll_19 ?_
      refine A_istore_n [some (.ref 59), some (.int (x1 + (h.1 64 x2))), some (.int x2)] d_MO_peopleAll_20 (by decide) rfl rfl ?_
      refine A_iinc 1 [some (.ref 59), some (.int (x1 + (h.1 64 x2))), some (.int (x2 + 1))] d_MO_peopleAll_21 rfl (by decide) (by decide) rfl rfl ?_
      refine A_goto 4 d_MO_peopleAll_24 (by decide) ?_
      exact k4 _ _ _ H
set_option maxRecDepth 20000 in
theorem r_MO_peopleAll_0 {G : GG} {d : Nat} {Q : Int32 → AH → Prop} (h : AH) (H : p_MO_peopleAll Q h) : Att G T1 m_MO_peopleAll d 0 [some (.ref 59), none, none] [] h 0 0 (iQ Q) := by
  refine A_iconst 0 (by decide) d_MO_peopleAll_0 ?_
  refine A_istore_n [some (.ref 59), some (.int 0), none] d_MO_peopleAll_1 (by decide) rfl rfl ?_
  refine A_iconst 0 (by decide) d_MO_peopleAll_2 ?_
  refine A_istore_n [some (.ref 59), some (.int 0), some (.int 0)] d_MO_peopleAll_3 (by decide) rfl rfl ?_
  obtain ⟨n9, H⟩ := H
  exact r_MO_peopleAll_4   n9 _ _ _ H
set_option maxRecDepth 20000 in
theorem ok_MO_peopleAll {G : GG} {d : Nat} {Q : Int32 → AH → Prop} {h : AH} (H : p_MO_peopleAll Q h) : WP G T1 m_MO_peopleAll d [.ref 59] h 0 0 (iQ Q) := by
  exact WP.enter 2 (by decide) rfl rfl (r_MO_peopleAll_0 h H)
theorem d_MO_two_0 : decode prog_14_method_23_code 0 = .ok (.iload_n 0, 1) := by decide +kernel
theorem d_MO_two_1 : decode prog_14_method_23_code 1 = .ok (.tableswitch 101 11 17 #[43, 57, 101, 71, 82, 93, 97], 43) := by decide +kernel
theorem d_MO_two_44 : decode prog_14_method_23_code 44 = .ok (.iload_n 1, 1) := by decide +kernel
theorem d_MO_two_45 : decode prog_14_method_23_code 45 = .ok (.ifCond .ne 7, 3) := by decide +kernel
theorem d_MO_two_48 : decode prog_14_method_23_code 48 = .ok (.iload_n 2, 1) := by decide +kernel
theorem d_MO_two_49 : decode prog_14_method_23_code 49 = .ok (.ifCond .eq 7, 3) := by decide +kernel
theorem d_MO_two_52 : decode prog_14_method_23_code 52 = .ok (.iconst 1, 1) := by decide +kernel
theorem d_MO_two_53 : decode prog_14_method_23_code 53 = .ok (.goto 4, 3) := by decide +kernel
theorem d_MO_two_56 : decode prog_14_method_23_code 56 = .ok (.iconst 0, 1) := by decide +kernel
theorem d_MO_two_57 : decode prog_14_method_23_code 57 = .ok (.ireturn, 1) := by decide +kernel
theorem d_MO_two_58 : decode prog_14_method_23_code 58 = .ok (.iload_n 1, 1) := by decide +kernel
theorem d_MO_two_59 : decode prog_14_method_23_code 59 = .ok (.ifCond .eq 11, 3) := by decide +kernel
theorem d_MO_two_62 : decode prog_14_method_23_code 62 = .ok (.iload_n 2, 1) := by decide +kernel
theorem d_MO_two_63 : decode prog_14_method_23_code 63 = .ok (.ifCond .eq 7, 3) := by decide +kernel
theorem d_MO_two_66 : decode prog_14_method_23_code 66 = .ok (.iconst 1, 1) := by decide +kernel
theorem d_MO_two_67 : decode prog_14_method_23_code 67 = .ok (.goto 4, 3) := by decide +kernel
theorem d_MO_two_70 : decode prog_14_method_23_code 70 = .ok (.iconst 0, 1) := by decide +kernel
theorem d_MO_two_71 : decode prog_14_method_23_code 71 = .ok (.ireturn, 1) := by decide +kernel
theorem d_MO_two_72 : decode prog_14_method_23_code 72 = .ok (.iload_n 1, 1) := by decide +kernel
theorem d_MO_two_73 : decode prog_14_method_23_code 73 = .ok (.iload_n 2, 1) := by decide +kernel
theorem d_MO_two_74 : decode prog_14_method_23_code 74 = .ok (.if_icmp .ge 7, 3) := by decide +kernel
theorem d_MO_two_77 : decode prog_14_method_23_code 77 = .ok (.iconst 1, 1) := by decide +kernel
theorem d_MO_two_78 : decode prog_14_method_23_code 78 = .ok (.goto 4, 3) := by decide +kernel
theorem d_MO_two_81 : decode prog_14_method_23_code 81 = .ok (.iconst 0, 1) := by decide +kernel
theorem d_MO_two_82 : decode prog_14_method_23_code 82 = .ok (.ireturn, 1) := by decide +kernel
theorem d_MO_two_83 : decode prog_14_method_23_code 83 = .ok (.iload_n 1, 1) := by decide +kernel
theorem d_MO_two_84 : decode prog_14_method_23_code 84 = .ok (.iload_n 2, 1) := by decide +kernel
theorem d_MO_two_85 : decode prog_14_method_23_code 85 = .ok (.if_icmp .ne 7, 3) := by decide +kernel
theorem d_MO_two_88 : decode prog_14_method_23_code 88 = .ok (.iconst 1, 1) := by decide +kernel
theorem d_MO_two_89 : decode prog_14_method_23_code 89 = .ok (.goto 4, 3) := by decide +kernel
theorem d_MO_two_92 : decode prog_14_method_23_code 92 = .ok (.iconst 0, 1) := by decide +kernel
theorem d_MO_two_93 : decode prog_14_method_23_code 93 = .ok (.ireturn, 1) := by decide +kernel
theorem d_MO_two_94 : decode prog_14_method_23_code 94 = .ok (.iload_n 1, 1) := by decide +kernel
theorem d_MO_two_95 : decode prog_14_method_23_code 95 = .ok (.iload_n 2, 1) := by decide +kernel
theorem d_MO_two_96 : decode prog_14_method_23_code 96 = .ok (.iadd, 1) := by decide +kernel
theorem d_MO_two_97 : decode prog_14_method_23_code 97 = .ok (.ireturn, 1) := by decide +kernel
theorem d_MO_two_98 : decode prog_14_method_23_code 98 = .ok (.iload_n 1, 1) := by decide +kernel
theorem d_MO_two_99 : decode prog_14_method_23_code 99 = .ok (.iload_n 2, 1) := by decide +kernel
theorem d_MO_two_100 : decode prog_14_method_23_code 100 = .ok (.isub, 1) := by decide +kernel
theorem d_MO_two_101 : decode prog_14_method_23_code 101 = .ok (.ireturn, 1) := by decide +kernel
theorem d_MO_two_102 : decode prog_14_method_23_code 102 = .ok (.iload_n 1, 1) := by decide +kernel
theorem d_MO_two_103 : decode prog_14_method_23_code 103 = .ok (.iload_n 2, 1) := by decide +kernel
theorem d_MO_two_104 : decode prog_14_method_23_code 104 = .ok (.imul, 1) := by decide +kernel
theorem d_MO_two_105 : decode prog_14_method_23_code 105 = .ok (.ireturn, 1) := by decide +kernel
def p_MO_two (Q : Int32 → AH → Prop) (x0 : Int32) (x1 : Int32) (x2 : Int32) (h : AH) : Prop := ((x0 = 11 → ((¬ x1 = 0 → Q 1 h) ∧ (x1 = 0 → ((x2 = 0 → Q 0 h) ∧ (¬ x2 = 0 → Q 1 h))))) ∧ (x0 = 12 → ((x1 = 0 → Q 0 h) ∧ (¬ x1 = 0 → ((x2 = 0 → Q 0 h) ∧ (¬ x2 = 0 → Q 1 h))))) ∧ (x0 = 13 → Q (x1 * x2) h) ∧ (x0 = 14 → ((x2 ≤ x1 → Q 0 h) ∧ (¬ x2 ≤ x1 → Q 1 h))) ∧ (x0 = 15 → ((¬ x1 = x2 → Q 0 h) ∧ (x1 = x2 → Q 1 h))) ∧ (x0 = 16 → Q (x1 + x2) h) ∧ (x0 = 17 → Q (x1 - x2) h) ∧ (¬ x0 = 11 → ¬ x0 = 12 → ¬ x0 = 13 → ¬ x0 = 14 → ¬ x0 = 15 → ¬ x0 = 16 → ¬ x0 = 17 → Q (x1 * x2) h))
set_option maxRecDepth 20000 in
theorem r_MO_two_0 {G : GG} {d : Nat} {Q : Int32 → AH → Prop} (x0 : Int32) (x1 : Int32) (x2 : Int32) (h : AH) (H : p_MO_two Q x0 x1 x2 h) : Att G T1 m_MO_two d 0 [some (.int x0), some (.int x1), some (.int x2)] [] h 0 0 (iQ Q) := by
  refine A_iload_n d_MO_two_0 rfl ?_
  by_cases z0 : x0 = 11
  · have H := H.1 z0
    refine A_tsI 44 d_MO_two_1 (by rw [z0]; decide) (by rw [z0]; decide) (by rw [z0]; rfl) (by decide) ?_
    refine A_iload_n d_MO_two_44 rfl ?_
    refine A_if_ne 52 d_MO_two_45 (by decide) (fun z => ?_) (fun z => ?_)
    · have H := H.1 z
      refine A_iconst 1 (by decide) d_MO_two_52 ?_
      refine A_goto 57 d_MO_two_53 (by decide) ?_
      exact A_iret d_MO_two_57 rfl rfl H
    · have H := H.2 z
      refine A_iload_n d_MO_two_48 rfl ?_
      refine A_if_eq 56 d_MO_two_49 (by decide) (fun z => ?_) (fun z => ?_)
      · have H := H.1 z
        refine A_iconst 0 (by decide) d_MO_two_56 ?_
        exact A_iret d_MO_two_57 rfl rfl H
      · have H := H.2 z
        refine A_iconst 1 (by decide) d_MO_two_52 ?_
        refine A_goto 57 d_MO_two_53 (by decide) ?_
        exact A_iret d_MO_two_57 rfl rfl H
  · have H := H.2
    by_cases z1 : x0 = 12
    · have H := H.1 z1
      refine A_tsI 58 d_MO_two_1 (by rw [z1]; decide) (by rw [z1]; decide) (by rw [z1]; rfl) (by decide) ?_
      refine A_iload_n d_MO_two_58 rfl ?_
      refine A_if_eq 70 d_MO_two_59 (by decide) (fun z => ?_) (fun z => ?_)
      · have H := H.1 z
        refine A_iconst 0 (by decide) d_MO_two_70 ?_
        exact A_iret d_MO_two_71 rfl rfl H
      · have H := H.2 z
        refine A_iload_n d_MO_two_62 rfl ?_
        refine A_if_eq 70 d_MO_two_63 (by decide) (fun z => ?_) (fun z => ?_)
        · have H := H.1 z
          refine A_iconst 0 (by decide) d_MO_two_70 ?_
          exact A_iret d_MO_two_71 rfl rfl H
        · have H := H.2 z
          refine A_iconst 1 (by decide) d_MO_two_66 ?_
          refine A_goto 71 d_MO_two_67 (by decide) ?_
          exact A_iret d_MO_two_71 rfl rfl H
    · have H := H.2
      by_cases z2 : x0 = 13
      · have H := H.1 z2
        refine A_tsI 102 d_MO_two_1 (by rw [z2]; decide) (by rw [z2]; decide) (by rw [z2]; rfl) (by decide) ?_
        refine A_iload_n d_MO_two_102 rfl ?_
        refine A_iload_n d_MO_two_103 rfl ?_
        refine A_imul d_MO_two_104 ?_
        exact A_iret d_MO_two_105 rfl rfl H
      · have H := H.2
        by_cases z3 : x0 = 14
        · have H := H.1 z3
          refine A_tsI 72 d_MO_two_1 (by rw [z3]; decide) (by rw [z3]; decide) (by rw [z3]; rfl) (by decide) ?_
          refine A_iload_n d_MO_two_72 rfl ?_
          refine A_iload_n d_MO_two_73 rfl ?_
          refine A_icmp_ge 81 d_MO_two_74 (by decide) (fun z => ?_) (fun z => ?_)
          · have H := H.1 z
            refine A_iconst 0 (by decide) d_MO_two_81 ?_
            exact A_iret d_MO_two_82 rfl rfl H
          · have H := H.2 z
            refine A_iconst 1 (by decide) d_MO_two_77 ?_
            refine A_goto 82 d_MO_two_78 (by decide) ?_
            exact A_iret d_MO_two_82 rfl rfl H
        · have H := H.2
          by_cases z4 : x0 = 15
          · have H := H.1 z4
            refine A_tsI 83 d_MO_two_1 (by rw [z4]; decide) (by rw [z4]; decide) (by rw [z4]; rfl) (by decide) ?_
            refine A_iload_n d_MO_two_83 rfl ?_
            refine A_iload_n d_MO_two_84 rfl ?_
            refine A_icmp_ne 92 d_MO_two_85 (by decide) (fun z => ?_) (fun z => ?_)
            · have H := H.1 z
              refine A_iconst 0 (by decide) d_MO_two_92 ?_
              exact A_iret d_MO_two_93 rfl rfl H
            · have H := H.2 z
              refine A_iconst 1 (by decide) d_MO_two_88 ?_
              refine A_goto 93 d_MO_two_89 (by decide) ?_
              exact A_iret d_MO_two_93 rfl rfl H
          · have H := H.2
            by_cases z5 : x0 = 16
            · have H := H.1 z5
              refine A_tsI 94 d_MO_two_1 (by rw [z5]; decide) (by rw [z5]; decide) (by rw [z5]; rfl) (by decide) ?_
              refine A_iload_n d_MO_two_94 rfl ?_
              refine A_iload_n d_MO_two_95 rfl ?_
              refine A_iadd d_MO_two_96 ?_
              exact A_iret d_MO_two_97 rfl rfl H
            · have H := H.2
              by_cases z6 : x0 = 17
              · have H := H.1 z6
                refine A_tsI 98 d_MO_two_1 (by rw [z6]; decide) (by rw [z6]; decide) (by rw [z6]; rfl) (by decide) ?_
                refine A_iload_n d_MO_two_98 rfl ?_
                refine A_iload_n d_MO_two_99 rfl ?_
                refine A_isub d_MO_two_100 ?_
                exact A_iret d_MO_two_101 rfl rfl H
              · have H := H.2
                have H := H z0 z1 z2 z3 z4 z5 z6
                refine A_tsO 102 d_MO_two_1 (by have t0 := lv_neT z0 (a := 11) (by decide); have t1 := lv_neT z1 (a := 12) (by decide); have t2 := lv_neT z2 (a := 13) (by decide); have t3 := lv_neT z3 (a := 14) (by decide); have t4 := lv_neT z4 (a := 15) (by decide); have t5 := lv_neT z5 (a := 16) (by decide); have t6 := lv_neT z6 (a := 17) (by decide); omega) (by decide) ?_
                refine A_iload_n d_MO_two_102 rfl ?_
                refine A_iload_n d_MO_two_103 rfl ?_
                refine A_imul d_MO_two_104 ?_
                exact A_iret d_MO_two_105 rfl rfl H
set_option maxRecDepth 20000 in
theorem ok_MO_two {G : GG} {d : Nat} {Q : Int32 → AH → Prop} {x0 : Int32} {x1 : Int32} {x2 : Int32} {h : AH} (H : p_MO_two Q x0 x1 x2 h) : WP G T1 m_MO_two d [.int x0, .int x1, .int x2] h 0 0 (iQ Q) := by
  exact WP.enter 0 (by decide) rfl rfl (r_MO_two_0 x0 x1 x2 h H)
theorem d_MO_within_0 : decode prog_14_method_4_code 0 = .ok (.iload_n 0, 1) := by decide +kernel
theorem d_MO_within_1 : decode prog_14_method_4_code 1 = .ok (.iload_n 1, 1) := by decide +kernel
theorem d_MO_within_2 : decode prog_14_method_4_code 2 = .ok (.if_icmp .ge 7, 3) := by decide +kernel
theorem d_MO_within_5 : decode prog_14_method_4_code 5 = .ok (.iload_n 1, 1) := by decide +kernel
theorem d_MO_within_6 : decode prog_14_method_4_code 6 = .ok (.goto 13, 3) := by decide +kernel
theorem d_MO_within_9 : decode prog_14_method_4_code 9 = .ok (.iload_n 0, 1) := by decide +kernel
theorem d_MO_within_10 : decode prog_14_method_4_code 10 = .ok (.iload_n 2, 1) := by decide +kernel
theorem d_MO_within_11 : decode prog_14_method_4_code 11 = .ok (.if_icmp .le 7, 3) := by decide +kernel
theorem d_MO_within_14 : decode prog_14_method_4_code 14 = .ok (.iload_n 2, 1) := by decide +kernel
theorem d_MO_within_15 : decode prog_14_method_4_code 15 = .ok (.goto 4, 3) := by decide +kernel
theorem d_MO_within_18 : decode prog_14_method_4_code 18 = .ok (.iload_n 0, 1) := by decide +kernel
theorem d_MO_within_19 : decode prog_14_method_4_code 19 = .ok (.ireturn, 1) := by decide +kernel
def p_MO_within (Q : Int32 → AH → Prop) (x0 : Int32) (x1 : Int32) (x2 : Int32) (h : AH) : Prop := ((x1 ≤ x0 → ((x0 ≤ x2 → Q x0 h) ∧ (¬ x0 ≤ x2 → Q x2 h))) ∧ (¬ x1 ≤ x0 → Q x1 h))
set_option maxRecDepth 20000 in
theorem r_MO_within_0 {G : GG} {d : Nat} {Q : Int32 → AH → Prop} (x0 : Int32) (x1 : Int32) (x2 : Int32) (h : AH) (H : p_MO_within Q x0 x1 x2 h) : Att G T1 m_MO_within d 0 [some (.int x0), some (.int x1), some (.int x2)] [] h 0 0 (iQ Q) := by
  refine A_iload_n d_MO_within_0 rfl ?_
  refine A_iload_n d_MO_within_1 rfl ?_
  refine A_icmp_ge 9 d_MO_within_2 (by decide) (fun z => ?_) (fun z => ?_)
  · have H := H.1 z
    refine A_iload_n d_MO_within_9 rfl ?_
    refine A_iload_n d_MO_within_10 rfl ?_
    refine A_icmp_le 18 d_MO_within_11 (by decide) (fun z => ?_) (fun z => ?_)
    · have H := H.1 z
      refine A_iload_n d_MO_within_18 rfl ?_
      exact A_iret d_MO_within_19 rfl rfl H
    · have H := H.2 z
      refine A_iload_n d_MO_within_14 rfl ?_
      refine A_goto 19 d_MO_within_15 (by decide) ?_
      exact A_iret d_MO_within_19 rfl rfl H
  · have H := H.2 z
    refine A_iload_n d_MO_within_5 rfl ?_
    refine A_goto 19 d_MO_within_6 (by decide) ?_
    exact A_iret d_MO_within_19 rfl rfl H
set_option maxRecDepth 20000 in
theorem ok_MO_within {G : GG} {d : Nat} {Q : Int32 → AH → Prop} {x0 : Int32} {x1 : Int32} {x2 : Int32} {h : AH} (H : p_MO_within Q x0 x1 x2 h) : WP G T1 m_MO_within d [.int x0, .int x1, .int x2] h 0 0 (iQ Q) := by
  exact WP.enter 0 (by decide) rfl rfl (r_MO_within_0 x0 x1 x2 h H)
theorem d_MO_comesFree_0 : decode prog_14_method_31_code 0 = .ok (.aload_n 0, 1) := by decide +kernel
theorem d_MO_comesFree_1 : decode prog_14_method_31_code 1 = .ok (.getfield 25, 3) := by decide +kernel
theorem d_MO_comesFree_4 : decode prog_14_method_31_code 4 = .ok (.iload_n 1, 1) := by decide +kernel
theorem d_MO_comesFree_5 : decode prog_14_method_31_code 5 = .ok (.iaload, 1) := by decide +kernel
theorem d_MO_comesFree_6 : decode prog_14_method_31_code 6 = .ok (.istore_n 2, 1) := by decide +kernel
theorem d_MO_comesFree_7 : decode prog_14_method_31_code 7 = .ok (.iload_n 2, 1) := by decide +kernel
theorem d_MO_comesFree_8 : decode prog_14_method_31_code 8 = .ok (.iconst (-1), 1) := by decide +kernel
theorem d_MO_comesFree_9 : decode prog_14_method_31_code 9 = .ok (.if_icmp .eq 17, 3) := by decide +kernel
theorem d_MO_comesFree_12 : decode prog_14_method_31_code 12 = .ok (.aload_n 0, 1) := by decide +kernel
theorem d_MO_comesFree_13 : decode prog_14_method_31_code 13 = .ok (.getfield 25, 3) := by decide +kernel
theorem d_MO_comesFree_16 : decode prog_14_method_31_code 16 = .ok (.iload_n 2, 1) := by decide +kernel
theorem d_MO_comesFree_17 : decode prog_14_method_31_code 17 = .ok (.iconst (-1), 1) := by decide +kernel
theorem d_MO_comesFree_18 : decode prog_14_method_31_code 18 = .ok (.iastore, 1) := by decide +kernel
theorem d_MO_comesFree_19 : decode prog_14_method_31_code 19 = .ok (.aload_n 0, 1) := by decide +kernel
theorem d_MO_comesFree_20 : decode prog_14_method_31_code 20 = .ok (.getfield 25, 3) := by decide +kernel
theorem d_MO_comesFree_23 : decode prog_14_method_31_code 23 = .ok (.iload_n 1, 1) := by decide +kernel
theorem d_MO_comesFree_24 : decode prog_14_method_31_code 24 = .ok (.iconst (-1), 1) := by decide +kernel
theorem d_MO_comesFree_25 : decode prog_14_method_31_code 25 = .ok (.iastore, 1) := by decide +kernel
theorem d_MO_comesFree_26 : decode prog_14_method_31_code 26 = .ok (.return_, 1) := by decide +kernel
def p_MO_comesFree (Q : AH → Prop) (x1 : Int32) (h : AH) : Prop := inb x1 7 ∧ (((h.1 65 x1) = (-1) → Q h) ∧ (¬ (h.1 65 x1) = (-1) → inb (h.1 65 x1) 7 ∧ Q (wI (wI h 65 (h.1 65 x1) (-1)) 65 x1 (-1))))
set_option maxRecDepth 20000 in
theorem r_MO_comesFree_0 {G : GG} {d : Nat} {Q : AH → Prop} (x1 : Int32) (h : AH) (H : p_MO_comesFree Q x1 h) : Att G T1 m_MO_comesFree d 0 [some (.ref 59), some (.int x1), none] [] h 0 0 (vQ Q) := by
  refine A_aload_n d_MO_comesFree_0 rfl ?_
  refine A_get (v := .ref 65) d_MO_comesFree_1 (fo_MO_25_12 rfl) (vA_s (by decide)) rfl (by first | rfl | (show Value.int _ = Value.int _; simp [wI, wL, wR, wC, up])) ?_
  refine A_iload_n d_MO_comesFree_4 rfl ?_
  obtain ⟨c1, H⟩ := H
  refine A_ialdv (n := 7) (v := (h.1 65 x1)) d_MO_comesFree_5 (vA_s (by decide)) rfl c1 rfl ?_
  refine A_istore_n [some (.ref 59), some (.int x1), some (.int (h.1 65 x1))] d_MO_comesFree_6 (by decide) rfl rfl ?_
  refine A_iload_n d_MO_comesFree_7 rfl ?_
  refine A_iconst (-1) (by decide) d_MO_comesFree_8 ?_
  refine A_icmp_eq 26 d_MO_comesFree_9 (by decide) (fun z => ?_) (fun z => ?_)
  · have H := H.1 z
    exact A_ret d_MO_comesFree_26 rfl H
  · have H := H.2 z
    refine A_aload_n d_MO_comesFree_12 rfl ?_
    refine A_get (v := .ref 65) d_MO_comesFree_13 (fo_MO_25_12 rfl) (vA_s (by decide)) rfl (by first | rfl | (show Value.int _ = Value.int _; simp [wI, wL, wR, wC, up])) ?_
    refine A_iload_n d_MO_comesFree_16 rfl ?_
    refine A_iconst (-1) (by decide) d_MO_comesFree_17 ?_
    obtain ⟨c2, H⟩ := H
    refine A_iast (n := 7) d_MO_comesFree_18 (vA_s (by decide)) rfl c2 ?_
    refine A_aload_n d_MO_comesFree_19 rfl ?_
    refine A_get (v := .ref 65) d_MO_comesFree_20 (fo_MO_25_12 rfl) (vA_s (by decide)) rfl (by first | rfl | (show Value.int _ = Value.int _; simp [wI, wL, wR, wC, up])) ?_
    refine A_iload_n d_MO_comesFree_23 rfl ?_
    refine A_iconst (-1) (by decide) d_MO_comesFree_24 ?_
    refine A_iast (n := 7) d_MO_comesFree_25 (vA_s (by decide)) rfl c1 ?_
    exact A_ret d_MO_comesFree_26 rfl H
set_option maxRecDepth 20000 in
theorem ok_MO_comesFree {G : GG} {d : Nat} {Q : AH → Prop} {x1 : Int32} {h : AH} (H : p_MO_comesFree Q x1 h) : WP G T1 m_MO_comesFree d [.ref 59, .int x1] h 0 0 (vQ Q) := by
  exact WP.enter 1 (by decide) rfl rfl (r_MO_comesFree_0 x1 h H)
theorem d_MO_isFree_0 : decode prog_14_method_37_code 0 = .ok (.aload_n 0, 1) := by decide +kernel
theorem d_MO_isFree_1 : decode prog_14_method_37_code 1 = .ok (.getfield 7, 3) := by decide +kernel
theorem d_MO_isFree_4 : decode prog_14_method_37_code 4 = .ok (.iload_n 1, 1) := by decide +kernel
theorem d_MO_isFree_5 : decode prog_14_method_37_code 5 = .ok (.iaload, 1) := by decide +kernel
theorem d_MO_isFree_6 : decode prog_14_method_37_code 6 = .ok (.iconst 4, 1) := by decide +kernel
theorem d_MO_isFree_7 : decode prog_14_method_37_code 7 = .ok (.if_icmp .ne 26, 3) := by decide +kernel
theorem d_MO_isFree_10 : decode prog_14_method_37_code 10 = .ok (.aload_n 0, 1) := by decide +kernel
theorem d_MO_isFree_11 : decode prog_14_method_37_code 11 = .ok (.getfield 64, 3) := by decide +kernel
theorem d_MO_isFree_14 : decode prog_14_method_37_code 14 = .ok (.iload_n 1, 1) := by decide +kernel
theorem d_MO_isFree_15 : decode prog_14_method_37_code 15 = .ok (.iaload, 1) := by decide +kernel
theorem d_MO_isFree_16 : decode prog_14_method_37_code 16 = .ok (.aload_n 0, 1) := by decide +kernel
theorem d_MO_isFree_17 : decode prog_14_method_37_code 17 = .ok (.getfield 16, 3) := by decide +kernel
theorem d_MO_isFree_20 : decode prog_14_method_37_code 20 = .ok (.iload_n 1, 1) := by decide +kernel
theorem d_MO_isFree_21 : decode prog_14_method_37_code 21 = .ok (.iaload, 1) := by decide +kernel
theorem d_MO_isFree_22 : decode prog_14_method_37_code 22 = .ok (.if_icmp .eq 7, 3) := by decide +kernel
theorem d_MO_isFree_25 : decode prog_14_method_37_code 25 = .ok (.iconst 1, 1) := by decide +kernel
theorem d_MO_isFree_26 : decode prog_14_method_37_code 26 = .ok (.goto 32, 3) := by decide +kernel
theorem d_MO_isFree_29 : decode prog_14_method_37_code 29 = .ok (.iconst 0, 1) := by decide +kernel
theorem d_MO_isFree_30 : decode prog_14_method_37_code 30 = .ok (.goto 28, 3) := by decide +kernel
theorem d_MO_isFree_33 : decode prog_14_method_37_code 33 = .ok (.aload_n 0, 1) := by decide +kernel
theorem d_MO_isFree_34 : decode prog_14_method_37_code 34 = .ok (.getfield 7, 3) := by decide +kernel
theorem d_MO_isFree_37 : decode prog_14_method_37_code 37 = .ok (.iload_n 1, 1) := by decide +kernel
theorem d_MO_isFree_38 : decode prog_14_method_37_code 38 = .ok (.iaload, 1) := by decide +kernel
theorem d_MO_isFree_39 : decode prog_14_method_37_code 39 = .ok (.iconst 5, 1) := by decide +kernel
theorem d_MO_isFree_40 : decode prog_14_method_37_code 40 = .ok (.if_icmp .ne 13, 3) := by decide +kernel
theorem d_MO_isFree_43 : decode prog_14_method_37_code 43 = .ok (.iload_n 2, 1) := by decide +kernel
theorem d_MO_isFree_44 : decode prog_14_method_37_code 44 = .ok (.aload_n 0, 1) := by decide +kernel
theorem d_MO_isFree_45 : decode prog_14_method_37_code 45 = .ok (.getfield 16, 3) := by decide +kernel
theorem d_MO_isFree_48 : decode prog_14_method_37_code 48 = .ok (.iload_n 1, 1) := by decide +kernel
theorem d_MO_isFree_49 : decode prog_14_method_37_code 49 = .ok (.iaload, 1) := by decide +kernel
theorem d_MO_isFree_50 : decode prog_14_method_37_code 50 = .ok (.if_icmp .lt 7, 3) := by decide +kernel
theorem d_MO_isFree_53 : decode prog_14_method_37_code 53 = .ok (.iconst 1, 1) := by decide +kernel
theorem d_MO_isFree_54 : decode prog_14_method_37_code 54 = .ok (.goto 4, 3) := by decide +kernel
theorem d_MO_isFree_57 : decode prog_14_method_37_code 57 = .ok (.iconst 0, 1) := by decide +kernel
theorem d_MO_isFree_58 : decode prog_14_method_37_code 58 = .ok (.ireturn, 1) := by decide +kernel
def p_MO_isFree (Q : Int32 → AH → Prop) (x1 : Int32) (x2 : Int32) (h : AH) : Prop := inb x1 7 ∧ ((¬ (h.1 60 x1) = 4 → ((¬ (h.1 60 x1) = 5 → Q 1 h) ∧ ((h.1 60 x1) = 5 → ((x2 < (h.1 62 x1) → Q 0 h) ∧ (¬ x2 < (h.1 62 x1) → Q 1 h))))) ∧ ((h.1 60 x1) = 4 → (((h.1 78 x1) = (h.1 62 x1) → Q 0 h) ∧ (¬ (h.1 78 x1) = (h.1 62 x1) → Q 1 h))))
set_option maxRecDepth 20000 in
theorem r_MO_isFree_0 {G : GG} {d : Nat} {Q : Int32 → AH → Prop} (x1 : Int32) (x2 : Int32) (h : AH) (H : p_MO_isFree Q x1 x2 h) : Att G T1 m_MO_isFree d 0 [some (.ref 59), some (.int x1), some (.int x2)] [] h 0 0 (iQ Q) := by
  refine A_aload_n d_MO_isFree_0 rfl ?_
  refine A_get (v := .ref 60) d_MO_isFree_1 (fo_MO_7_12 rfl) (vA_s (by decide)) rfl (by first | rfl | (show Value.int _ = Value.int _; simp [wI, wL, wR, wC, up])) ?_
  refine A_iload_n d_MO_isFree_4 rfl ?_
  obtain ⟨c1, H⟩ := H
  refine A_ialdv (n := 7) (v := (h.1 60 x1)) d_MO_isFree_5 (vA_s (by decide)) rfl c1 rfl ?_
  refine A_iconst 4 (by decide) d_MO_isFree_6 ?_
  refine A_icmp_ne 33 d_MO_isFree_7 (by decide) (fun z => ?_) (fun z => ?_)
  · have H := H.1 z
    refine A_aload_n d_MO_isFree_33 rfl ?_
    refine A_get (v := .ref 60) d_MO_isFree_34 (fo_MO_7_12 rfl) (vA_s (by decide)) rfl (by first | rfl | (show Value.int _ = Value.int _; simp [wI, wL, wR, wC, up])) ?_
    refine A_iload_n d_MO_isFree_37 rfl ?_
    refine A_ialdv (n := 7) (v := (h.1 60 x1)) d_MO_isFree_38 (vA_s (by decide)) rfl c1 rfl ?_
    refine A_iconst 5 (by decide) d_MO_isFree_39 ?_
    refine A_icmp_ne 53 d_MO_isFree_40 (by decide) (fun z => ?_) (fun z => ?_)
    · have H := H.1 z
      refine A_iconst 1 (by decide) d_MO_isFree_53 ?_
      refine A_goto 58 d_MO_isFree_54 (by decide) ?_
      exact A_iret d_MO_isFree_58 rfl rfl H
    · have H := H.2 z
      refine A_iload_n d_MO_isFree_43 rfl ?_
      refine A_aload_n d_MO_isFree_44 rfl ?_
      refine A_get (v := .ref 62) d_MO_isFree_45 (fo_MO_16_12 rfl) (vA_s (by decide)) rfl (by first | rfl | (show Value.int _ = Value.int _; simp [wI, wL, wR, wC, up])) ?_
      refine A_iload_n d_MO_isFree_48 rfl ?_
      refine A_ialdv (n := 7) (v := (h.1 62 x1)) d_MO_isFree_49 (vA_s (by decide)) rfl c1 rfl ?_
      refine A_icmp_lt 57 d_MO_isFree_50 (by decide) (fun z => ?_) (fun z => ?_)
      · have H := H.1 z
        refine A_iconst 0 (by decide) d_MO_isFree_57 ?_
        exact A_iret d_MO_isFree_58 rfl rfl H
      · have H := H.2 z
        refine A_iconst 1 (by decide) d_MO_isFree_53 ?_
        refine A_goto 58 d_MO_isFree_54 (by decide) ?_
        exact A_iret d_MO_isFree_58 rfl rfl H
  · have H := H.2 z
    refine A_aload_n d_MO_isFree_10 rfl ?_
    refine A_get (v := .ref 78) d_MO_isFree_11 (fo_MO_64_12 rfl) (vA_s (by decide)) rfl (by first | rfl | (show Value.int _ = Value.int _; simp [wI, wL, wR, wC, up])) ?_
    refine A_iload_n d_MO_isFree_14 rfl ?_
    refine A_ialdv (n := 7) (v := (h.1 78 x1)) d_MO_isFree_15 (vA_s (by decide)) rfl c1 rfl ?_
    refine A_aload_n d_MO_isFree_16 rfl ?_
    refine A_get (v := .ref 62) d_MO_isFree_17 (fo_MO_16_12 rfl) (vA_s (by decide)) rfl (by first | rfl | (show Value.int _ = Value.int _; simp [wI, wL, wR, wC, up])) ?_
    refine A_iload_n d_MO_isFree_20 rfl ?_
    refine A_ialdv (n := 7) (v := (h.1 62 x1)) d_MO_isFree_21 (vA_s (by decide)) rfl c1 rfl ?_
    refine A_icmp_eq 29 d_MO_isFree_22 (by decide) (fun z => ?_) (fun z => ?_)
    · have H := H.1 z
      refine A_iconst 0 (by decide) d_MO_isFree_29 ?_
      refine A_goto 58 d_MO_isFree_30 (by decide) ?_
      exact A_iret d_MO_isFree_58 rfl rfl H
    · have H := H.2 z
      refine A_iconst 1 (by decide) d_MO_isFree_25 ?_
      refine A_goto 58 d_MO_isFree_26 (by decide) ?_
      exact A_iret d_MO_isFree_58 rfl rfl H
set_option maxRecDepth 20000 in
theorem ok_MO_isFree {G : GG} {d : Nat} {Q : Int32 → AH → Prop} {x1 : Int32} {x2 : Int32} {h : AH} (H : p_MO_isFree Q x1 x2 h) : WP G T1 m_MO_isFree d [.ref 59, .int x1, .int x2] h 0 0 (iQ Q) := by
  exact WP.enter 0 (by decide) rfl rfl (r_MO_isFree_0 x1 x2 h H)
theorem d_MO_catches_0 : decode prog_14_method_41_code 0 = .ok (.aload_n 0, 1) := by decide +kernel
theorem d_MO_catches_1 : decode prog_14_method_41_code 1 = .ok (.getfield 212, 3) := by decide +kernel
theorem d_MO_catches_4 : decode prog_14_method_41_code 4 = .ok (.ifCond .ge 5, 3) := by decide +kernel
theorem d_MO_catches_7 : decode prog_14_method_41_code 7 = .ok (.iconst 0, 1) := by decide +kernel
theorem d_MO_catches_8 : decode prog_14_method_41_code 8 = .ok (.ireturn, 1) := by decide +kernel
theorem d_MO_catches_9 : decode prog_14_method_41_code 9 = .ok (.aload_n 0, 1) := by decide +kernel
theorem d_MO_catches_10 : decode prog_14_method_41_code 10 = .ok (.aload_n 0, 1) := by decide +kernel
theorem d_MO_catches_11 : decode prog_14_method_41_code 11 = .ok (.getfield 215, 3) := by decide +kernel
theorem d_MO_catches_14 : decode prog_14_method_41_code 14 = .ok (.ldc2_w 219, 3) := by decide +kernel
theorem d_MO_catches_17 : decode prog_14_method_41_code 17 = .ok (.lmul, 1) := by decide +kernel
theorem d_MO_catches_18 : decode prog_14_method_41_code 18 = .ok (.ldc2_w 221, 3) := by decide +kernel
theorem d_MO_catches_21 : decode prog_14_method_41_code 21 = .ok (.lrem, 1) := by decide +kernel
theorem d_MO_catches_22 : decode prog_14_method_41_code 22 = .ok (.putfield 215, 3) := by decide +kernel
theorem d_MO_catches_25 : decode prog_14_method_41_code 25 = .ok (.aload_n 0, 1) := by decide +kernel
theorem d_MO_catches_26 : decode prog_14_method_41_code 26 = .ok (.getfield 215, 3) := by decide +kernel
theorem d_MO_catches_29 : decode prog_14_method_41_code 29 = .ok (.ldc2_w 223, 3) := by decide +kernel
theorem d_MO_catches_32 : decode prog_14_method_41_code 32 = .ok (.lrem, 1) := by decide +kernel
theorem d_MO_catches_33 : decode prog_14_method_41_code 33 = .ok (.aload_n 0, 1) := by decide +kernel
theorem d_MO_catches_34 : decode prog_14_method_41_code 34 = .ok (.getfield 212, 3) := by decide +kernel
theorem d_MO_catches_37 : decode prog_14_method_41_code 37 = .ok (.i2l, 1) := by decide +kernel
theorem d_MO_catches_38 : decode prog_14_method_41_code 38 = .ok (.lcmp, 1) := by decide +kernel
theorem d_MO_catches_39 : decode prog_14_method_41_code 39 = .ok (.ifCond .ge 7, 3) := by decide +kernel
theorem d_MO_catches_42 : decode prog_14_method_41_code 42 = .ok (.iconst 1, 1) := by decide +kernel
theorem d_MO_catches_43 : decode prog_14_method_41_code 43 = .ok (.goto 4, 3) := by decide +kernel
theorem d_MO_catches_46 : decode prog_14_method_41_code 46 = .ok (.iconst 0, 1) := by decide +kernel
theorem d_MO_catches_47 : decode prog_14_method_41_code 47 = .ok (.ireturn, 1) := by decide +kernel
def p_MO_catches (Q : Int32 → AH → Prop) (h : AH) : Prop := ((0 ≤ (h.1 59 37) → ((0 ≤ (lg_cmp ((((h.2.1 59 38) * 48271) - ((h.2.1 59 38) * 48271) / 2147483647 * 2147483647) - (((h.2.1 59 38) * 48271) - ((h.2.1 59 38) * 48271) / 2147483647 * 2147483647) / 100 * 100) ((h.1 59 37).toInt64)) → Q 0 (wL h 59 38 (((h.2.1 59 38) * 48271) - ((h.2.1 59 38) * 48271) / 2147483647 * 2147483647))) ∧ (¬ 0 ≤ (lg_cmp ((((h.2.1 59 38) * 48271) - ((h.2.1 59 38) * 48271) / 2147483647 * 2147483647) - (((h.2.1 59 38) * 48271) - ((h.2.1 59 38) * 48271) / 2147483647 * 2147483647) / 100 * 100) ((h.1 59 37).toInt64)) → Q 1 (wL h 59 38 (((h.2.1 59 38) * 48271) - ((h.2.1 59 38) * 48271) / 2147483647 * 2147483647))))) ∧ (¬ 0 ≤ (h.1 59 37) → Q 0 h))
set_option maxRecDepth 20000 in
theorem r_MO_catches_0 {G : GG} {d : Nat} {Q : Int32 → AH → Prop} (h : AH) (H : p_MO_catches Q h) : Att G T1 m_MO_catches d 0 [some (.ref 59)] [] h 0 0 (iQ Q) := by
  refine A_aload_n d_MO_catches_0 rfl ?_
  refine A_get (v := .int (h.1 59 37)) d_MO_catches_1 (fo_MO_212_12 rfl) (vA_s (by decide)) rfl (by first | rfl | (show Value.int _ = Value.int _; simp [wI, wL, wR, wC, up])) ?_
  refine A_if_ge 9 d_MO_catches_4 (by decide) (fun z => ?_) (fun z => ?_)
  · have H := H.1 z
    refine A_aload_n d_MO_catches_9 rfl ?_
    refine A_aload_n d_MO_catches_10 rfl ?_
    refine A_get (v := .long (h.2.1 59 38)) d_MO_catches_11 (fo_MO_215_12 rfl) (vA_s (by decide)) rfl (by first | rfl | (show Value.int _ = Value.int _; simp [wI, wL, wR, wC, up])) ?_
    refine A_ldc2 48271 d_MO_catches_14 (tG 1121 (by decide +kernel) (by decide +kernel)) ?_
    refine A_lmul d_MO_catches_17 ?_
    refine A_ldc2 2147483647 d_MO_catches_18 (tG 1122 (by decide +kernel) (by decide +kernel)) ?_
    refine A_lrem (by decide) d_MO_catches_21 ?_
    refine A_putL (k := 38) d_MO_catches_22 (fo_MO_215_12 rfl) ft_12_38 rfl (vA_s (by decide)) rfl ?_
    refine A_aload_n d_MO_catches_25 rfl ?_
    refine A_get (v := .long (((h.2.1 59 38) * 48271) - ((h.2.1 59 38) * 48271) / 2147483647 * 2147483647)) d_MO_catches_26 (fo_MO_215_12 rfl) (vA_s (by decide)) rfl (by first | rfl | (show Value.int _ = Value.int _; simp [wI, wL, wR, wC, up])) ?_
    refine A_ldc2 100 d_MO_catches_29 (tG 1123 (by decide +kernel) (by decide +kernel)) ?_
    refine A_lrem (by decide) d_MO_catches_32 ?_
    refine A_aload_n d_MO_catches_33 rfl ?_
    refine A_get (v := .int (h.1 59 37)) d_MO_catches_34 (fo_MO_212_12 rfl) (vA_s (by decide)) rfl (by first | rfl | (show Value.int _ = Value.int _; simp [wI, wL, wR, wC, up])) ?_
    refine A_i2l d_MO_catches_37 ?_
    refine A_lcmp d_MO_catches_38 ?_
    refine A_if_ge 46 d_MO_catches_39 (by decide) (fun z => ?_) (fun z => ?_)
    · have H := H.1 z
      refine A_iconst 0 (by decide) d_MO_catches_46 ?_
      exact A_iret d_MO_catches_47 rfl rfl H
    · have H := H.2 z
      refine A_iconst 1 (by decide) d_MO_catches_42 ?_
      refine A_goto 47 d_MO_catches_43 (by decide) ?_
      exact A_iret d_MO_catches_47 rfl rfl H
  · have H := H.2 z
    refine A_iconst 0 (by decide) d_MO_catches_7 ?_
    exact A_iret d_MO_catches_8 rfl rfl H
set_option maxRecDepth 20000 in
theorem ok_MO_catches {G : GG} {d : Nat} {Q : Int32 → AH → Prop} {h : AH} (H : p_MO_catches Q h) : WP G T1 m_MO_catches d [.ref 59] h 0 0 (iQ Q) := by
  exact WP.enter 0 (by decide) rfl rfl (r_MO_catches_0 h H)
theorem d_MO_sumOf_0 : decode prog_14_method_46_code 0 = .ok (.iconst 0, 1) := by decide +kernel
theorem d_MO_sumOf_1 : decode prog_14_method_46_code 1 = .ok (.istore_n 2, 1) := by decide +kernel
theorem d_MO_sumOf_2 : decode prog_14_method_46_code 2 = .ok (.iconst 0, 1) := by decide +kernel
theorem d_MO_sumOf_3 : decode prog_14_method_46_code 3 = .ok (.istore_n 3, 1) := by decide +kernel
theorem d_MO_sumOf_4 : decode prog_14_method_46_code 4 = .ok (.iload_n 3, 1) := by decide +kernel
theorem d_MO_sumOf_5 : decode prog_14_method_46_code 5 = .ok (.aload_n 0, 1) := by decide +kernel
theorem d_MO_sumOf_6 : decode prog_14_method_46_code 6 = .ok (.getfield 90, 3) := by decide +kernel
theorem d_MO_sumOf_9 : decode prog_14_method_46_code 9 = .ok (.if_icmp .ge 79, 3) := by decide +kernel
theorem d_MO_sumOf_12 : decode prog_14_method_46_code 12 = .ok (.iload_n 2, 1) := by decide +kernel
theorem d_MO_sumOf_13 : decode prog_14_method_46_code 13 = .ok (.iload_n 1, 1) := by decide +kernel
theorem d_MO_sumOf_14 : decode prog_14_method_46_code 14 = .ok (.ifCond .ne 22, 3) := by decide +kernel
theorem d_MO_sumOf_17 : decode prog_14_method_46_code 17 = .ok (.aload_n 0, 1) := by decide +kernel
theorem d_MO_sumOf_18 : decode prog_14_method_46_code 18 = .ok (.getfield 64, 3) := by decide +kernel
theorem d_MO_sumOf_21 : decode prog_14_method_46_code 21 = .ok (.iload_n 3, 1) := by decide +kernel
theorem d_MO_sumOf_22 : decode prog_14_method_46_code 22 = .ok (.iaload, 1) := by decide +kernel
theorem d_MO_sumOf_23 : decode prog_14_method_46_code 23 = .ok (.ifCond .ne 9, 3) := by decide +kernel
theorem d_MO_sumOf_26 : decode prog_14_method_46_code 26 = .ok (.iconst 1, 1) := by decide +kernel
theorem d_MO_sumOf_27 : decode prog_14_method_46_code 27 = .ok (.iload_n 3, 1) := by decide +kernel
theorem d_MO_sumOf_28 : decode prog_14_method_46_code 28 = .ok (.ishl, 1) := by decide +kernel
theorem d_MO_sumOf_29 : decode prog_14_method_46_code 29 = .ok (.goto 51, 3) := by decide +kernel
theorem d_MO_sumOf_32 : decode prog_14_method_46_code 32 = .ok (.iconst 0, 1) := by decide +kernel
theorem d_MO_sumOf_33 : decode prog_14_method_46_code 33 = .ok (.goto 47, 3) := by decide +kernel
theorem d_MO_sumOf_36 : decode prog_14_method_46_code 36 = .ok (.iload_n 1, 1) := by decide +kernel
theorem d_MO_sumOf_37 : decode prog_14_method_46_code 37 = .ok (.iconst 1, 1) := by decide +kernel
theorem d_MO_sumOf_38 : decode prog_14_method_46_code 38 = .ok (.if_icmp .ne 12, 3) := by decide +kernel
theorem d_MO_sumOf_41 : decode prog_14_method_46_code 41 = .ok (.aload_n 0, 1) := by decide +kernel
theorem d_MO_sumOf_42 : decode prog_14_method_46_code 42 = .ok (.getfield 76, 3) := by decide +kernel
theorem d_MO_sumOf_45 : decode prog_14_method_46_code 45 = .ok (.iload_n 3, 1) := by decide +kernel
theorem d_MO_sumOf_46 : decode prog_14_method_46_code 46 = .ok (.iaload, 1) := by decide +kernel
theorem d_MO_sumOf_47 : decode prog_14_method_46_code 47 = .ok (.goto 33, 3) := by decide +kernel
theorem d_MO_sumOf_50 : decode prog_14_method_46_code 50 = .ok (.iload_n 1, 1) := by decide +kernel
theorem d_MO_sumOf_51 : decode prog_14_method_46_code 51 = .ok (.iconst 2, 1) := by decide +kernel
theorem d_MO_sumOf_52 : decode prog_14_method_46_code 52 = .ok (.if_icmp .ne 12, 3) := by decide +kernel
theorem d_MO_sumOf_55 : decode prog_14_method_46_code 55 = .ok (.aload_n 0, 1) := by decide +kernel
theorem d_MO_sumOf_56 : decode prog_14_method_46_code 56 = .ok (.getfield 64, 3) := by decide +kernel
theorem d_MO_sumOf_59 : decode prog_14_method_46_code 59 = .ok (.iload_n 3, 1) := by decide +kernel
theorem d_MO_sumOf_60 : decode prog_14_method_46_code 60 = .ok (.iaload, 1) := by decide +kernel
theorem d_MO_sumOf_61 : decode prog_14_method_46_code 61 = .ok (.goto 19, 3) := by decide +kernel
theorem d_MO_sumOf_64 : decode prog_14_method_46_code 64 = .ok (.aload_n 0, 1) := by decide +kernel
theorem d_MO_sumOf_65 : decode prog_14_method_46_code 65 = .ok (.getfield 67, 3) := by decide +kernel
theorem d_MO_sumOf_68 : decode prog_14_method_46_code 68 = .ok (.iload_n 3, 1) := by decide +kernel
theorem d_MO_sumOf_69 : decode prog_14_method_46_code 69 = .ok (.iaload, 1) := by decide +kernel
theorem d_MO_sumOf_70 : decode prog_14_method_46_code 70 = .ok (.ifCond .ne 9, 3) := by decide +kernel
theorem d_MO_sumOf_73 : decode prog_14_method_46_code 73 = .ok (.iconst 1, 1) := by decide +kernel
theorem d_MO_sumOf_74 : decode prog_14_method_46_code 74 = .ok (.iload_n 3, 1) := by decide +kernel
theorem d_MO_sumOf_75 : decode prog_14_method_46_code 75 = .ok (.ishl, 1) := by decide +kernel
theorem d_MO_sumOf_76 : decode prog_14_method_46_code 76 = .ok (.goto 4, 3) := by decide +kernel
theorem d_MO_sumOf_79 : decode prog_14_method_46_code 79 = .ok (.iconst 0, 1) := by decide +kernel
theorem d_MO_sumOf_80 : decode prog_14_method_46_code 80 = .ok (.iadd, 1) := by decide +kernel
theorem d_MO_sumOf_81 : decode prog_14_method_46_code 81 = .ok (.istore_n 2, 1) := by decide +kernel
theorem d_MO_sumOf_82 : decode prog_14_method_46_code 82 = .ok (.iinc 3 1, 3) := by decide +kernel
theorem d_MO_sumOf_85 : decode prog_14_method_46_code 85 = .ok (.goto (-81), 3) := by decide +kernel
theorem d_MO_sumOf_88 : decode prog_14_method_46_code 88 = .ok (.iload_n 2, 1) := by decide +kernel
theorem d_MO_sumOf_89 : decode prog_14_method_46_code 89 = .ok (.ireturn, 1) := by decide +kernel
def p_MO_sumOf_80 (Q : Int32 → AH → Prop) (K4 : Int32 → Int32 → Int32 → AH → Prop) (x1 : Int32) (x3 : Int32) (s0 : Int32) (s1 : Int32) (h : AH) : Prop := K4 x1 (s0 + s1) (x3 + 1) h
def p_MO_sumOf_4 (Q : Int32 → AH → Prop) : Nat → Int32 → Int32 → Int32 → AH → Prop
  | 0 => fun _ _ _ _ => False
  | n + 1 => fun x1 x2 x3 h => let K4 := p_MO_sumOf_4 Q n; (((h.1 59 0) ≤ x3 → Q x2 h) ∧ (¬ (h.1 59 0) ≤ x3 → ((¬ x1 = 0 → ((¬ x1 = 1 → ((¬ x1 = 2 → inb x3 7 ∧ ((¬ (h.1 79 x3) = 0 → p_MO_sumOf_80 Q  K4 x1 x3 x2 0 h) ∧ ((h.1 79 x3) = 0 → p_MO_sumOf_80 Q  K4 x1 x3 x2 (1 <<< (x3 &&& 31)) h))) ∧ (x1 = 2 → inb x3 7 ∧ p_MO_sumOf_80 Q  K4 x1 x3 x2 (h.1 78 x3) h))) ∧ (x1 = 1 → inb x3 7 ∧ p_MO_sumOf_80 Q  K4 x1 x3 x2 (h.1 82 x3) h))) ∧ (x1 = 0 → inb x3 7 ∧ ((¬ (h.1 78 x3) = 0 → p_MO_sumOf_80 Q  K4 x1 x3 x2 0 h) ∧ ((h.1 78 x3) = 0 → p_MO_sumOf_80 Q  K4 x1 x3 x2 (1 <<< (x3 &&& 31)) h))))))
def p_MO_sumOf (Q : Int32 → AH → Prop) (x1 : Int32) (h : AH) : Prop := ∃ n, p_MO_sumOf_4 Q   n x1 0 0 h
set_option maxRecDepth 20000 in
theorem r_MO_sumOf_80 {G : GG} {d : Nat} {Q : Int32 → AH → Prop} {K4 : Int32 → Int32 → Int32 → AH → Prop} (k4 : ∀ x1 x2 x3 h, K4 x1 x2 x3 h → Att G T1 m_MO_sumOf d 4 [some (.ref 59), some (.int x1), some (.int x2), some (.int x3)] [] h 0 0 (iQ Q)) (x1 : Int32) (x3 : Int32) (s0 : Int32) (s1 : Int32) (h : AH) (H : p_MO_sumOf_80 Q K4 x1 x3 s0 s1 h) : Att G T1 m_MO_sumOf d 80 [some (.ref 59), some (.int x1), none, some (.int x3)] [.int s1, .int s0] h 0 0 (iQ Q) := by
  refine A_iadd d_MO_sumOf_80 ?_
  refine A_istore_n [some (.ref 59), some (.int x1), some (.int (s0 + s1)), some (.int x3)] d_MO_sumOf_81 (by decide) rfl rfl ?_
  refine A_iinc 1 [some (.ref 59), some (.int x1), some (.int (s0 + s1)), some (.int (x3 + 1))] d_MO_sumOf_82 rfl (by decide) (by decide) rfl rfl ?_
  refine A_goto 4 d_MO_sumOf_85 (by decide) ?_
  exact k4 _ _ _ _ H
set_option maxRecDepth 20000 in
theorem r_MO_sumOf_4 {G : GG} {d : Nat} {Q : Int32 → AH → Prop} : ∀ (n : Nat) (x1 : Int32) (x2 : Int32) (x3 : Int32) (h : AH), p_MO_sumOf_4 Q n x1 x2 x3 h → Att G T1 m_MO_sumOf d 4 [some (.ref 59), some (.int x1), some (.int x2), some (.int x3)] [] h 0 0 (iQ Q) := by
  intro n
  induction n with
  | zero => intro x1 x2 x3 h H; exact H.elim
  | succ n k4 =>
    intro x1 x2 x3 h H
    refine A_iload_n d_MO_sumOf_4 rfl ?_
    refine A_aload_n d_MO_sumOf_5 rfl ?_
    refine A_get (v := .int (h.1 59 0)) d_MO_sumOf_6 (fo_MO_90_12 rfl) (vA_s (by decide)) rfl (by first | rfl | (show Value.int _ = Value.int _; simp [wI, wL, wR, wC, up])) ?_
    refine A_icmp_ge 88 d_MO_sumOf_9 (by decide) (fun z => ?_) (fun z => ?_)
    · have H := H.1 z
      refine A_iload_n d_MO_sumOf_88 rfl ?_
      exact A_iret d_MO_sumOf_89 rfl rfl H
    · have H := H.2 z
      refine A_iload_n d_MO_sumOf_12 rfl ?_
      refine A_iload_n d_MO_sumOf_13 rfl ?_
      refine A_if_ne 36 d_MO_sumOf_14 (by decide) (fun z => ?_) (fun z => ?_)
      · have H := H.1 z
        refine A_iload_n d_MO_sumOf_36 rfl ?_
        refine A_iconst 1 (by decide) d_MO_sumOf_37 ?_
        refine A_icmp_ne 50 d_MO_sumOf_38 (by decide) (fun z => ?_) (fun z => ?_)
        · have H := H.1 z
          refine A_iload_n d_MO_sumOf_50 rfl ?_
          refine A_iconst 2 (by decide) d_MO_sumOf_51 ?_
          refine A_icmp_ne 64 d_MO_sumOf_52 (by decide) (fun z => ?_) (fun z => ?_)
          · have H := H.1 z
            refine A_aload_n d_MO_sumOf_64 rfl ?_
            refine A_get (v := .ref 79) d_MO_sumOf_65 (fo_MO_67_12 rfl) (vA_s (by decide)) rfl (by first | rfl | (show Value.int _ = Value.int _; simp [wI, wL, wR, wC, up])) ?_
            refine A_iload_n d_MO_sumOf_68 rfl ?_
            obtain ⟨c1, H⟩ := H
            refine A_ialdv (n := 7) (v := (h.1 79 x3)) d_MO_sumOf_69 (vA_s (by decide)) rfl c1 rfl ?_
            refine A_if_ne 79 d_MO_sumOf_70 (by decide) (fun z => ?_) (fun z => ?_)
            · have H := H.1 z
              refine A_iconst 0 (by decide) d_MO_sumOf_79 ?_
              refine A_sub (L' := [some (.ref 59), some (.int x1), none, some (.int x3)]) ⟨rfl, rfl, rfl, trivial⟩ ?_
              exact r_MO_sumOf_80  k4 _ _ _ _ _ H
            · have H := H.2 z
              refine A_iconst 1 (by decide) d_MO_sumOf_73 ?_
              refine A_iload_n d_MO_sumOf_74 rfl ?_
              refine A_ishl d_MO_sumOf_75 ?_
              refine A_goto 80 d_MO_sumOf_76 (by decide) ?_
              refine A_sub (L' := [some (.ref 59), some (.int x1), none, some (.int x3)]) ⟨rfl, rfl, rfl, trivial⟩ ?_
              exact r_MO_sumOf_80  k4 _ _ _ _ _ H
          · have H := H.2 z
            refine A_aload_n d_MO_sumOf_55 rfl ?_
            refine A_get (v := .ref 78) d_MO_sumOf_56 (fo_MO_64_12 rfl) (vA_s (by decide)) rfl (by first | rfl | (show Value.int _ = Value.int _; simp [wI, wL, wR, wC, up])) ?_
            refine A_iload_n d_MO_sumOf_59 rfl ?_
            obtain ⟨c2, H⟩ := H
            refine A_ialdv (n := 7) (v := (h.1 78 x3)) d_MO_sumOf_60 (vA_s (by decide)) rfl c2 rfl ?_
            refine A_goto 80 d_MO_sumOf_61 (by decide) ?_
            refine A_sub (L' := [some (.ref 59), some (.int x1), none, some (.int x3)]) ⟨rfl, rfl, rfl, trivial⟩ ?_
            exact r_MO_sumOf_80  k4 _ _ _ _ _ H
        · have H := H.2 z
          refine A_aload_n d_MO_sumOf_41 rfl ?_
          refine A_get (v := .ref 82) d_MO_sumOf_42 (fo_MO_76_12 rfl) (vA_s (by decide)) rfl (by first | rfl | (show Value.int _ = Value.int _; simp [wI, wL, wR, wC, up])) ?_
          refine A_iload_n d_MO_sumOf_45 rfl ?_
          obtain ⟨c3, H⟩ := H
          refine A_ialdv (n := 7) (v := (h.1 82 x3)) d_MO_sumOf_46 (vA_s (by decide)) rfl c3 rfl ?_
          refine A_goto 80 d_MO_sumOf_47 (by decide) ?_
          refine A_sub (L' := [some (.ref 59), some (.int x1), none, some (.int x3)]) ⟨rfl, rfl, rfl, trivial⟩ ?_
          exact r_MO_sumOf_80  k4 _ _ _ _ _ H
      · have H := H.2 z
        refine A_aload_n d_MO_sumOf_17 rfl ?_
        refine A_get (v := .ref 78) d_MO_sumOf_18 (fo_MO_64_12 rfl) (vA_s (by decide)) rfl (by first | rfl | (show Value.int _ = Value.int _; simp [wI, wL, wR, wC, up])) ?_
        refine A_iload_n d_MO_sumOf_21 rfl ?_
        obtain ⟨c4, H⟩ := H
        refine A_ialdv (n := 7) (v := (h.1 78 x3)) d_MO_sumOf_22 (vA_s (by decide)) rfl c4 rfl ?_
        refine A_if_ne 32 d_MO_sumOf_23 (by decide) (fun z => ?_) (fun z => ?_)
        · have H := H.1 z
          refine A_iconst 0 (by decide) d_MO_sumOf_32 ?_
          refine A_goto 80 d_MO_sumOf_33 (by decide) ?_
          refine A_sub (L' := [some (.ref 59), some (.int x1), none, some (.int x3)]) ⟨rfl, rfl, rfl, trivial⟩ ?_
          exact r_MO_sumOf_80  k4 _ _ _ _ _ H
        · have H := H.2 z
          refine A_iconst 1 (by decide) d_MO_sumOf_26 ?_
          refine A_iload_n d_MO_sumOf_27 rfl ?_
          refine A_ishl d_MO_sumOf_28 ?_
          refine A_goto 80 d_MO_sumOf_29 (by decide) ?_
          refine A_sub (L' := [some (.ref 59), some (.int x1), none, some (.int x3)]) ⟨rfl, rfl, rfl, trivial⟩ ?_
          exact r_MO_sumOf_80  k4 _ _ _ _ _ H
set_option maxRecDepth 20000 in
theorem r_MO_sumOf_0 {G : GG} {d : Nat} {Q : Int32 → AH → Prop} (x1 : Int32) (h : AH) (H : p_MO_sumOf Q x1 h) : Att G T1 m_MO_sumOf d 0 [some (.ref 59), some (.int x1), none, none] [] h 0 0 (iQ Q) := by
  refine A_iconst 0 (by decide) d_MO_sumOf_0 ?_
  refine A_istore_n [some (.ref 59), some (.int x1), some (.int 0), none] d_MO_sumOf_1 (by decide) rfl rfl ?_
  refine A_iconst 0 (by decide) d_MO_sumOf_2 ?_
  refine A_istore_n [some (.ref 59), some (.int x1), some (.int 0), some (.int 0)] d_MO_sumOf_3 (by decide) rfl rfl ?_
  obtain ⟨n9, H⟩ := H
  exact r_MO_sumOf_4   n9 _ _ _ _ H
set_option maxRecDepth 20000 in
theorem ok_MO_sumOf {G : GG} {d : Nat} {Q : Int32 → AH → Prop} {x1 : Int32} {h : AH} (H : p_MO_sumOf Q x1 h) : WP G T1 m_MO_sumOf d [.ref 59, .int x1] h 0 0 (iQ Q) := by
  exact WP.enter 2 (by decide) rfl rfl (r_MO_sumOf_0 x1 h H)
theorem d_MO_downNow_0 : decode prog_14_method_52_code 0 = .ok (.iconst 0, 1) := by decide +kernel
theorem d_MO_downNow_1 : decode prog_14_method_52_code 1 = .ok (.istore_n 1, 1) := by decide +kernel
theorem d_MO_downNow_2 : decode prog_14_method_52_code 2 = .ok (.iconst 0, 1) := by decide +kernel
theorem d_MO_downNow_3 : decode prog_14_method_52_code 3 = .ok (.istore_n 2, 1) := by decide +kernel
theorem d_MO_downNow_4 : decode prog_14_method_52_code 4 = .ok (.iload_n 2, 1) := by decide +kernel
theorem d_MO_downNow_5 : decode prog_14_method_52_code 5 = .ok (.aload_n 0, 1) := by decide +kernel
theorem d_MO_downNow_6 : decode prog_14_method_52_code 6 = .ok (.getfield 90, 3) := by decide +kernel
theorem d_MO_downNow_9 : decode prog_14_method_52_code 9 = .ok (.if_icmp .ge 26, 3) := by decide +kernel
theorem d_MO_downNow_12 : decode prog_14_method_52_code 12 = .ok (.iload_n 1, 1) := by decide +kernel
theorem d_MO_downNow_13 : decode prog_14_method_52_code 13 = .ok (.aload_n 0, 1) := by decide +kernel
theorem d_MO_downNow_14 : decode prog_14_method_52_code 14 = .ok (.getfield 64, 3) := by decide +kernel
theorem d_MO_downNow_17 : decode prog_14_method_52_code 17 = .ok (.iload_n 2, 1) := by decide +kernel
theorem d_MO_downNow_18 : decode prog_14_method_52_code 18 = .ok (.iaload, 1) := by decide +kernel
theorem d_MO_downNow_19 : decode prog_14_method_52_code 19 = .ok (.ifCond .ne 7, 3) := by decide +kernel
theorem d_MO_downNow_22 : decode prog_14_method_52_code 22 = .ok (.iconst 1, 1) := by decide +kernel
theorem d_MO_downNow_23 : decode prog_14_method_52_code 23 = .ok (.goto 4, 3) := by decide +kernel
theorem d_MO_downNow_26 : decode prog_14_method_52_code 26 = .ok (.iconst 0, 1) := by decide +kernel
theorem d_MO_downNow_27 : decode prog_14_method_52_code 27 = .ok (.iadd, 1) := by decide +kernel
theorem d_MO_downNow_28 : decode prog_14_method_52_code 28 = .ok (.istore_n 1, 1) := by decide +kernel
theorem d_MO_downNow_29 : decode prog_14_method_52_code 29 = .ok (.iinc 2 1, 3) := by decide +kernel
theorem d_MO_downNow_32 : decode prog_14_method_52_code 32 = .ok (.goto (-28), 3) := by decide +kernel
theorem d_MO_downNow_35 : decode prog_14_method_52_code 35 = .ok (.iload_n 1, 1) := by decide +kernel
theorem d_MO_downNow_36 : decode prog_14_method_52_code 36 = .ok (.ireturn, 1) := by decide +kernel
def p_MO_downNow_27 (Q : Int32 → AH → Prop) (K4 : Int32 → Int32 → AH → Prop) (x2 : Int32) (s0 : Int32) (s1 : Int32) (h : AH) : Prop := K4 (s0 + s1) (x2 + 1) h
def p_MO_downNow_4 (Q : Int32 → AH → Prop) : Nat → Int32 → Int32 → AH → Prop
  | 0 => fun _ _ _ => False
  | n + 1 => fun x1 x2 h => let K4 := p_MO_downNow_4 Q n; (((h.1 59 0) ≤ x2 → Q x1 h) ∧ (¬ (h.1 59 0) ≤ x2 → inb x2 7 ∧ ((¬ (h.1 78 x2) = 0 → p_MO_downNow_27 Q  K4 x2 x1 0 h) ∧ ((h.1 78 x2) = 0 → p_MO_downNow_27 Q  K4 x2 x1 1 h))))
def p_MO_downNow (Q : Int32 → AH → Prop) (h : AH) : Prop := ∃ n, p_MO_downNow_4 Q   n 0 0 h
set_option maxRecDepth 20000 in
theorem r_MO_downNow_27 {G : GG} {d : Nat} {Q : Int32 → AH → Prop} {K4 : Int32 → Int32 → AH → Prop} (k4 : ∀ x1 x2 h, K4 x1 x2 h → Att G T1 m_MO_downNow d 4 [some (.ref 59), some (.int x1), some (.int x2)] [] h 0 0 (iQ Q)) (x2 : Int32) (s0 : Int32) (s1 : Int32) (h : AH) (H : p_MO_downNow_27 Q K4 x2 s0 s1 h) : Att G T1 m_MO_downNow d 27 [some (.ref 59), none, some (.int x2)] [.int s1, .int s0] h 0 0 (iQ Q) := by
  refine A_iadd d_MO_downNow_27 ?_
  refine A_istore_n [some (.ref 59), some (.int (s0 + s1)), some (.int x2)] d_MO_downNow_28 (by decide) rfl rfl ?_
  refine A_iinc 1 [some (.ref 59), some (.int (s0 + s1)), some (.int (x2 + 1))] d_MO_downNow_29 rfl (by decide) (by decide) rfl rfl ?_
  refine A_goto 4 d_MO_downNow_32 (by decide) ?_
  exact k4 _ _ _ H
set_option maxRecDepth 20000 in
theorem r_MO_downNow_4 {G : GG} {d : Nat} {Q : Int32 → AH → Prop} : ∀ (n : Nat) (x1 : Int32) (x2 : Int32) (h : AH), p_MO_downNow_4 Q n x1 x2 h → Att G T1 m_MO_downNow d 4 [some (.ref 59), some (.int x1), some (.int x2)] [] h 0 0 (iQ Q) := by
  intro n
  induction n with
  | zero => intro x1 x2 h H; exact H.elim
  | succ n k4 =>
    intro x1 x2 h H
    refine A_iload_n d_MO_downNow_4 rfl ?_
    refine A_aload_n d_MO_downNow_5 rfl ?_
    refine A_get (v := .int (h.1 59 0)) d_MO_downNow_6 (fo_MO_90_12 rfl) (vA_s (by decide)) rfl (by first | rfl | (show Value.int _ = Value.int _; simp [wI, wL, wR, wC, up])) ?_
    refine A_icmp_ge 35 d_MO_downNow_9 (by decide) (fun z => ?_) (fun z => ?_)
    · have H := H.1 z
      refine A_iload_n d_MO_downNow_35 rfl ?_
      exact A_iret d_MO_downNow_36 rfl rfl H
    · have H := H.2 z
      refine A_iload_n d_MO_downNow_12 rfl ?_
      refine A_aload_n d_MO_downNow_13 rfl ?_
      refine A_get (v := .ref 78) d_MO_downNow_14 (fo_MO_64_12 rfl) (vA_s (by decide)) rfl (by first | rfl | (show Value.int _ = Value.int _; simp [wI, wL, wR, wC, up])) ?_
      refine A_iload_n d_MO_downNow_17 rfl ?_
      obtain ⟨c1, H⟩ := H
      refine A_ialdv (n := 7) (v := (h.1 78 x2)) d_MO_downNow_18 (vA_s (by decide)) rfl c1 rfl ?_
      refine A_if_ne 26 d_MO_downNow_19 (by decide) (fun z => ?_) (fun z => ?_)
      · have H := H.1 z
        refine A_iconst 0 (by decide) d_MO_downNow_26 ?_
        refine A_sub (L' := [some (.ref 59), none, some (.int x2)]) ⟨rfl, rfl, trivial⟩ ?_
        exact r_MO_downNow_27  k4 _ _ _ _ H
      · have H := H.2 z
        refine A_iconst 1 (by decide) d_MO_downNow_22 ?_
        refine A_goto 27 d_MO_downNow_23 (by decide) ?_
        refine A_sub (L' := [some (.ref 59), none, some (.int x2)]) ⟨rfl, rfl, trivial⟩ ?_
        exact r_MO_downNow_27  k4 _ _ _ _ H
set_option maxRecDepth 20000 in
theorem r_MO_downNow_0 {G : GG} {d : Nat} {Q : Int32 → AH → Prop} (h : AH) (H : p_MO_downNow Q h) : Att G T1 m_MO_downNow d 0 [some (.ref 59), none, none] [] h 0 0 (iQ Q) := by
  refine A_iconst 0 (by decide) d_MO_downNow_0 ?_
  refine A_istore_n [some (.ref 59), some (.int 0), none] d_MO_downNow_1 (by decide) rfl rfl ?_
  refine A_iconst 0 (by decide) d_MO_downNow_2 ?_
  refine A_istore_n [some (.ref 59), some (.int 0), some (.int 0)] d_MO_downNow_3 (by decide) rfl rfl ?_
  obtain ⟨n9, H⟩ := H
  exact r_MO_downNow_4   n9 _ _ _ H
set_option maxRecDepth 20000 in
theorem ok_MO_downNow {G : GG} {d : Nat} {Q : Int32 → AH → Prop} {h : AH} (H : p_MO_downNow Q h) : WP G T1 m_MO_downNow d [.ref 59] h 0 0 (iQ Q) := by
  exact WP.enter 2 (by decide) rfl rfl (r_MO_downNow_0 h H)
theorem d_MO_keeps_0 : decode prog_14_method_56_code 0 = .ok (.iconst 0, 1) := by decide +kernel
theorem d_MO_keeps_1 : decode prog_14_method_56_code 1 = .ok (.istore_n 1, 1) := by decide +kernel
theorem d_MO_keeps_2 : decode prog_14_method_56_code 2 = .ok (.iload_n 1, 1) := by decide +kernel
theorem d_MO_keeps_3 : decode prog_14_method_56_code 3 = .ok (.bipush 7, 2) := by decide +kernel
theorem d_MO_keeps_5 : decode prog_14_method_56_code 5 = .ok (.if_icmp .ge 21, 3) := by decide +kernel
theorem d_MO_keeps_8 : decode prog_14_method_56_code 8 = .ok (.aload_n 0, 1) := by decide +kernel
theorem d_MO_keeps_9 : decode prog_14_method_56_code 9 = .ok (.getfield 79, 3) := by decide +kernel
theorem d_MO_keeps_12 : decode prog_14_method_56_code 12 = .ok (.iload_n 1, 1) := by decide +kernel
theorem d_MO_keeps_13 : decode prog_14_method_56_code 13 = .ok (.aload_n 0, 1) := by decide +kernel
theorem d_MO_keeps_14 : decode prog_14_method_56_code 14 = .ok (.getfield 25, 3) := by decide +kernel
theorem d_MO_keeps_17 : decode prog_14_method_56_code 17 = .ok (.iload_n 1, 1) := by decide +kernel
theorem d_MO_keeps_18 : decode prog_14_method_56_code 18 = .ok (.iaload, 1) := by decide +kernel
theorem d_MO_keeps_19 : decode prog_14_method_56_code 19 = .ok (.iastore, 1) := by decide +kernel
theorem d_MO_keeps_20 : decode prog_14_method_56_code 20 = .ok (.iinc 1 1, 3) := by decide +kernel
theorem d_MO_keeps_23 : decode prog_14_method_56_code 23 = .ok (.goto (-21), 3) := by decide +kernel
theorem d_MO_keeps_26 : decode prog_14_method_56_code 26 = .ok (.return_, 1) := by decide +kernel
def p_MO_keeps_2 (Q : AH → Prop) : Nat → Int32 → AH → Prop
  | 0 => fun _ _ => False
  | n + 1 => fun x1 h => let K2 := p_MO_keeps_2 Q n; ((7 ≤ x1 → Q h) ∧ (¬ 7 ≤ x1 → inb x1 7 ∧ K2 (x1 + 1) (wI h 83 x1 (h.1 65 x1))))
def p_MO_keeps (Q : AH → Prop) (h : AH) : Prop := ∃ n, p_MO_keeps_2 Q   n 0 h
set_option maxRecDepth 20000 in
theorem r_MO_keeps_2 {G : GG} {d : Nat} {Q : AH → Prop} : ∀ (n : Nat) (x1 : Int32) (h : AH), p_MO_keeps_2 Q n x1 h → Att G T1 m_MO_keeps d 2 [some (.ref 59), some (.int x1)] [] h 0 0 (vQ Q) := by
  intro n
  induction n with
  | zero => intro x1 h H; exact H.elim
  | succ n k2 =>
    intro x1 h H
    refine A_iload_n d_MO_keeps_2 rfl ?_
    refine A_bipush 7 (by decide) d_MO_keeps_3 ?_
    refine A_icmp_ge 26 d_MO_keeps_5 (by decide) (fun z => ?_) (fun z => ?_)
    · have H := H.1 z
      exact A_ret d_MO_keeps_26 rfl H
    · have H := H.2 z
      refine A_aload_n d_MO_keeps_8 rfl ?_
      refine A_get (v := .ref 83) d_MO_keeps_9 (fo_MO_79_12 rfl) (vA_s (by decide)) rfl (by first | rfl | (show Value.int _ = Value.int _; simp [wI, wL, wR, wC, up])) ?_
      refine A_iload_n d_MO_keeps_12 rfl ?_
      refine A_aload_n d_MO_keeps_13 rfl ?_
      refine A_get (v := .ref 65) d_MO_keeps_14 (fo_MO_25_12 rfl) (vA_s (by decide)) rfl (by first | rfl | (show Value.int _ = Value.int _; simp [wI, wL, wR, wC, up])) ?_
      refine A_iload_n d_MO_keeps_17 rfl ?_
      obtain ⟨c1, H⟩ := H
      refine A_ialdv (n := 7) (v := (h.1 65 x1)) d_MO_keeps_18 (vA_s (by decide)) rfl c1 rfl ?_
      refine A_iast (n := 7) d_MO_keeps_19 (vA_s (by decide)) rfl c1 ?_
      refine A_iinc 1 [some (.ref 59), some (.int (x1 + 1))] d_MO_keeps_20 rfl (by decide) (by decide) rfl rfl ?_
      refine A_goto 2 d_MO_keeps_23 (by decide) ?_
      exact k2 _ _ H
set_option maxRecDepth 20000 in
theorem r_MO_keeps_0 {G : GG} {d : Nat} {Q : AH → Prop} (h : AH) (H : p_MO_keeps Q h) : Att G T1 m_MO_keeps d 0 [some (.ref 59), none] [] h 0 0 (vQ Q) := by
  refine A_iconst 0 (by decide) d_MO_keeps_0 ?_
  refine A_istore_n [some (.ref 59), some (.int 0)] d_MO_keeps_1 (by decide) rfl rfl ?_
  obtain ⟨n9, H⟩ := H
  exact r_MO_keeps_2   n9 _ _ H
set_option maxRecDepth 20000 in
theorem ok_MO_keeps {G : GG} {d : Nat} {Q : AH → Prop} {h : AH} (H : p_MO_keeps Q h) : WP G T1 m_MO_keeps d [.ref 59] h 0 0 (vQ Q) := by
  exact WP.enter 1 (by decide) rfl rfl (r_MO_keeps_0 h H)
theorem d_MO_laysBack_0 : decode prog_14_method_57_code 0 = .ok (.iconst 0, 1) := by decide +kernel
theorem d_MO_laysBack_1 : decode prog_14_method_57_code 1 = .ok (.istore_n 1, 1) := by decide +kernel
theorem d_MO_laysBack_2 : decode prog_14_method_57_code 2 = .ok (.iload_n 1, 1) := by decide +kernel
theorem d_MO_laysBack_3 : decode prog_14_method_57_code 3 = .ok (.bipush 7, 2) := by decide +kernel
theorem d_MO_laysBack_5 : decode prog_14_method_57_code 5 = .ok (.if_icmp .ge 21, 3) := by decide +kernel
theorem d_MO_laysBack_8 : decode prog_14_method_57_code 8 = .ok (.aload_n 0, 1) := by decide +kernel
theorem d_MO_laysBack_9 : decode prog_14_method_57_code 9 = .ok (.getfield 25, 3) := by decide +kernel
theorem d_MO_laysBack_12 : decode prog_14_method_57_code 12 = .ok (.iload_n 1, 1) := by decide +kernel
theorem d_MO_laysBack_13 : decode prog_14_method_57_code 13 = .ok (.aload_n 0, 1) := by decide +kernel
theorem d_MO_laysBack_14 : decode prog_14_method_57_code 14 = .ok (.getfield 79, 3) := by decide +kernel
theorem d_MO_laysBack_17 : decode prog_14_method_57_code 17 = .ok (.iload_n 1, 1) := by decide +kernel
theorem d_MO_laysBack_18 : decode prog_14_method_57_code 18 = .ok (.iaload, 1) := by decide +kernel
theorem d_MO_laysBack_19 : decode prog_14_method_57_code 19 = .ok (.iastore, 1) := by decide +kernel
theorem d_MO_laysBack_20 : decode prog_14_method_57_code 20 = .ok (.iinc 1 1, 3) := by decide +kernel
theorem d_MO_laysBack_23 : decode prog_14_method_57_code 23 = .ok (.goto (-21), 3) := by decide +kernel
theorem d_MO_laysBack_26 : decode prog_14_method_57_code 26 = .ok (.return_, 1) := by decide +kernel
def p_MO_laysBack_2 (Q : AH → Prop) : Nat → Int32 → AH → Prop
  | 0 => fun _ _ => False
  | n + 1 => fun x1 h => let K2 := p_MO_laysBack_2 Q n; ((7 ≤ x1 → Q h) ∧ (¬ 7 ≤ x1 → inb x1 7 ∧ K2 (x1 + 1) (wI h 65 x1 (h.1 83 x1))))
def p_MO_laysBack (Q : AH → Prop) (h : AH) : Prop := ∃ n, p_MO_laysBack_2 Q   n 0 h
set_option maxRecDepth 20000 in
theorem r_MO_laysBack_2 {G : GG} {d : Nat} {Q : AH → Prop} : ∀ (n : Nat) (x1 : Int32) (h : AH), p_MO_laysBack_2 Q n x1 h → Att G T1 m_MO_laysBack d 2 [some (.ref 59), some (.int x1)] [] h 0 0 (vQ Q) := by
  intro n
  induction n with
  | zero => intro x1 h H; exact H.elim
  | succ n k2 =>
    intro x1 h H
    refine A_iload_n d_MO_laysBack_2 rfl ?_
    refine A_bipush 7 (by decide) d_MO_laysBack_3 ?_
    refine A_icmp_ge 26 d_MO_laysBack_5 (by decide) (fun z => ?_) (fun z => ?_)
    · have H := H.1 z
      exact A_ret d_MO_laysBack_26 rfl H
    · have H := H.2 z
      refine A_aload_n d_MO_laysBack_8 rfl ?_
      refine A_get (v := .ref 65) d_MO_laysBack_9 (fo_MO_25_12 rfl) (vA_s (by decide)) rfl (by first | rfl | (show Value.int _ = Value.int _; simp [wI, wL, wR, wC, up])) ?_
      refine A_iload_n d_MO_laysBack_12 rfl ?_
      refine A_aload_n d_MO_laysBack_13 rfl ?_
      refine A_get (v := .ref 83) d_MO_laysBack_14 (fo_MO_79_12 rfl) (vA_s (by decide)) rfl (by first | rfl | (show Value.int _ = Value.int _; simp [wI, wL, wR, wC, up])) ?_
      refine A_iload_n d_MO_laysBack_17 rfl ?_
      obtain ⟨c1, H⟩ := H
      refine A_ialdv (n := 7) (v := (h.1 83 x1)) d_MO_laysBack_18 (vA_s (by decide)) rfl c1 rfl ?_
      refine A_iast (n := 7) d_MO_laysBack_19 (vA_s (by decide)) rfl c1 ?_
      refine A_iinc 1 [some (.ref 59), some (.int (x1 + 1))] d_MO_laysBack_20 rfl (by decide) (by decide) rfl rfl ?_
      refine A_goto 2 d_MO_laysBack_23 (by decide) ?_
      exact k2 _ _ H
set_option maxRecDepth 20000 in
theorem r_MO_laysBack_0 {G : GG} {d : Nat} {Q : AH → Prop} (h : AH) (H : p_MO_laysBack Q h) : Att G T1 m_MO_laysBack d 0 [some (.ref 59), none] [] h 0 0 (vQ Q) := by
  refine A_iconst 0 (by decide) d_MO_laysBack_0 ?_
  refine A_istore_n [some (.ref 59), some (.int 0)] d_MO_laysBack_1 (by decide) rfl rfl ?_
  obtain ⟨n9, H⟩ := H
  exact r_MO_laysBack_2   n9 _ _ H
set_option maxRecDepth 20000 in
theorem ok_MO_laysBack {G : GG} {d : Nat} {Q : AH → Prop} {h : AH} (H : p_MO_laysBack Q h) : WP G T1 m_MO_laysBack d [.ref 59] h 0 0 (vQ Q) := by
  exact WP.enter 1 (by decide) rfl rfl (r_MO_laysBack_0 h H)
theorem d_MO_lowest_0 : decode prog_14_method_74_code 0 = .ok (.lload_n 0, 1) := by decide +kernel
theorem d_MO_lowest_1 : decode prog_14_method_74_code 1 = .ok (.lconst 0, 1) := by decide +kernel
theorem d_MO_lowest_2 : decode prog_14_method_74_code 2 = .ok (.lcmp, 1) := by decide +kernel
theorem d_MO_lowest_3 : decode prog_14_method_74_code 3 = .ok (.ifCond .ne 7, 3) := by decide +kernel
theorem d_MO_lowest_6 : decode prog_14_method_74_code 6 = .ok (.iload 4, 2) := by decide +kernel
theorem d_MO_lowest_8 : decode prog_14_method_74_code 8 = .ok (.i2l, 1) := by decide +kernel
theorem d_MO_lowest_9 : decode prog_14_method_74_code 9 = .ok (.lreturn, 1) := by decide +kernel
theorem d_MO_lowest_10 : decode prog_14_method_74_code 10 = .ok (.lload_n 0, 1) := by decide +kernel
theorem d_MO_lowest_11 : decode prog_14_method_74_code 11 = .ok (.lstore 5, 2) := by decide +kernel
theorem d_MO_lowest_13 : decode prog_14_method_74_code 13 = .ok (.lload_n 2, 1) := by decide +kernel
theorem d_MO_lowest_14 : decode prog_14_method_74_code 14 = .ok (.lstore 7, 2) := by decide +kernel
theorem d_MO_lowest_16 : decode prog_14_method_74_code 16 = .ok (.lload 7, 2) := by decide +kernel
theorem d_MO_lowest_18 : decode prog_14_method_74_code 18 = .ok (.lconst 0, 1) := by decide +kernel
theorem d_MO_lowest_19 : decode prog_14_method_74_code 19 = .ok (.lcmp, 1) := by decide +kernel
theorem d_MO_lowest_20 : decode prog_14_method_74_code 20 = .ok (.ifCond .eq 21, 3) := by decide +kernel
theorem d_MO_lowest_23 : decode prog_14_method_74_code 23 = .ok (.lload 5, 2) := by decide +kernel
theorem d_MO_lowest_25 : decode prog_14_method_74_code 25 = .ok (.lload 7, 2) := by decide +kernel
theorem d_MO_lowest_27 : decode prog_14_method_74_code 27 = .ok (.lrem, 1) := by decide +kernel
theorem d_MO_lowest_28 : decode prog_14_method_74_code 28 = .ok (.lstore 9, 2) := by decide +kernel
theorem d_MO_lowest_30 : decode prog_14_method_74_code 30 = .ok (.lload 7, 2) := by decide +kernel
theorem d_MO_lowest_32 : decode prog_14_method_74_code 32 = .ok (.lstore 5, 2) := by decide +kernel
theorem d_MO_lowest_34 : decode prog_14_method_74_code 34 = .ok (.lload 9, 2) := by decide +kernel
theorem d_MO_lowest_36 : decode prog_14_method_74_code 36 = .ok (.lstore 7, 2) := by decide +kernel
theorem d_MO_lowest_38 : decode prog_14_method_74_code 38 = .ok (.goto (-22), 3) := by decide +kernel
theorem d_MO_lowest_41 : decode prog_14_method_74_code 41 = .ok (.iload 4, 2) := by decide +kernel
theorem d_MO_lowest_43 : decode prog_14_method_74_code 43 = .ok (.ifCond .ne 7, 3) := by decide +kernel
theorem d_MO_lowest_46 : decode prog_14_method_74_code 46 = .ok (.lload_n 0, 1) := by decide +kernel
theorem d_MO_lowest_47 : decode prog_14_method_74_code 47 = .ok (.goto 4, 3) := by decide +kernel
theorem d_MO_lowest_50 : decode prog_14_method_74_code 50 = .ok (.lload_n 2, 1) := by decide +kernel
theorem d_MO_lowest_51 : decode prog_14_method_74_code 51 = .ok (.lload 5, 2) := by decide +kernel
theorem d_MO_lowest_53 : decode prog_14_method_74_code 53 = .ok (.ldiv, 1) := by decide +kernel
theorem d_MO_lowest_54 : decode prog_14_method_74_code 54 = .ok (.lreturn, 1) := by decide +kernel
def p_MO_lowest_16 (Q : Int64 → AH → Prop) : Nat → Int64 → Int64 → Int32 → Int64 → Int64 → AH → Prop
  | 0 => fun _ _ _ _ _ _ => False
  | n + 1 => fun y0 y2 x4 y5 y7 h => let K16 := p_MO_lowest_16 Q n; (((lg_cmp y7 0) = 0 → ((¬ x4 = 0 → (¬ y5 = 0) ∧ Q (y2 / y5) h) ∧ (x4 = 0 → (¬ y5 = 0) ∧ Q (y0 / y5) h))) ∧ (¬ (lg_cmp y7 0) = 0 → (¬ y7 = 0) ∧ K16 y0 y2 x4 y7 (y5 - y5 / y7 * y7) h))
def p_MO_lowest (Q : Int64 → AH → Prop) (y0 : Int64) (y2 : Int64) (x4 : Int32) (h : AH) : Prop := ((¬ (lg_cmp y0 0) = 0 → ∃ n, p_MO_lowest_16 Q   n y0 y2 x4 y0 y2 h) ∧ ((lg_cmp y0 0) = 0 → Q x4.toInt64 h))
set_option maxRecDepth 20000 in
theorem r_MO_lowest_16 {G : GG} {d : Nat} {Q : Int64 → AH → Prop} : ∀ (n : Nat) (y0 : Int64) (y2 : Int64) (x4 : Int32) (y5 : Int64) (y7 : Int64) (h : AH), p_MO_lowest_16 Q n y0 y2 x4 y5 y7 h → Att G T1 m_MO_lowest d 16 [some (.long y0), none, some (.long y2), none, some (.int x4), some (.long y5), none, some (.long y7), none, none, none] [] h 0 0 (lQ Q) := by
  intro n
  induction n with
  | zero => intro y0 y2 x4 y5 y7 h H; exact H.elim
  | succ n k16 =>
    intro y0 y2 x4 y5 y7 h H
    refine A_lload d_MO_lowest_16 rfl ?_
    refine A_lconst 0 (by decide) d_MO_lowest_18 ?_
    refine A_lcmp d_MO_lowest_19 ?_
    refine A_if_eq 41 d_MO_lowest_20 (by decide) (fun z => ?_) (fun z => ?_)
    · have H := H.1 z
      refine A_iload d_MO_lowest_41 rfl ?_
      refine A_if_ne 50 d_MO_lowest_43 (by decide) (fun z => ?_) (fun z => ?_)
      · have H := H.1 z
        refine A_lload_n d_MO_lowest_50 rfl ?_
        refine A_lload d_MO_lowest_51 rfl ?_
        obtain ⟨c1, H⟩ := H
        refine A_ldiv c1 d_MO_lowest_53 ?_
        exact A_lret d_MO_lowest_54 rfl H
      · have H := H.2 z
        refine A_lload_n d_MO_lowest_46 rfl ?_
        refine A_goto 51 d_MO_lowest_47 (by decide) ?_
        refine A_lload d_MO_lowest_51 rfl ?_
        obtain ⟨c2, H⟩ := H
        refine A_ldiv c2 d_MO_lowest_53 ?_
        exact A_lret d_MO_lowest_54 rfl H
    · have H := H.2 z
      refine A_lload d_MO_lowest_23 rfl ?_
      refine A_lload d_MO_lowest_25 rfl ?_
      obtain ⟨c3, H⟩ := H
      refine A_lrem c3 d_MO_lowest_27 ?_
      refine A_lstore [some (.long y0), none, some (.long y2), none, some (.int x4), some (.long y5), none, some (.long y7), none, some (.long (y5 - y5 / y7 * y7)), none] d_MO_lowest_28 (by decide) rfl rfl ?_
      refine A_lload d_MO_lowest_30 rfl ?_
      refine A_lstore [some (.long y0), none, some (.long y2), none, some (.int x4), some (.long y7), none, some (.long y7), none, some (.long (y5 - y5 / y7 * y7)), none] d_MO_lowest_32 (by decide) rfl rfl ?_
      refine A_lload d_MO_lowest_34 rfl ?_
      refine A_lstore [some (.long y0), none, some (.long y2), none, some (.int x4), some (.long y7), none, some (.long (y5 - y5 / y7 * y7)), none, some (.long (y5 - y5 / y7 * y7)), none] d_MO_lowest_36 (by decide) rfl rfl ?_
      refine A_goto 16 d_MO_lowest_38 (by decide) ?_
      refine A_sub (L' := [some (.long y0), none, some (.long y2), none, some (.int x4), some (.long y7), none, some (.long (y5 - y5 / y7 * y7)), none, none, none]) ⟨rfl, rfl, rfl, rfl, rfl, trivial⟩ ?_
      exact k16 _ _ _ _ _ _ H
set_option maxRecDepth 20000 in
theorem r_MO_lowest_0 {G : GG} {d : Nat} {Q : Int64 → AH → Prop} (y0 : Int64) (y2 : Int64) (x4 : Int32) (h : AH) (H : p_MO_lowest Q y0 y2 x4 h) : Att G T1 m_MO_lowest d 0 [some (.long y0), none, some (.long y2), none, some (.int x4), none, none, none, none, none, none] [] h 0 0 (lQ Q) := by
  refine A_lload_n d_MO_lowest_0 rfl ?_
  refine A_lconst 0 (by decide) d_MO_lowest_1 ?_
  refine A_lcmp d_MO_lowest_2 ?_
  refine A_if_ne 10 d_MO_lowest_3 (by decide) (fun z => ?_) (fun z => ?_)
  · have H := H.1 z
    refine A_lload_n d_MO_lowest_10 rfl ?_
    refine A_lstore [some (.long y0), none, some (.long y2), none, some (.int x4), some (.long y0), none, none, none, none, none] d_MO_lowest_11 (by decide) rfl rfl ?_
    refine A_lload_n d_MO_lowest_13 rfl ?_
    refine A_lstore [some (.long y0), none, some (.long y2), none, some (.int x4), some (.long y0), none, some (.long y2), none, none, none] d_MO_lowest_14 (by decide) rfl rfl ?_
    obtain ⟨n9, H⟩ := H
    exact r_MO_lowest_16   n9 _ _ _ _ _ _ H
  · have H := H.2 z
    refine A_iload d_MO_lowest_6 rfl ?_
    refine A_i2l d_MO_lowest_8 ?_
    exact A_lret d_MO_lowest_9 rfl H
set_option maxRecDepth 20000 in
theorem ok_MO_lowest {G : GG} {d : Nat} {Q : Int64 → AH → Prop} {y0 : Int64} {y2 : Int64} {x4 : Int32} {h : AH} (H : p_MO_lowest Q y0 y2 x4 h) : WP G T1 m_MO_lowest d [.long y0, .long y2, .int x4] h 0 0 (lQ Q) := by
  exact WP.enter 6 (by decide) rfl rfl (r_MO_lowest_0 y0 y2 x4 h H)
theorem d_MO_image_0 : decode prog_14_method_76_code 0 = .ok (.aload_n 0, 1) := by decide +kernel
theorem d_MO_image_1 : decode prog_14_method_76_code 1 = .ok (.iconst 1, 1) := by decide +kernel
theorem d_MO_image_2 : decode prog_14_method_76_code 2 = .ok (.putfield 286, 3) := by decide +kernel
theorem d_MO_image_5 : decode prog_14_method_76_code 5 = .ok (.aload_n 0, 1) := by decide +kernel
theorem d_MO_image_6 : decode prog_14_method_76_code 6 = .ok (.aload_n 0, 1) := by decide +kernel
theorem d_MO_image_7 : decode prog_14_method_76_code 7 = .ok (.getfield 90, 3) := by decide +kernel
theorem d_MO_image_10 : decode prog_14_method_76_code 10 = .ok (.putfield 290, 3) := by decide +kernel
theorem d_MO_image_13 : decode prog_14_method_76_code 13 = .ok (.aload_n 0, 1) := by decide +kernel
theorem d_MO_image_14 : decode prog_14_method_76_code 14 = .ok (.aload_n 0, 1) := by decide +kernel
theorem d_MO_image_15 : decode prog_14_method_76_code 15 = .ok (.getfield 110, 3) := by decide +kernel
theorem d_MO_image_18 : decode prog_14_method_76_code 18 = .ok (.putfield 293, 3) := by decide +kernel
theorem d_MO_image_21 : decode prog_14_method_76_code 21 = .ok (.iconst 0, 1) := by decide +kernel
theorem d_MO_image_22 : decode prog_14_method_76_code 22 = .ok (.istore_n 1, 1) := by decide +kernel
theorem d_MO_image_23 : decode prog_14_method_76_code 23 = .ok (.iload_n 1, 1) := by decide +kernel
theorem d_MO_image_24 : decode prog_14_method_76_code 24 = .ok (.bipush 7, 2) := by decide +kernel
theorem d_MO_image_26 : decode prog_14_method_76_code 26 = .ok (.if_icmp .ge 51, 3) := by decide +kernel
theorem d_MO_image_29 : decode prog_14_method_76_code 29 = .ok (.aload_n 0, 1) := by decide +kernel
theorem d_MO_image_30 : decode prog_14_method_76_code 30 = .ok (.getfield 37, 3) := by decide +kernel
theorem d_MO_image_33 : decode prog_14_method_76_code 33 = .ok (.iload_n 1, 1) := by decide +kernel
theorem d_MO_image_34 : decode prog_14_method_76_code 34 = .ok (.aload_n 0, 1) := by decide +kernel
theorem d_MO_image_35 : decode prog_14_method_76_code 35 = .ok (.getfield 19, 3) := by decide +kernel
theorem d_MO_image_38 : decode prog_14_method_76_code 38 = .ok (.iload_n 1, 1) := by decide +kernel
theorem d_MO_image_39 : decode prog_14_method_76_code 39 = .ok (.iaload, 1) := by decide +kernel
theorem d_MO_image_40 : decode prog_14_method_76_code 40 = .ok (.iastore, 1) := by decide +kernel
theorem d_MO_image_41 : decode prog_14_method_76_code 41 = .ok (.aload_n 0, 1) := by decide +kernel
theorem d_MO_image_42 : decode prog_14_method_76_code 42 = .ok (.getfield 37, 3) := by decide +kernel
theorem d_MO_image_45 : decode prog_14_method_76_code 45 = .ok (.bipush 7, 2) := by decide +kernel
theorem d_MO_image_47 : decode prog_14_method_76_code 47 = .ok (.iload_n 1, 1) := by decide +kernel
theorem d_MO_image_48 : decode prog_14_method_76_code 48 = .ok (.iadd, 1) := by decide +kernel
theorem d_MO_image_49 : decode prog_14_method_76_code 49 = .ok (.aload_n 0, 1) := by decide +kernel
theorem d_MO_image_50 : decode prog_14_method_76_code 50 = .ok (.getfield 22, 3) := by decide +kernel
theorem d_MO_image_53 : decode prog_14_method_76_code 53 = .ok (.iload_n 1, 1) := by decide +kernel
theorem d_MO_image_54 : decode prog_14_method_76_code 54 = .ok (.iaload, 1) := by decide +kernel
theorem d_MO_image_55 : decode prog_14_method_76_code 55 = .ok (.iastore, 1) := by decide +kernel
theorem d_MO_image_56 : decode prog_14_method_76_code 56 = .ok (.aload_n 0, 1) := by decide +kernel
theorem d_MO_image_57 : decode prog_14_method_76_code 57 = .ok (.getfield 37, 3) := by decide +kernel
theorem d_MO_image_60 : decode prog_14_method_76_code 60 = .ok (.bipush 14, 2) := by decide +kernel
theorem d_MO_image_62 : decode prog_14_method_76_code 62 = .ok (.iload_n 1, 1) := by decide +kernel
theorem d_MO_image_63 : decode prog_14_method_76_code 63 = .ok (.iadd, 1) := by decide +kernel
theorem d_MO_image_64 : decode prog_14_method_76_code 64 = .ok (.aload_n 0, 1) := by decide +kernel
theorem d_MO_image_65 : decode prog_14_method_76_code 65 = .ok (.getfield 25, 3) := by decide +kernel
theorem d_MO_image_68 : decode prog_14_method_76_code 68 = .ok (.iload_n 1, 1) := by decide +kernel
theorem d_MO_image_69 : decode prog_14_method_76_code 69 = .ok (.iaload, 1) := by decide +kernel
theorem d_MO_image_70 : decode prog_14_method_76_code 70 = .ok (.iastore, 1) := by decide +kernel
theorem d_MO_image_71 : decode prog_14_method_76_code 71 = .ok (.iinc 1 1, 3) := by decide +kernel
theorem d_MO_image_74 : decode prog_14_method_76_code 74 = .ok (.goto (-51), 3) := by decide +kernel
theorem d_MO_image_77 : decode prog_14_method_76_code 77 = .ok (.aload_n 0, 1) := by decide +kernel
theorem d_MO_image_78 : decode prog_14_method_76_code 78 = .ok (.getfield 90, 3) := by decide +kernel
theorem d_MO_image_81 : decode prog_14_method_76_code 81 = .ok (.ireturn, 1) := by decide +kernel
def p_MO_image_23 (Q : Int32 → AH → Prop) : Nat → Int32 → AH → Prop
  | 0 => fun _ _ => False
  | n + 1 => fun x1 h => let K23 := p_MO_image_23 Q n; ((7 ≤ x1 → Q (h.1 59 0) h) ∧ (¬ 7 ≤ x1 → inb x1 7 ∧ inb x1 21 ∧ inb (7 + x1) 21 ∧ inb (14 + x1) 21 ∧ K23 (x1 + 1) (wI (wI (wI h 69 x1 (h.1 63 x1)) 69 (7 + x1) (h.1 64 x1)) 69 (14 + x1) (h.1 65 x1))))
def p_MO_image (Q : Int32 → AH → Prop) (h : AH) : Prop := ∃ n, p_MO_image_23 Q   n 0 (wI (wI (wI h 59 13 1) 59 14 (h.1 59 0)) 59 15 (h.1 59 12))
set_option maxRecDepth 20000 in
theorem r_MO_image_23 {G : GG} {d : Nat} {Q : Int32 → AH → Prop} : ∀ (n : Nat) (x1 : Int32) (h : AH), p_MO_image_23 Q n x1 h → Att G T1 m_MO_image d 23 [some (.ref 59), some (.int x1)] [] h 0 0 (iQ Q) := by
  intro n
  induction n with
  | zero => intro x1 h H; exact H.elim
  | succ n k23 =>
    intro x1 h H
    refine A_iload_n d_MO_image_23 rfl ?_
    refine A_bipush 7 (by decide) d_MO_image_24 ?_
    refine A_icmp_ge 77 d_MO_image_26 (by decide) (fun z => ?_) (fun z => ?_)
    · have H := H.1 z
      refine A_aload_n d_MO_image_77 rfl ?_
      refine A_get (v := .int (h.1 59 0)) d_MO_image_78 (fo_MO_90_12 rfl) (vA_s (by decide)) rfl (by first | rfl | (show Value.int _ = Value.int _; simp [wI, wL, wR, wC, up])) ?_
      exact A_iret d_MO_image_81 rfl rfl H
    · have H := H.2 z
      refine A_aload_n d_MO_image_29 rfl ?_
      refine A_get (v := .ref 69) d_MO_image_30 (fo_MO_37_12 rfl) (vA_s (by decide)) rfl (by first | rfl | (show Value.int _ = Value.int _; simp [wI, wL, wR, wC, up])) ?_
      refine A_iload_n d_MO_image_33 rfl ?_
      refine A_aload_n d_MO_image_34 rfl ?_
      refine A_get (v := .ref 63) d_MO_image_35 (fo_MO_19_12 rfl) (vA_s (by decide)) rfl (by first | rfl | (show Value.int _ = Value.int _; simp [wI, wL, wR, wC, up])) ?_
      refine A_iload_n d_MO_image_38 rfl ?_
      obtain ⟨c1, H⟩ := H
      refine A_ialdv (n := 7) (v := (h.1 63 x1)) d_MO_image_39 (vA_s (by decide)) rfl c1 rfl ?_
      obtain ⟨c2, H⟩ := H
      refine A_iast (n := 21) d_MO_image_40 (vA_s (by decide)) rfl c2 ?_
      refine A_aload_n d_MO_image_41 rfl ?_
      refine A_get (v := .ref 69) d_MO_image_42 (fo_MO_37_12 rfl) (vA_s (by decide)) rfl (by first | rfl | (show Value.int _ = Value.int _; simp [wI, wL, wR, wC, up])) ?_
      refine A_bipush 7 (by decide) d_MO_image_45 ?_
      refine A_iload_n d_MO_image_47 rfl ?_
      refine A_iadd d_MO_image_48 ?_
      refine A_aload_n d_MO_image_49 rfl ?_
      refine A_get (v := .ref 64) d_MO_image_50 (fo_MO_22_12 rfl) (vA_s (by decide)) rfl (by first | rfl | (show Value.int _ = Value.int _; simp [wI, wL, wR, wC, up])) ?_
      refine A_iload_n d_MO_image_53 rfl ?_
      refine A_ialdv (n := 7) (v := (h.1 64 x1)) d_MO_image_54 (vA_s (by decide)) rfl c1 (by first | rfl | simp [wI, wL, wR, wC, up]) ?_
      obtain ⟨c3, H⟩ := H
      refine A_iast (n := 21) d_MO_image_55 (vA_s (by decide)) rfl c3 ?_
      refine A_aload_n d_MO_image_56 rfl ?_
      refine A_get (v := .ref 69) d_MO_image_57 (fo_MO_37_12 rfl) (vA_s (by decide)) rfl (by first | rfl | (show Value.int _ = Value.int _; simp [wI, wL, wR, wC, up])) ?_
      refine A_bipush 14 (by decide) d_MO_image_60 ?_
      refine A_iload_n d_MO_image_62 rfl ?_
      refine A_iadd d_MO_image_63 ?_
      refine A_aload_n d_MO_image_64 rfl ?_
      refine A_get (v := .ref 65) d_MO_image_65 (fo_MO_25_12 rfl) (vA_s (by decide)) rfl (by first | rfl | (show Value.int _ = Value.int _; simp [wI, wL, wR, wC, up])) ?_
      refine A_iload_n d_MO_image_68 rfl ?_
      refine A_ialdv (n := 7) (v := (h.1 65 x1)) d_MO_image_69 (vA_s (by decide)) rfl c1 (by first | rfl | simp [wI, wL, wR, wC, up]) ?_
      obtain ⟨c4, H⟩ := H
      refine A_iast (n := 21) d_MO_image_70 (vA_s (by decide)) rfl c4 ?_
      refine A_iinc 1 [some (.ref 59), some (.int (x1 + 1))] d_MO_image_71 rfl (by decide) (by decide) rfl rfl ?_
      refine A_goto 23 d_MO_image_74 (by decide) ?_
      exact k23 _ _ H
set_option maxRecDepth 20000 in
theorem r_MO_image_0 {G : GG} {d : Nat} {Q : Int32 → AH → Prop} (h : AH) (H : p_MO_image Q h) : Att G T1 m_MO_image d 0 [some (.ref 59), none] [] h 0 0 (iQ Q) := by
  refine A_aload_n d_MO_image_0 rfl ?_
  refine A_iconst 1 (by decide) d_MO_image_1 ?_
  refine A_putI (k := 13) d_MO_image_2 (fo_MO_286_12 rfl) (Or.inr ⟨rfl, _, ft_12_13⟩) (fun z => by cases z) rfl (vA_s (by decide)) rfl rfl rfl ?_
  refine A_aload_n d_MO_image_5 rfl ?_
  refine A_aload_n d_MO_image_6 rfl ?_
  refine A_get (v := .int (h.1 59 0)) d_MO_image_7 (fo_MO_90_12 rfl) (vA_s (by decide)) rfl (by first | rfl | (show Value.int _ = Value.int _; simp [wI, wL, wR, wC, up])) ?_
  refine A_putI (k := 14) d_MO_image_10 (fo_MO_290_12 rfl) (Or.inr ⟨rfl, _, ft_12_14⟩) (fun z => by cases z) rfl (vA_s (by decide)) rfl rfl rfl ?_
  refine A_aload_n d_MO_image_13 rfl ?_
  refine A_aload_n d_MO_image_14 rfl ?_
  refine A_get (v := .int (h.1 59 12)) d_MO_image_15 (fo_MO_110_12 rfl) (vA_s (by decide)) rfl (by first | rfl | (show Value.int _ = Value.int _; simp [wI, wL, wR, wC, up])) ?_
  refine A_putI (k := 15) d_MO_image_18 (fo_MO_293_12 rfl) (Or.inr ⟨rfl, _, ft_12_15⟩) (fun z => by cases z) rfl (vA_s (by decide)) rfl rfl rfl ?_
  refine A_iconst 0 (by decide) d_MO_image_21 ?_
  refine A_istore_n [some (.ref 59), some (.int 0)] d_MO_image_22 (by decide) rfl rfl ?_
  obtain ⟨n9, H⟩ := H
  exact r_MO_image_23   n9 _ _ H
set_option maxRecDepth 20000 in
theorem ok_MO_image {G : GG} {d : Nat} {Q : Int32 → AH → Prop} {h : AH} (H : p_MO_image Q h) : WP G T1 m_MO_image d [.ref 59] h 0 0 (iQ Q) := by
  exact WP.enter 1 (by decide) rfl rfl (r_MO_image_0 h H)
theorem d_MO_back_0 : decode prog_14_method_77_code 0 = .ok (.aload_n 0, 1) := by decide +kernel
theorem d_MO_back_1 : decode prog_14_method_77_code 1 = .ok (.getfield 286, 3) := by decide +kernel
theorem d_MO_back_4 : decode prog_14_method_77_code 4 = .ok (.ifCond .ne 6, 3) := by decide +kernel
theorem d_MO_back_7 : decode prog_14_method_77_code 7 = .ok (.bipush (-3), 2) := by decide +kernel
theorem d_MO_back_9 : decode prog_14_method_77_code 9 = .ok (.ireturn, 1) := by decide +kernel
theorem d_MO_back_10 : decode prog_14_method_77_code 10 = .ok (.aload_n 0, 1) := by decide +kernel
theorem d_MO_back_11 : decode prog_14_method_77_code 11 = .ok (.aload_n 0, 1) := by decide +kernel
theorem d_MO_back_12 : decode prog_14_method_77_code 12 = .ok (.getfield 290, 3) := by decide +kernel
theorem d_MO_back_15 : decode prog_14_method_77_code 15 = .ok (.putfield 90, 3) := by decide +kernel
theorem d_MO_back_18 : decode prog_14_method_77_code 18 = .ok (.aload_n 0, 1) := by decide +kernel
theorem d_MO_back_19 : decode prog_14_method_77_code 19 = .ok (.aload_n 0, 1) := by decide +kernel
theorem d_MO_back_20 : decode prog_14_method_77_code 20 = .ok (.getfield 293, 3) := by decide +kernel
theorem d_MO_back_23 : decode prog_14_method_77_code 23 = .ok (.putfield 110, 3) := by decide +kernel
theorem d_MO_back_26 : decode prog_14_method_77_code 26 = .ok (.iconst 0, 1) := by decide +kernel
theorem d_MO_back_27 : decode prog_14_method_77_code 27 = .ok (.istore_n 1, 1) := by decide +kernel
theorem d_MO_back_28 : decode prog_14_method_77_code 28 = .ok (.iload_n 1, 1) := by decide +kernel
theorem d_MO_back_29 : decode prog_14_method_77_code 29 = .ok (.bipush 7, 2) := by decide +kernel
theorem d_MO_back_31 : decode prog_14_method_77_code 31 = .ok (.if_icmp .ge 51, 3) := by decide +kernel
theorem d_MO_back_34 : decode prog_14_method_77_code 34 = .ok (.aload_n 0, 1) := by decide +kernel
theorem d_MO_back_35 : decode prog_14_method_77_code 35 = .ok (.getfield 19, 3) := by decide +kernel
theorem d_MO_back_38 : decode prog_14_method_77_code 38 = .ok (.iload_n 1, 1) := by decide +kernel
theorem d_MO_back_39 : decode prog_14_method_77_code 39 = .ok (.aload_n 0, 1) := by decide +kernel
theorem d_MO_back_40 : decode prog_14_method_77_code 40 = .ok (.getfield 37, 3) := by decide +kernel
theorem d_MO_back_43 : decode prog_14_method_77_code 43 = .ok (.iload_n 1, 1) := by decide +kernel
theorem d_MO_back_44 : decode prog_14_method_77_code 44 = .ok (.iaload, 1) := by decide +kernel
theorem d_MO_back_45 : decode prog_14_method_77_code 45 = .ok (.iastore, 1) := by decide +kernel
theorem d_MO_back_46 : decode prog_14_method_77_code 46 = .ok (.aload_n 0, 1) := by decide +kernel
theorem d_MO_back_47 : decode prog_14_method_77_code 47 = .ok (.getfield 22, 3) := by decide +kernel
theorem d_MO_back_50 : decode prog_14_method_77_code 50 = .ok (.iload_n 1, 1) := by decide +kernel
theorem d_MO_back_51 : decode prog_14_method_77_code 51 = .ok (.aload_n 0, 1) := by decide +kernel
theorem d_MO_back_52 : decode prog_14_method_77_code 52 = .ok (.getfield 37, 3) := by decide +kernel
theorem d_MO_back_55 : decode prog_14_method_77_code 55 = .ok (.bipush 7, 2) := by decide +kernel
theorem d_MO_back_57 : decode prog_14_method_77_code 57 = .ok (.iload_n 1, 1) := by decide +kernel
theorem d_MO_back_58 : decode prog_14_method_77_code 58 = .ok (.iadd, 1) := by decide +kernel
theorem d_MO_back_59 : decode prog_14_method_77_code 59 = .ok (.iaload, 1) := by decide +kernel
theorem d_MO_back_60 : decode prog_14_method_77_code 60 = .ok (.iastore, 1) := by decide +kernel
theorem d_MO_back_61 : decode prog_14_method_77_code 61 = .ok (.aload_n 0, 1) := by decide +kernel
theorem d_MO_back_62 : decode prog_14_method_77_code 62 = .ok (.getfield 25, 3) := by decide +kernel
theorem d_MO_back_65 : decode prog_14_method_77_code 65 = .ok (.iload_n 1, 1) := by decide +kernel
theorem d_MO_back_66 : decode prog_14_method_77_code 66 = .ok (.aload_n 0, 1) := by decide +kernel
theorem d_MO_back_67 : decode prog_14_method_77_code 67 = .ok (.getfield 37, 3) := by decide +kernel
theorem d_MO_back_70 : decode prog_14_method_77_code 70 = .ok (.bipush 14, 2) := by decide +kernel
theorem d_MO_back_72 : decode prog_14_method_77_code 72 = .ok (.iload_n 1, 1) := by decide +kernel
theorem d_MO_back_73 : decode prog_14_method_77_code 73 = .ok (.iadd, 1) := by decide +kernel
theorem d_MO_back_74 : decode prog_14_method_77_code 74 = .ok (.iaload, 1) := by decide +kernel
theorem d_MO_back_75 : decode prog_14_method_77_code 75 = .ok (.iastore, 1) := by decide +kernel
theorem d_MO_back_76 : decode prog_14_method_77_code 76 = .ok (.iinc 1 1, 3) := by decide +kernel
theorem d_MO_back_79 : decode prog_14_method_77_code 79 = .ok (.goto (-51), 3) := by decide +kernel
theorem d_MO_back_82 : decode prog_14_method_77_code 82 = .ok (.aload_n 0, 1) := by decide +kernel
theorem d_MO_back_83 : decode prog_14_method_77_code 83 = .ok (.getfield 90, 3) := by decide +kernel
theorem d_MO_back_86 : decode prog_14_method_77_code 86 = .ok (.ireturn, 1) := by decide +kernel
def p_MO_back_28 (Q : Int32 → AH → Prop) : Nat → Int32 → AH → Prop
  | 0 => fun _ _ => False
  | n + 1 => fun x1 h => let K28 := p_MO_back_28 Q n; ((7 ≤ x1 → Q (h.1 59 0) h) ∧ (¬ 7 ≤ x1 → inb x1 21 ∧ inb x1 7 ∧ inb (7 + x1) 21 ∧ inb (14 + x1) 21 ∧ K28 (x1 + 1) (wI (wI (wI h 63 x1 (h.1 69 x1)) 64 x1 (h.1 69 (7 + x1))) 65 x1 (h.1 69 (14 + x1)))))
def p_MO_back (Q : Int32 → AH → Prop) (h : AH) : Prop := ((¬ (h.1 59 13) = 0 → ∃ n, p_MO_back_28 Q   n 0 (wI (wI h 59 0 (h.1 59 14)) 59 12 (h.1 59 15))) ∧ ((h.1 59 13) = 0 → Q (-3) h))
set_option maxRecDepth 20000 in
theorem r_MO_back_28 {G : GG} {d : Nat} {Q : Int32 → AH → Prop} : ∀ (n : Nat) (x1 : Int32) (h : AH), p_MO_back_28 Q n x1 h → Att G T1 m_MO_back d 28 [some (.ref 59), some (.int x1)] [] h 0 0 (iQ Q) := by
  intro n
  induction n with
  | zero => intro x1 h H; exact H.elim
  | succ n k28 =>
    intro x1 h H
    refine A_iload_n d_MO_back_28 rfl ?_
    refine A_bipush 7 (by decide) d_MO_back_29 ?_
    refine A_icmp_ge 82 d_MO_back_31 (by decide) (fun z => ?_) (fun z => ?_)
    · have H := H.1 z
      refine A_aload_n d_MO_back_82 rfl ?_
      refine A_get (v := .int (h.1 59 0)) d_MO_back_83 (fo_MO_90_12 rfl) (vA_s (by decide)) rfl (by first | rfl | (show Value.int _ = Value.int _; simp [wI, wL, wR, wC, up])) ?_
      exact A_iret d_MO_back_86 rfl rfl H
    · have H := H.2 z
      refine A_aload_n d_MO_back_34 rfl ?_
      refine A_get (v := .ref 63) d_MO_back_35 (fo_MO_19_12 rfl) (vA_s (by decide)) rfl (by first | rfl | (show Value.int _ = Value.int _; simp [wI, wL, wR, wC, up])) ?_
      refine A_iload_n d_MO_back_38 rfl ?_
      refine A_aload_n d_MO_back_39 rfl ?_
      refine A_get (v := .ref 69) d_MO_back_40 (fo_MO_37_12 rfl) (vA_s (by decide)) rfl (by first | rfl | (show Value.int _ = Value.int _; simp [wI, wL, wR, wC, up])) ?_
      refine A_iload_n d_MO_back_43 rfl ?_
      obtain ⟨c1, H⟩ := H
      refine A_ialdv (n := 21) (v := (h.1 69 x1)) d_MO_back_44 (vA_s (by decide)) rfl c1 rfl ?_
      obtain ⟨c2, H⟩ := H
      refine A_iast (n := 7) d_MO_back_45 (vA_s (by decide)) rfl c2 ?_
      refine A_aload_n d_MO_back_46 rfl ?_
      refine A_get (v := .ref 64) d_MO_back_47 (fo_MO_22_12 rfl) (vA_s (by decide)) rfl (by first | rfl | (show Value.int _ = Value.int _; simp [wI, wL, wR, wC, up])) ?_
      refine A_iload_n d_MO_back_50 rfl ?_
      refine A_aload_n d_MO_back_51 rfl ?_
      refine A_get (v := .ref 69) d_MO_back_52 (fo_MO_37_12 rfl) (vA_s (by decide)) rfl (by first | rfl | (show Value.int _ = Value.int _; simp [wI, wL, wR, wC, up])) ?_
      refine A_bipush 7 (by decide) d_MO_back_55 ?_
      refine A_iload_n d_MO_back_57 rfl ?_
      refine A_iadd d_MO_back_58 ?_
      obtain ⟨c3, H⟩ := H
      refine A_ialdv (n := 21) (v := (h.1 69 (7 + x1))) d_MO_back_59 (vA_s (by decide)) rfl c3 (by first | rfl | simp [wI, wL, wR, wC, up]) ?_
      refine A_iast (n := 7) d_MO_back_60 (vA_s (by decide)) rfl c2 ?_
      refine A_aload_n d_MO_back_61 rfl ?_
      refine A_get (v := .ref 65) d_MO_back_62 (fo_MO_25_12 rfl) (vA_s (by decide)) rfl (by first | rfl | (show Value.int _ = Value.int _; simp [wI, wL, wR, wC, up])) ?_
      refine A_iload_n d_MO_back_65 rfl ?_
      refine A_aload_n d_MO_back_66 rfl ?_
      refine A_get (v := .ref 69) d_MO_back_67 (fo_MO_37_12 rfl) (vA_s (by decide)) rfl (by first | rfl | (show Value.int _ = Value.int _; simp [wI, wL, wR, wC, up])) ?_
      refine A_bipush 14 (by decide) d_MO_back_70 ?_
      refine A_iload_n d_MO_back_72 rfl ?_
      refine A_iadd d_MO_back_73 ?_
      obtain ⟨c4, H⟩ := H
      refine A_ialdv (n := 21) (v := (h.1 69 (14 + x1))) d_MO_back_74 (vA_s (by decide)) rfl c4 (by first | rfl | simp [wI, wL, wR, wC, up]) ?_
      refine A_iast (n := 7) d_MO_back_75 (vA_s (by decide)) rfl c2 ?_
      refine A_iinc 1 [some (.ref 59), some (.int (x1 + 1))] d_MO_back_76 rfl (by decide) (by decide) rfl rfl ?_
      refine A_goto 28 d_MO_back_79 (by decide) ?_
      exact k28 _ _ H
set_option maxRecDepth 20000 in
theorem r_MO_back_0 {G : GG} {d : Nat} {Q : Int32 → AH → Prop} (h : AH) (H : p_MO_back Q h) : Att G T1 m_MO_back d 0 [some (.ref 59), none] [] h 0 0 (iQ Q) := by
  refine A_aload_n d_MO_back_0 rfl ?_
  refine A_get (v := .int (h.1 59 13)) d_MO_back_1 (fo_MO_286_12 rfl) (vA_s (by decide)) rfl (by first | rfl | (show Value.int _ = Value.int _; simp [wI, wL, wR, wC, up])) ?_
  refine A_if_ne 10 d_MO_back_4 (by decide) (fun z => ?_) (fun z => ?_)
  · have H := H.1 z
    refine A_aload_n d_MO_back_10 rfl ?_
    refine A_aload_n d_MO_back_11 rfl ?_
    refine A_get (v := .int (h.1 59 14)) d_MO_back_12 (fo_MO_290_12 rfl) (vA_s (by decide)) rfl (by first | rfl | (show Value.int _ = Value.int _; simp [wI, wL, wR, wC, up])) ?_
    refine A_putI (k := 0) d_MO_back_15 (fo_MO_90_12 rfl) (Or.inr ⟨rfl, _, ft_12_0⟩) (fun z => by cases z) rfl (vA_s (by decide)) rfl rfl rfl ?_
    refine A_aload_n d_MO_back_18 rfl ?_
    refine A_aload_n d_MO_back_19 rfl ?_
    refine A_get (v := .int (h.1 59 15)) d_MO_back_20 (fo_MO_293_12 rfl) (vA_s (by decide)) rfl (by first | rfl | (show Value.int _ = Value.int _; simp [wI, wL, wR, wC, up])) ?_
    refine A_putI (k := 12) d_MO_back_23 (fo_MO_110_12 rfl) (Or.inr ⟨rfl, _, ft_12_12⟩) (fun z => by cases z) rfl (vA_s (by decide)) rfl rfl rfl ?_
    refine A_iconst 0 (by decide) d_MO_back_26 ?_
    refine A_istore_n [some (.ref 59), some (.int 0)] d_MO_back_27 (by decide) rfl rfl ?_
    obtain ⟨n9, H⟩ := H
    exact r_MO_back_28   n9 _ _ H
  · have H := H.2 z
    refine A_bipush (-3) (by decide) d_MO_back_7 ?_
    exact A_iret d_MO_back_9 rfl rfl H
set_option maxRecDepth 20000 in
theorem ok_MO_back {G : GG} {d : Nat} {Q : Int32 → AH → Prop} {h : AH} (H : p_MO_back Q h) : WP G T1 m_MO_back d [.ref 59] h 0 0 (iQ Q) := by
  exact WP.enter 1 (by decide) rfl rfl (r_MO_back_0 h H)
theorem d_MO_isUnder_0 : decode prog_14_method_82_code 0 = .ok (.iload_n 1, 1) := by decide +kernel
theorem d_MO_isUnder_1 : decode prog_14_method_82_code 1 = .ok (.ifCond .eq 28, 3) := by decide +kernel
theorem d_MO_isUnder_4 : decode prog_14_method_82_code 4 = .ok (.iload_n 0, 1) := by decide +kernel
theorem d_MO_isUnder_5 : decode prog_14_method_82_code 5 = .ok (.iload_n 1, 1) := by decide +kernel
theorem d_MO_isUnder_6 : decode prog_14_method_82_code 6 = .ok (.if_icmp .eq 23, 3) := by decide +kernel
theorem d_MO_isUnder_9 : decode prog_14_method_82_code 9 = .ok (.iload_n 1, 1) := by decide +kernel
theorem d_MO_isUnder_10 : decode prog_14_method_82_code 10 = .ok (.iconst 1, 1) := by decide +kernel
theorem d_MO_isUnder_11 : decode prog_14_method_82_code 11 = .ok (.if_icmp .ne 8, 3) := by decide +kernel
theorem d_MO_isUnder_14 : decode prog_14_method_82_code 14 = .ok (.iload_n 0, 1) := by decide +kernel
theorem d_MO_isUnder_15 : decode prog_14_method_82_code 15 = .ok (.iconst 3, 1) := by decide +kernel
theorem d_MO_isUnder_16 : decode prog_14_method_82_code 16 = .ok (.if_icmp .eq 13, 3) := by decide +kernel
theorem d_MO_isUnder_19 : decode prog_14_method_82_code 19 = .ok (.iload_n 1, 1) := by decide +kernel
theorem d_MO_isUnder_20 : decode prog_14_method_82_code 20 = .ok (.iconst 2, 1) := by decide +kernel
theorem d_MO_isUnder_21 : decode prog_14_method_82_code 21 = .ok (.if_icmp .ne 12, 3) := by decide +kernel
theorem d_MO_isUnder_24 : decode prog_14_method_82_code 24 = .ok (.iload_n 0, 1) := by decide +kernel
theorem d_MO_isUnder_25 : decode prog_14_method_82_code 25 = .ok (.iconst 4, 1) := by decide +kernel
theorem d_MO_isUnder_26 : decode prog_14_method_82_code 26 = .ok (.if_icmp .ne 7, 3) := by decide +kernel
theorem d_MO_isUnder_29 : decode prog_14_method_82_code 29 = .ok (.iconst 1, 1) := by decide +kernel
theorem d_MO_isUnder_30 : decode prog_14_method_82_code 30 = .ok (.goto 4, 3) := by decide +kernel
theorem d_MO_isUnder_33 : decode prog_14_method_82_code 33 = .ok (.iconst 0, 1) := by decide +kernel
theorem d_MO_isUnder_34 : decode prog_14_method_82_code 34 = .ok (.ireturn, 1) := by decide +kernel
def p_MO_isUnder_19 (Q : Int32 → AH → Prop) (x0 : Int32) (x1 : Int32) (h : AH) : Prop := ((¬ x1 = 2 → Q 0 h) ∧ (x1 = 2 → ((¬ x0 = 4 → Q 0 h) ∧ (x0 = 4 → Q 1 h))))
def p_MO_isUnder (Q : Int32 → AH → Prop) (x0 : Int32) (x1 : Int32) (h : AH) : Prop := ((x1 = 0 → Q 1 h) ∧ (¬ x1 = 0 → ((x0 = x1 → Q 1 h) ∧ (¬ x0 = x1 → ((¬ x1 = 1 → p_MO_isUnder_19 Q   x0 x1 h) ∧ (x1 = 1 → ((x0 = 3 → Q 1 h) ∧ (¬ x0 = 3 → p_MO_isUnder_19 Q   x0 x1 h))))))))
set_option maxRecDepth 20000 in
theorem r_MO_isUnder_19 {G : GG} {d : Nat} {Q : Int32 → AH → Prop} (x0 : Int32) (x1 : Int32) (h : AH) (H : p_MO_isUnder_19 Q x0 x1 h) : Att G T1 m_MO_isUnder d 19 [some (.int x0), some (.int x1)] [] h 0 0 (iQ Q) := by
  refine A_iload_n d_MO_isUnder_19 rfl ?_
  refine A_iconst 2 (by decide) d_MO_isUnder_20 ?_
  refine A_icmp_ne 33 d_MO_isUnder_21 (by decide) (fun z => ?_) (fun z => ?_)
  · have H := H.1 z
    refine A_iconst 0 (by decide) d_MO_isUnder_33 ?_
    exact A_iret d_MO_isUnder_34 rfl rfl H
  · have H := H.2 z
    refine A_iload_n d_MO_isUnder_24 rfl ?_
    refine A_iconst 4 (by decide) d_MO_isUnder_25 ?_
    refine A_icmp_ne 33 d_MO_isUnder_26 (by decide) (fun z => ?_) (fun z => ?_)
    · have H := H.1 z
      refine A_iconst 0 (by decide) d_MO_isUnder_33 ?_
      exact A_iret d_MO_isUnder_34 rfl rfl H
    · have H := H.2 z
      refine A_iconst 1 (by decide) d_MO_isUnder_29 ?_
      refine A_goto 34 d_MO_isUnder_30 (by decide) ?_
      exact A_iret d_MO_isUnder_34 rfl rfl H
set_option maxRecDepth 20000 in
theorem r_MO_isUnder_0 {G : GG} {d : Nat} {Q : Int32 → AH → Prop} (x0 : Int32) (x1 : Int32) (h : AH) (H : p_MO_isUnder Q x0 x1 h) : Att G T1 m_MO_isUnder d 0 [some (.int x0), some (.int x1)] [] h 0 0 (iQ Q) := by
  refine A_iload_n d_MO_isUnder_0 rfl ?_
  refine A_if_eq 29 d_MO_isUnder_1 (by decide) (fun z => ?_) (fun z => ?_)
  · have H := H.1 z
    refine A_iconst 1 (by decide) d_MO_isUnder_29 ?_
    refine A_goto 34 d_MO_isUnder_30 (by decide) ?_
    exact A_iret d_MO_isUnder_34 rfl rfl H
  · have H := H.2 z
    refine A_iload_n d_MO_isUnder_4 rfl ?_
    refine A_iload_n d_MO_isUnder_5 rfl ?_
    refine A_icmp_eq 29 d_MO_isUnder_6 (by decide) (fun z => ?_) (fun z => ?_)
    · have H := H.1 z
      refine A_iconst 1 (by decide) d_MO_isUnder_29 ?_
      refine A_goto 34 d_MO_isUnder_30 (by decide) ?_
      exact A_iret d_MO_isUnder_34 rfl rfl H
    · have H := H.2 z
      refine A_iload_n d_MO_isUnder_9 rfl ?_
      refine A_iconst 1 (by decide) d_MO_isUnder_10 ?_
      refine A_icmp_ne 19 d_MO_isUnder_11 (by decide) (fun z => ?_) (fun z => ?_)
      · have H := H.1 z
        exact r_MO_isUnder_19   _ _ _ H
      · have H := H.2 z
        refine A_iload_n d_MO_isUnder_14 rfl ?_
        refine A_iconst 3 (by decide) d_MO_isUnder_15 ?_
        refine A_icmp_eq 29 d_MO_isUnder_16 (by decide) (fun z => ?_) (fun z => ?_)
        · have H := H.1 z
          refine A_iconst 1 (by decide) d_MO_isUnder_29 ?_
          refine A_goto 34 d_MO_isUnder_30 (by decide) ?_
          exact A_iret d_MO_isUnder_34 rfl rfl H
        · have H := H.2 z
          exact r_MO_isUnder_19   _ _ _ H
set_option maxRecDepth 20000 in
theorem ok_MO_isUnder {G : GG} {d : Nat} {Q : Int32 → AH → Prop} {x0 : Int32} {x1 : Int32} {h : AH} (H : p_MO_isUnder Q x0 x1 h) : WP G T1 m_MO_isUnder d [.int x0, .int x1] h 0 0 (iQ Q) := by
  exact WP.enter 0 (by decide) rfl rfl (r_MO_isUnder_0 x0 x1 h H)
theorem d_Math_max_0 : decode prog_16_method_65_code 0 = .ok (.iload_n 0, 1) := by decide +kernel
theorem d_Math_max_1 : decode prog_16_method_65_code 1 = .ok (.iload_n 1, 1) := by decide +kernel
theorem d_Math_max_2 : decode prog_16_method_65_code 2 = .ok (.if_icmp .lt 7, 3) := by decide +kernel
theorem d_Math_max_5 : decode prog_16_method_65_code 5 = .ok (.iload_n 0, 1) := by decide +kernel
theorem d_Math_max_6 : decode prog_16_method_65_code 6 = .ok (.goto 4, 3) := by decide +kernel
theorem d_Math_max_9 : decode prog_16_method_65_code 9 = .ok (.iload_n 1, 1) := by decide +kernel
theorem d_Math_max_10 : decode prog_16_method_65_code 10 = .ok (.ireturn, 1) := by decide +kernel
def p_Math_max (Q : Int32 → AH → Prop) (x0 : Int32) (x1 : Int32) (h : AH) : Prop := ((x0 < x1 → Q x1 h) ∧ (¬ x0 < x1 → Q x0 h))
set_option maxRecDepth 20000 in
theorem r_Math_max_0 {G : GG} {d : Nat} {Q : Int32 → AH → Prop} (x0 : Int32) (x1 : Int32) (h : AH) (H : p_Math_max Q x0 x1 h) : Att G T1 m_Math_max d 0 [some (.int x0), some (.int x1)] [] h 0 0 (iQ Q) := by
  refine A_iload_n d_Math_max_0 rfl ?_
  refine A_iload_n d_Math_max_1 rfl ?_
  refine A_icmp_lt 9 d_Math_max_2 (by decide) (fun z => ?_) (fun z => ?_)
  · have H := H.1 z
    refine A_iload_n d_Math_max_9 rfl ?_
    exact A_iret d_Math_max_10 rfl rfl H
  · have H := H.2 z
    refine A_iload_n d_Math_max_5 rfl ?_
    refine A_goto 10 d_Math_max_6 (by decide) ?_
    exact A_iret d_Math_max_10 rfl rfl H
set_option maxRecDepth 20000 in
theorem ok_Math_max {G : GG} {d : Nat} {Q : Int32 → AH → Prop} {x0 : Int32} {x1 : Int32} {h : AH} (H : p_Math_max Q x0 x1 h) : WP G T1 m_Math_max d [.int x0, .int x1] h 0 0 (iQ Q) := by
  exact WP.enterF 0 (by decide +kernel) rfl rfl (r_Math_max_0 x0 x1 h H)
theorem d_Math_min_0 : decode prog_16_method_69_code 0 = .ok (.iload_n 0, 1) := by decide +kernel
theorem d_Math_min_1 : decode prog_16_method_69_code 1 = .ok (.iload_n 1, 1) := by decide +kernel
theorem d_Math_min_2 : decode prog_16_method_69_code 2 = .ok (.if_icmp .gt 7, 3) := by decide +kernel
theorem d_Math_min_5 : decode prog_16_method_69_code 5 = .ok (.iload_n 0, 1) := by decide +kernel
theorem d_Math_min_6 : decode prog_16_method_69_code 6 = .ok (.goto 4, 3) := by decide +kernel
theorem d_Math_min_9 : decode prog_16_method_69_code 9 = .ok (.iload_n 1, 1) := by decide +kernel
theorem d_Math_min_10 : decode prog_16_method_69_code 10 = .ok (.ireturn, 1) := by decide +kernel
def p_Math_min (Q : Int32 → AH → Prop) (x0 : Int32) (x1 : Int32) (h : AH) : Prop := ((x1 < x0 → Q x1 h) ∧ (¬ x1 < x0 → Q x0 h))
set_option maxRecDepth 20000 in
theorem r_Math_min_0 {G : GG} {d : Nat} {Q : Int32 → AH → Prop} (x0 : Int32) (x1 : Int32) (h : AH) (H : p_Math_min Q x0 x1 h) : Att G T1 m_Math_min d 0 [some (.int x0), some (.int x1)] [] h 0 0 (iQ Q) := by
  refine A_iload_n d_Math_min_0 rfl ?_
  refine A_iload_n d_Math_min_1 rfl ?_
  refine A_icmp_gt 9 d_Math_min_2 (by decide) (fun z => ?_) (fun z => ?_)
  · have H := H.1 z
    refine A_iload_n d_Math_min_9 rfl ?_
    exact A_iret d_Math_min_10 rfl rfl H
  · have H := H.2 z
    refine A_iload_n d_Math_min_5 rfl ?_
    refine A_goto 10 d_Math_min_6 (by decide) ?_
    exact A_iret d_Math_min_10 rfl rfl H
set_option maxRecDepth 20000 in
theorem ok_Math_min {G : GG} {d : Nat} {Q : Int32 → AH → Prop} {x0 : Int32} {x1 : Int32} {h : AH} (H : p_Math_min Q x0 x1 h) : WP G T1 m_Math_min d [.int x0, .int x1] h 0 0 (iQ Q) := by
  exact WP.enterF 0 (by decide +kernel) rfl rfl (r_Math_min_0 x0 x1 h H)
theorem d_Math_abs_0 : decode prog_16_method_59_code 0 = .ok (.iload_n 0, 1) := by decide +kernel
theorem d_Math_abs_1 : decode prog_16_method_59_code 1 = .ok (.ifCond .ge 8, 3) := by decide +kernel
theorem d_Math_abs_4 : decode prog_16_method_59_code 4 = .ok (.iload_n 0, 1) := by decide +kernel
theorem d_Math_abs_5 : decode prog_16_method_59_code 5 = .ok (.ineg, 1) := by decide +kernel
theorem d_Math_abs_6 : decode prog_16_method_59_code 6 = .ok (.goto 4, 3) := by decide +kernel
theorem d_Math_abs_9 : decode prog_16_method_59_code 9 = .ok (.iload_n 0, 1) := by decide +kernel
theorem d_Math_abs_10 : decode prog_16_method_59_code 10 = .ok (.ireturn, 1) := by decide +kernel
def p_Math_abs (Q : Int32 → AH → Prop) (x0 : Int32) (h : AH) : Prop := ((0 ≤ x0 → Q x0 h) ∧ (¬ 0 ≤ x0 → Q (-x0) h))
set_option maxRecDepth 20000 in
theorem r_Math_abs_0 {G : GG} {d : Nat} {Q : Int32 → AH → Prop} (x0 : Int32) (h : AH) (H : p_Math_abs Q x0 h) : Att G T1 m_Math_abs d 0 [some (.int x0)] [] h 0 0 (iQ Q) := by
  refine A_iload_n d_Math_abs_0 rfl ?_
  refine A_if_ge 9 d_Math_abs_1 (by decide) (fun z => ?_) (fun z => ?_)
  · have H := H.1 z
    refine A_iload_n d_Math_abs_9 rfl ?_
    exact A_iret d_Math_abs_10 rfl rfl H
  · have H := H.2 z
    refine A_iload_n d_Math_abs_4 rfl ?_
    refine A_ineg d_Math_abs_5 ?_
    refine A_goto 10 d_Math_abs_6 (by decide) ?_
    exact A_iret d_Math_abs_10 rfl rfl H
set_option maxRecDepth 20000 in
theorem ok_Math_abs {G : GG} {d : Nat} {Q : Int32 → AH → Prop} {x0 : Int32} {h : AH} (H : p_Math_abs Q x0 h) : WP G T1 m_Math_abs d [.int x0] h 0 0 (iQ Q) := by
  exact WP.enterF 0 (by decide +kernel) rfl rfl (r_Math_abs_0 x0 h H)
theorem d_Integer_bitCount_0 : decode prog_15_method_49_code 0 = .ok (.iload_n 0, 1) := by decide +kernel
theorem d_Integer_bitCount_1 : decode prog_15_method_49_code 1 = .ok (.iload_n 0, 1) := by decide +kernel
theorem d_Integer_bitCount_2 : decode prog_15_method_49_code 2 = .ok (.iconst 1, 1) := by decide +kernel
theorem d_Integer_bitCount_3 : decode prog_15_method_49_code 3 = .ok (.iushr, 1) := by decide +kernel
theorem d_Integer_bitCount_4 : decode prog_15_method_49_code 4 = .ok (.ldc_w 265, 3) := by decide +kernel
theorem d_Integer_bitCount_7 : decode prog_15_method_49_code 7 = .ok (.iand, 1) := by decide +kernel
theorem d_Integer_bitCount_8 : decode prog_15_method_49_code 8 = .ok (.isub, 1) := by decide +kernel
theorem d_Integer_bitCount_9 : decode prog_15_method_49_code 9 = .ok (.istore_n 0, 1) := by decide +kernel
theorem d_Integer_bitCount_10 : decode prog_15_method_49_code 10 = .ok (.iload_n 0, 1) := by decide +kernel
theorem d_Integer_bitCount_11 : decode prog_15_method_49_code 11 = .ok (.ldc_w 266, 3) := by decide +kernel
theorem d_Integer_bitCount_14 : decode prog_15_method_49_code 14 = .ok (.iand, 1) := by decide +kernel
theorem d_Integer_bitCount_15 : decode prog_15_method_49_code 15 = .ok (.iload_n 0, 1) := by decide +kernel
theorem d_Integer_bitCount_16 : decode prog_15_method_49_code 16 = .ok (.iconst 2, 1) := by decide +kernel
theorem d_Integer_bitCount_17 : decode prog_15_method_49_code 17 = .ok (.iushr, 1) := by decide +kernel
theorem d_Integer_bitCount_18 : decode prog_15_method_49_code 18 = .ok (.ldc_w 266, 3) := by decide +kernel
theorem d_Integer_bitCount_21 : decode prog_15_method_49_code 21 = .ok (.iand, 1) := by decide +kernel
theorem d_Integer_bitCount_22 : decode prog_15_method_49_code 22 = .ok (.iadd, 1) := by decide +kernel
theorem d_Integer_bitCount_23 : decode prog_15_method_49_code 23 = .ok (.istore_n 0, 1) := by decide +kernel
theorem d_Integer_bitCount_24 : decode prog_15_method_49_code 24 = .ok (.iload_n 0, 1) := by decide +kernel
theorem d_Integer_bitCount_25 : decode prog_15_method_49_code 25 = .ok (.iload_n 0, 1) := by decide +kernel
theorem d_Integer_bitCount_26 : decode prog_15_method_49_code 26 = .ok (.iconst 4, 1) := by decide +kernel
theorem d_Integer_bitCount_27 : decode prog_15_method_49_code 27 = .ok (.iushr, 1) := by decide +kernel
theorem d_Integer_bitCount_28 : decode prog_15_method_49_code 28 = .ok (.iadd, 1) := by decide +kernel
theorem d_Integer_bitCount_29 : decode prog_15_method_49_code 29 = .ok (.ldc_w 267, 3) := by decide +kernel
theorem d_Integer_bitCount_32 : decode prog_15_method_49_code 32 = .ok (.iand, 1) := by decide +kernel
theorem d_Integer_bitCount_33 : decode prog_15_method_49_code 33 = .ok (.istore_n 0, 1) := by decide +kernel
theorem d_Integer_bitCount_34 : decode prog_15_method_49_code 34 = .ok (.iload_n 0, 1) := by decide +kernel
theorem d_Integer_bitCount_35 : decode prog_15_method_49_code 35 = .ok (.iload_n 0, 1) := by decide +kernel
theorem d_Integer_bitCount_36 : decode prog_15_method_49_code 36 = .ok (.bipush 8, 2) := by decide +kernel
theorem d_Integer_bitCount_38 : decode prog_15_method_49_code 38 = .ok (.iushr, 1) := by decide +kernel
theorem d_Integer_bitCount_39 : decode prog_15_method_49_code 39 = .ok (.iadd, 1) := by decide +kernel
theorem d_Integer_bitCount_40 : decode prog_15_method_49_code 40 = .ok (.istore_n 0, 1) := by decide +kernel
theorem d_Integer_bitCount_41 : decode prog_15_method_49_code 41 = .ok (.iload_n 0, 1) := by decide +kernel
theorem d_Integer_bitCount_42 : decode prog_15_method_49_code 42 = .ok (.iload_n 0, 1) := by decide +kernel
theorem d_Integer_bitCount_43 : decode prog_15_method_49_code 43 = .ok (.bipush 16, 2) := by decide +kernel
theorem d_Integer_bitCount_45 : decode prog_15_method_49_code 45 = .ok (.iushr, 1) := by decide +kernel
theorem d_Integer_bitCount_46 : decode prog_15_method_49_code 46 = .ok (.iadd, 1) := by decide +kernel
theorem d_Integer_bitCount_47 : decode prog_15_method_49_code 47 = .ok (.istore_n 0, 1) := by decide +kernel
theorem d_Integer_bitCount_48 : decode prog_15_method_49_code 48 = .ok (.iload_n 0, 1) := by decide +kernel
theorem d_Integer_bitCount_49 : decode prog_15_method_49_code 49 = .ok (.bipush 63, 2) := by decide +kernel
theorem d_Integer_bitCount_51 : decode prog_15_method_49_code 51 = .ok (.iand, 1) := by decide +kernel
theorem d_Integer_bitCount_52 : decode prog_15_method_49_code 52 = .ok (.ireturn, 1) := by decide +kernel
def p_Integer_bitCount (Q : Int32 → AH → Prop) (x0 : Int32) (h : AH) : Prop := Q ((((((((x0 - ((((x0 : Int32).toUInt32 >>> ((1 : Int32).toUInt32 &&& Int32.toUInt32 31)).toInt32) &&& 1431655765)) &&& 858993459) + (((((x0 - ((((x0 : Int32).toUInt32 >>> ((1 : Int32).toUInt32 &&& Int32.toUInt32 31)).toInt32) &&& 1431655765)) : Int32).toUInt32 >>> ((2 : Int32).toUInt32 &&& Int32.toUInt32 31)).toInt32) &&& 858993459)) + ((((((x0 - ((((x0 : Int32).toUInt32 >>> ((1 : Int32).toUInt32 &&& Int32.toUInt32 31)).toInt32) &&& 1431655765)) &&& 858993459) + (((((x0 - ((((x0 : Int32).toUInt32 >>> ((1 : Int32).toUInt32 &&& Int32.toUInt32 31)).toInt32) &&& 1431655765)) : Int32).toUInt32 >>> ((2 : Int32).toUInt32 &&& Int32.toUInt32 31)).toInt32) &&& 858993459)) : Int32).toUInt32 >>> ((4 : Int32).toUInt32 &&& Int32.toUInt32 31)).toInt32)) &&& 252645135) + ((((((((x0 - ((((x0 : Int32).toUInt32 >>> ((1 : Int32).toUInt32 &&& Int32.toUInt32 31)).toInt32) &&& 1431655765)) &&& 858993459) + (((((x0 - ((((x0 : Int32).toUInt32 >>> ((1 : Int32).toUInt32 &&& Int32.toUInt32 31)).toInt32) &&& 1431655765)) : Int32).toUInt32 >>> ((2 : Int32).toUInt32 &&& Int32.toUInt32 31)).toInt32) &&& 858993459)) + ((((((x0 - ((((x0 : Int32).toUInt32 >>> ((1 : Int32).toUInt32 &&& Int32.toUInt32 31)).toInt32) &&& 1431655765)) &&& 858993459) + (((((x0 - ((((x0 : Int32).toUInt32 >>> ((1 : Int32).toUInt32 &&& Int32.toUInt32 31)).toInt32) &&& 1431655765)) : Int32).toUInt32 >>> ((2 : Int32).toUInt32 &&& Int32.toUInt32 31)).toInt32) &&& 858993459)) : Int32).toUInt32 >>> ((4 : Int32).toUInt32 &&& Int32.toUInt32 31)).toInt32)) &&& 252645135) : Int32).toUInt32 >>> ((8 : Int32).toUInt32 &&& Int32.toUInt32 31)).toInt32)) + (((((((((x0 - ((((x0 : Int32).toUInt32 >>> ((1 : Int32).toUInt32 &&& Int32.toUInt32 31)).toInt32) &&& 1431655765)) &&& 858993459) + (((((x0 - ((((x0 : Int32).toUInt32 >>> ((1 : Int32).toUInt32 &&& Int32.toUInt32 31)).toInt32) &&& 1431655765)) : Int32).toUInt32 >>> ((2 : Int32).toUInt32 &&& Int32.toUInt32 31)).toInt32) &&& 858993459)) + ((((((x0 - ((((x0 : Int32).toUInt32 >>> ((1 : Int32).toUInt32 &&& Int32.toUInt32 31)).toInt32) &&& 1431655765)) &&& 858993459) + (((((x0 - ((((x0 : Int32).toUInt32 >>> ((1 : Int32).toUInt32 &&& Int32.toUInt32 31)).toInt32) &&& 1431655765)) : Int32).toUInt32 >>> ((2 : Int32).toUInt32 &&& Int32.toUInt32 31)).toInt32) &&& 858993459)) : Int32).toUInt32 >>> ((4 : Int32).toUInt32 &&& Int32.toUInt32 31)).toInt32)) &&& 252645135) + ((((((((x0 - ((((x0 : Int32).toUInt32 >>> ((1 : Int32).toUInt32 &&& Int32.toUInt32 31)).toInt32) &&& 1431655765)) &&& 858993459) + (((((x0 - ((((x0 : Int32).toUInt32 >>> ((1 : Int32).toUInt32 &&& Int32.toUInt32 31)).toInt32) &&& 1431655765)) : Int32).toUInt32 >>> ((2 : Int32).toUInt32 &&& Int32.toUInt32 31)).toInt32) &&& 858993459)) + ((((((x0 - ((((x0 : Int32).toUInt32 >>> ((1 : Int32).toUInt32 &&& Int32.toUInt32 31)).toInt32) &&& 1431655765)) &&& 858993459) + (((((x0 - ((((x0 : Int32).toUInt32 >>> ((1 : Int32).toUInt32 &&& Int32.toUInt32 31)).toInt32) &&& 1431655765)) : Int32).toUInt32 >>> ((2 : Int32).toUInt32 &&& Int32.toUInt32 31)).toInt32) &&& 858993459)) : Int32).toUInt32 >>> ((4 : Int32).toUInt32 &&& Int32.toUInt32 31)).toInt32)) &&& 252645135) : Int32).toUInt32 >>> ((8 : Int32).toUInt32 &&& Int32.toUInt32 31)).toInt32)) : Int32).toUInt32 >>> ((16 : Int32).toUInt32 &&& Int32.toUInt32 31)).toInt32)) &&& 63) h
set_option maxRecDepth 20000 in
theorem r_Integer_bitCount_0 {G : GG} {d : Nat} {Q : Int32 → AH → Prop} (x0 : Int32) (h : AH) (H : p_Integer_bitCount Q x0 h) : Att G T1 m_Integer_bitCount d 0 [some (.int x0)] [] h 0 0 (iQ Q) := by
  refine A_iload_n d_Integer_bitCount_0 rfl ?_
  refine A_iload_n d_Integer_bitCount_1 rfl ?_
  refine A_iconst 1 (by decide) d_Integer_bitCount_2 ?_
  refine A_iushr d_Integer_bitCount_3 ?_
  refine A_ldcw 1431655765 d_Integer_bitCount_4 (tG 690 (by decide +kernel) (by decide +kernel)) ?_
  refine A_iand d_Integer_bitCount_7 ?_
  refine A_isub d_Integer_bitCount_8 ?_
  refine A_istore_n [some (.int (x0 - ((((x0 : Int32).toUInt32 >>> ((1 : Int32).toUInt32 &&& Int32.toUInt32 31)).toInt32) &&& 1431655765)))] d_Integer_bitCount_9 (by decide) rfl rfl ?_
  refine A_iload_n d_Integer_bitCount_10 rfl ?_
  refine A_ldcw 858993459 d_Integer_bitCount_11 (tG 691 (by decide +kernel) (by decide +kernel)) ?_
  refine A_iand d_Integer_bitCount_14 ?_
  refine A_iload_n d_Integer_bitCount_15 rfl ?_
  refine A_iconst 2 (by decide) d_Integer_bitCount_16 ?_
  refine A_iushr d_Integer_bitCount_17 ?_
  refine A_ldcw 858993459 d_Integer_bitCount_18 (tG 691 (by decide +kernel) (by decide +kernel)) ?_
  refine A_iand d_Integer_bitCount_21 ?_
  refine A_iadd d_Integer_bitCount_22 ?_
  refine A_istore_n [some (.int (((x0 - ((((x0 : Int32).toUInt32 >>> ((1 : Int32).toUInt32 &&& Int32.toUInt32 31)).toInt32) &&& 1431655765)) &&& 858993459) + (((((x0 - ((((x0 : Int32).toUInt32 >>> ((1 : Int32).toUInt32 &&& Int32.toUInt32 31)).toInt32) &&& 1431655765)) : Int32).toUInt32 >>> ((2 : Int32).toUInt32 &&& Int32.toUInt32 31)).toInt32) &&& 858993459)))] d_Integer_bitCount_23 (by decide) rfl rfl ?_
  refine A_iload_n d_Integer_bitCount_24 rfl ?_
  refine A_iload_n d_Integer_bitCount_25 rfl ?_
  refine A_iconst 4 (by decide) d_Integer_bitCount_26 ?_
  refine A_iushr d_Integer_bitCount_27 ?_
  refine A_iadd d_Integer_bitCount_28 ?_
  refine A_ldcw 252645135 d_Integer_bitCount_29 (tG 692 (by decide +kernel) (by decide +kernel)) ?_
  refine A_iand d_Integer_bitCount_32 ?_
  refine A_istore_n [some (.int (((((x0 - ((((x0 : Int32).toUInt32 >>> ((1 : Int32).toUInt32 &&& Int32.toUInt32 31)).toInt32) &&& 1431655765)) &&& 858993459) + (((((x0 - ((((x0 : Int32).toUInt32 >>> ((1 : Int32).toUInt32 &&& Int32.toUInt32 31)).toInt32) &&& 1431655765)) : Int32).toUInt32 >>> ((2 : Int32).toUInt32 &&& Int32.toUInt32 31)).toInt32) &&& 858993459)) + ((((((x0 - ((((x0 : Int32).toUInt32 >>> ((1 : Int32).toUInt32 &&& Int32.toUInt32 31)).toInt32) &&& 1431655765)) &&& 858993459) + (((((x0 - ((((x0 : Int32).toUInt32 >>> ((1 : Int32).toUInt32 &&& Int32.toUInt32 31)).toInt32) &&& 1431655765)) : Int32).toUInt32 >>> ((2 : Int32).toUInt32 &&& Int32.toUInt32 31)).toInt32) &&& 858993459)) : Int32).toUInt32 >>> ((4 : Int32).toUInt32 &&& Int32.toUInt32 31)).toInt32)) &&& 252645135))] d_Integer_bitCount_33 (by decide) rfl rfl ?_
  refine A_iload_n d_Integer_bitCount_34 rfl ?_
  refine A_iload_n d_Integer_bitCount_35 rfl ?_
  refine A_bipush 8 (by decide) d_Integer_bitCount_36 ?_
  refine A_iushr d_Integer_bitCount_38 ?_
  refine A_iadd d_Integer_bitCount_39 ?_
  refine A_istore_n [some (.int ((((((x0 - ((((x0 : Int32).toUInt32 >>> ((1 : Int32).toUInt32 &&& Int32.toUInt32 31)).toInt32) &&& 1431655765)) &&& 858993459) + (((((x0 - ((((x0 : Int32).toUInt32 >>> ((1 : Int32).toUInt32 &&& Int32.toUInt32 31)).toInt32) &&& 1431655765)) : Int32).toUInt32 >>> ((2 : Int32).toUInt32 &&& Int32.toUInt32 31)).toInt32) &&& 858993459)) + ((((((x0 - ((((x0 : Int32).toUInt32 >>> ((1 : Int32).toUInt32 &&& Int32.toUInt32 31)).toInt32) &&& 1431655765)) &&& 858993459) + (((((x0 - ((((x0 : Int32).toUInt32 >>> ((1 : Int32).toUInt32 &&& Int32.toUInt32 31)).toInt32) &&& 1431655765)) : Int32).toUInt32 >>> ((2 : Int32).toUInt32 &&& Int32.toUInt32 31)).toInt32) &&& 858993459)) : Int32).toUInt32 >>> ((4 : Int32).toUInt32 &&& Int32.toUInt32 31)).toInt32)) &&& 252645135) + ((((((((x0 - ((((x0 : Int32).toUInt32 >>> ((1 : Int32).toUInt32 &&& Int32.toUInt32 31)).toInt32) &&& 1431655765)) &&& 858993459) + (((((x0 - ((((x0 : Int32).toUInt32 >>> ((1 : Int32).toUInt32 &&& Int32.toUInt32 31)).toInt32) &&& 1431655765)) : Int32).toUInt32 >>> ((2 : Int32).toUInt32 &&& Int32.toUInt32 31)).toInt32) &&& 858993459)) + ((((((x0 - ((((x0 : Int32).toUInt32 >>> ((1 : Int32).toUInt32 &&& Int32.toUInt32 31)).toInt32) &&& 1431655765)) &&& 858993459) + (((((x0 - ((((x0 : Int32).toUInt32 >>> ((1 : Int32).toUInt32 &&& Int32.toUInt32 31)).toInt32) &&& 1431655765)) : Int32).toUInt32 >>> ((2 : Int32).toUInt32 &&& Int32.toUInt32 31)).toInt32) &&& 858993459)) : Int32).toUInt32 >>> ((4 : Int32).toUInt32 &&& Int32.toUInt32 31)).toInt32)) &&& 252645135) : Int32).toUInt32 >>> ((8 : Int32).toUInt32 &&& Int32.toUInt32 31)).toInt32)))] d_Integer_bitCount_40 (by decide) rfl rfl ?_
  refine A_iload_n d_Integer_bitCount_41 rfl ?_
  refine A_iload_n d_Integer_bitCount_42 rfl ?_
  refine A_bipush 16 (by decide) d_Integer_bitCount_43 ?_
  refine A_iushr d_Integer_bitCount_45 ?_
  refine A_iadd d_Integer_bitCount_46 ?_
  refine A_istore_n [some (.int (((((((x0 - ((((x0 : Int32).toUInt32 >>> ((1 : Int32).toUInt32 &&& Int32.toUInt32 31)).toInt32) &&& 1431655765)) &&& 858993459) + (((((x0 - ((((x0 : Int32).toUInt32 >>> ((1 : Int32).toUInt32 &&& Int32.toUInt32 31)).toInt32) &&& 1431655765)) : Int32).toUInt32 >>> ((2 : Int32).toUInt32 &&& Int32.toUInt32 31)).toInt32) &&& 858993459)) + ((((((x0 - ((((x0 : Int32).toUInt32 >>> ((1 : Int32).toUInt32 &&& Int32.toUInt32 31)).toInt32) &&& 1431655765)) &&& 858993459) + (((((x0 - ((((x0 : Int32).toUInt32 >>> ((1 : Int32).toUInt32 &&& Int32.toUInt32 31)).toInt32) &&& 1431655765)) : Int32).toUInt32 >>> ((2 : Int32).toUInt32 &&& Int32.toUInt32 31)).toInt32) &&& 858993459)) : Int32).toUInt32 >>> ((4 : Int32).toUInt32 &&& Int32.toUInt32 31)).toInt32)) &&& 252645135) + ((((((((x0 - ((((x0 : Int32).toUInt32 >>> ((1 : Int32).toUInt32 &&& Int32.toUInt32 31)).toInt32) &&& 1431655765)) &&& 858993459) + (((((x0 - ((((x0 : Int32).toUInt32 >>> ((1 : Int32).toUInt32 &&& Int32.toUInt32 31)).toInt32) &&& 1431655765)) : Int32).toUInt32 >>> ((2 : Int32).toUInt32 &&& Int32.toUInt32 31)).toInt32) &&& 858993459)) + ((((((x0 - ((((x0 : Int32).toUInt32 >>> ((1 : Int32).toUInt32 &&& Int32.toUInt32 31)).toInt32) &&& 1431655765)) &&& 858993459) + (((((x0 - ((((x0 : Int32).toUInt32 >>> ((1 : Int32).toUInt32 &&& Int32.toUInt32 31)).toInt32) &&& 1431655765)) : Int32).toUInt32 >>> ((2 : Int32).toUInt32 &&& Int32.toUInt32 31)).toInt32) &&& 858993459)) : Int32).toUInt32 >>> ((4 : Int32).toUInt32 &&& Int32.toUInt32 31)).toInt32)) &&& 252645135) : Int32).toUInt32 >>> ((8 : Int32).toUInt32 &&& Int32.toUInt32 31)).toInt32)) + (((((((((x0 - ((((x0 : Int32).toUInt32 >>> ((1 : Int32).toUInt32 &&& Int32.toUInt32 31)).toInt32) &&& 1431655765)) &&& 858993459) + (((((x0 - ((((x0 : Int32).toUInt32 >>> ((1 : Int32).toUInt32 &&& Int32.toUInt32 31)).toInt32) &&& 1431655765)) : Int32).toUInt32 >>> ((2 : Int32).toUInt32 &&& Int32.toUInt32 31)).toInt32) &&& 858993459)) + ((((((x0 - ((((x0 : Int32).toUInt32 >>> ((1 : Int32).toUInt32 &&& Int32.toUInt32 31)).toInt32) &&& 1431655765)) &&& 858993459) + (((((x0 - ((((x0 : Int32).toUInt32 >>> ((1 : Int32).toUInt32 &&& Int32.toUInt32 31)).toInt32) &&& 1431655765)) : Int32).toUInt32 >>> ((2 : Int32).toUInt32 &&& Int32.toUInt32 31)).toInt32) &&& 858993459)) : Int32).toUInt32 >>> ((4 : Int32).toUInt32 &&& Int32.toUInt32 31)).toInt32)) &&& 252645135) + ((((((((x0 - ((((x0 : Int32).toUInt32 >>> ((1 : Int32).toUInt32 &&& Int32.toUInt32 31)).toInt32) &&& 1431655765)) &&& 858993459) + (((((x0 - ((((x0 : Int32).toUInt32 >>> ((1 : Int32).toUInt32 &&& Int32.toUInt32 31)).toInt32) &&& 1431655765)) : Int32).toUInt32 >>> ((2 : Int32).toUInt32 &&& Int32.toUInt32 31)).toInt32) &&& 858993459)) + ((((((x0 - ((((x0 : Int32).toUInt32 >>> ((1 : Int32).toUInt32 &&& Int32.toUInt32 31)).toInt32) &&& 1431655765)) &&& 858993459) + (((((x0 - ((((x0 : Int32).toUInt32 >>> ((1 : Int32).toUInt32 &&& Int32.toUInt32 31)).toInt32) &&& 1431655765)) : Int32).toUInt32 >>> ((2 : Int32).toUInt32 &&& Int32.toUInt32 31)).toInt32) &&& 858993459)) : Int32).toUInt32 >>> ((4 : Int32).toUInt32 &&& Int32.toUInt32 31)).toInt32)) &&& 252645135) : Int32).toUInt32 >>> ((8 : Int32).toUInt32 &&& Int32.toUInt32 31)).toInt32)) : Int32).toUInt32 >>> ((16 : Int32).toUInt32 &&& Int32.toUInt32 31)).toInt32)))] d_Integer_bitCount_47 (by decide) rfl rfl ?_
  refine A_iload_n d_Integer_bitCount_48 rfl ?_
  refine A_bipush 63 (by decide) d_Integer_bitCount_49 ?_
  refine A_iand d_Integer_bitCount_51 ?_
  exact A_iret d_Integer_bitCount_52 rfl rfl H
set_option maxRecDepth 20000 in
theorem ok_Integer_bitCount {G : GG} {d : Nat} {Q : Int32 → AH → Prop} {x0 : Int32} {h : AH} (H : p_Integer_bitCount Q x0 h) : WP G T1 m_Integer_bitCount d [.int x0] h 0 0 (iQ Q) := by
  exact WP.enter 0 (by decide) rfl rfl (r_Integer_bitCount_0 x0 h H)
theorem d_Reader_isLetter_0 : decode prog_9_method_17_code 0 = .ok (.iload_n 0, 1) := by decide +kernel
theorem d_Reader_isLetter_1 : decode prog_9_method_17_code 1 = .ok (.bipush 97, 2) := by decide +kernel
theorem d_Reader_isLetter_3 : decode prog_9_method_17_code 3 = .ok (.bipush 122, 2) := by decide +kernel
theorem d_Reader_isLetter_5 : decode prog_9_method_17_code 5 = .ok (.invokestatic 140, 3) := by decide +kernel
theorem d_Reader_isLetter_8 : decode prog_9_method_17_code 8 = .ok (.ireturn, 1) := by decide +kernel
def p_Reader_isLetter (Q : Int32 → AH → Prop) (x0 : Int32) (h : AH) : Prop := p_UF_within (fun r2 h1 => narrow .boolean (.int r2) = .int r2 ∧ Q r2 h1) x0 97 122 h
set_option maxRecDepth 20000 in
theorem r_Reader_isLetter_0 {G : GG} {d : Nat} {Q : Int32 → AH → Prop} (x0 : Int32) (h : AH) (H : p_Reader_isLetter Q x0 h) : Att G T1 m_Reader_isLetter (d + 1) 0 [some (.int x0)] [] h 0 0 (iQ Q) := by
  refine A_iload_n d_Reader_isLetter_0 rfl ?_
  refine A_bipush 97 (by decide) d_Reader_isLetter_1 ?_
  refine A_bipush 122 (by decide) d_Reader_isLetter_3 ?_
  refine A_cI [.int x0, .int 97, .int 122] [] (ct_Reader_140 rfl) d_Reader_isLetter_5 rfl rfl (by decide) (Nat.le_of_ble_eq_true rfl) trivial (ok_UF_within (d := d) H) (fun r2 h1 H => ?_)
  exact A_iret d_Reader_isLetter_8 rfl H.1 H.2
set_option maxRecDepth 20000 in
theorem ok_Reader_isLetter {G : GG} {d : Nat} {Q : Int32 → AH → Prop} {x0 : Int32} {h : AH} (H : p_Reader_isLetter Q x0 h) : WP G T1 m_Reader_isLetter (d + 1) [.int x0] h 0 0 (iQ Q) := by
  exact WP.enter 0 (by decide) rfl rfl (r_Reader_isLetter_0 x0 h H)
theorem d_Reader_isDigit_0 : decode prog_9_method_18_code 0 = .ok (.iload_n 0, 1) := by decide +kernel
theorem d_Reader_isDigit_1 : decode prog_9_method_18_code 1 = .ok (.bipush 48, 2) := by decide +kernel
theorem d_Reader_isDigit_3 : decode prog_9_method_18_code 3 = .ok (.bipush 57, 2) := by decide +kernel
theorem d_Reader_isDigit_5 : decode prog_9_method_18_code 5 = .ok (.invokestatic 140, 3) := by decide +kernel
theorem d_Reader_isDigit_8 : decode prog_9_method_18_code 8 = .ok (.ireturn, 1) := by decide +kernel
def p_Reader_isDigit (Q : Int32 → AH → Prop) (x0 : Int32) (h : AH) : Prop := p_UF_within (fun r2 h1 => narrow .boolean (.int r2) = .int r2 ∧ Q r2 h1) x0 48 57 h
set_option maxRecDepth 20000 in
theorem r_Reader_isDigit_0 {G : GG} {d : Nat} {Q : Int32 → AH → Prop} (x0 : Int32) (h : AH) (H : p_Reader_isDigit Q x0 h) : Att G T1 m_Reader_isDigit (d + 1) 0 [some (.int x0)] [] h 0 0 (iQ Q) := by
  refine A_iload_n d_Reader_isDigit_0 rfl ?_
  refine A_bipush 48 (by decide) d_Reader_isDigit_1 ?_
  refine A_bipush 57 (by decide) d_Reader_isDigit_3 ?_
  refine A_cI [.int x0, .int 48, .int 57] [] (ct_Reader_140 rfl) d_Reader_isDigit_5 rfl rfl (by decide) (Nat.le_of_ble_eq_true rfl) trivial (ok_UF_within (d := d) H) (fun r2 h1 H => ?_)
  exact A_iret d_Reader_isDigit_8 rfl H.1 H.2
set_option maxRecDepth 20000 in
theorem ok_Reader_isDigit {G : GG} {d : Nat} {Q : Int32 → AH → Prop} {x0 : Int32} {h : AH} (H : p_Reader_isDigit Q x0 h) : WP G T1 m_Reader_isDigit (d + 1) [.int x0] h 0 0 (iQ Q) := by
  exact WP.enter 0 (by decide) rfl rfl (r_Reader_isDigit_0 x0 h H)
theorem d_Law_addName_0 : decode prog_8_method_3_code 0 = .ok (.aload_n 0, 1) := by decide +kernel
theorem d_Law_addName_1 : decode prog_8_method_3_code 1 = .ok (.iconst (-1), 1) := by decide +kernel
theorem d_Law_addName_2 : decode prog_8_method_3_code 2 = .ok (.iload_n 1, 1) := by decide +kernel
theorem d_Law_addName_3 : decode prog_8_method_3_code 3 = .ok (.isub, 1) := by decide +kernel
theorem d_Law_addName_4 : decode prog_8_method_3_code 4 = .ok (.invokevirtual 22, 3) := by decide +kernel
theorem d_Law_addName_7 : decode prog_8_method_3_code 7 = .ok (.return_, 1) := by decide +kernel
def p_Law_addName (Q : AH → Prop) (a0 : Nat) (x1 : Int32) (h : AH) : Prop := vA T1 h a0 ∧ (rS T1 h a0).1 = 6 ∧ p_Law_add (fun h3 => Q h3) a0 ((-1) - x1) h
set_option maxRecDepth 20000 in
theorem r_Law_addName_0 {G : GG} {d : Nat} {Q : AH → Prop} (a0 : Nat) (x1 : Int32) (h : AH) (H : p_Law_addName Q a0 x1 h) : Att G T1 m_Law_addName (d + 1) 0 [some (.ref a0), some (.int x1)] [] h 0 0 (vQ Q) := by
  refine A_aload_n d_Law_addName_0 rfl ?_
  refine A_iconst (-1) (by decide) d_Law_addName_1 ?_
  refine A_iload_n d_Law_addName_2 rfl ?_
  refine A_isub d_Law_addName_3 ?_
  obtain ⟨c1, H⟩ := H
  obtain ⟨c2, H⟩ := H
  refine A_cV [.ref a0, .int ((-1) - x1)] [] (ct_Law_22 rfl) d_Law_addName_4 rfl rfl (by decide) (Nat.le_of_ble_eq_true rfl) (rcA_o (c := 6) rfl c1 c2 (by decide) rfl) (ok_Law_add (d := d) H) (fun h3 H => ?_)
  exact A_ret d_Law_addName_7 rfl H
set_option maxRecDepth 20000 in
theorem ok_Law_addName {G : GG} {d : Nat} {Q : AH → Prop} {a0 : Nat} {x1 : Int32} {h : AH} (H : p_Law_addName Q a0 x1 h) : WP G T1 m_Law_addName (d + 1) [.ref a0, .int x1] h 0 0 (vQ Q) := by
  exact WP.enter 0 (by decide) rfl rfl (r_Law_addName_0 a0 x1 h H)
theorem d_Town_chains_0 : decode prog_12_method_8_code 0 = .ok (.iconst 0, 1) := by decide +kernel
theorem d_Town_chains_1 : decode prog_12_method_8_code 1 = .ok (.istore_n 1, 1) := by decide +kernel
theorem d_Town_chains_2 : decode prog_12_method_8_code 2 = .ok (.iconst 0, 1) := by decide +kernel
theorem d_Town_chains_3 : decode prog_12_method_8_code 3 = .ok (.istore_n 2, 1) := by decide +kernel
theorem d_Town_chains_4 : decode prog_12_method_8_code 4 = .ok (.iload_n 2, 1) := by decide +kernel
theorem d_Town_chains_5 : decode prog_12_method_8_code 5 = .ok (.aload_n 0, 1) := by decide +kernel
theorem d_Town_chains_6 : decode prog_12_method_8_code 6 = .ok (.getfield 21, 3) := by decide +kernel
theorem d_Town_chains_9 : decode prog_12_method_8_code 9 = .ok (.if_icmp .ge 20, 3) := by decide +kernel
theorem d_Town_chains_12 : decode prog_12_method_8_code 12 = .ok (.aload_n 0, 1) := by decide +kernel
theorem d_Town_chains_13 : decode prog_12_method_8_code 13 = .ok (.iload_n 2, 1) := by decide +kernel
theorem d_Town_chains_14 : decode prog_12_method_8_code 14 = .ok (.invokevirtual 42, 3) := by decide +kernel
theorem d_Town_chains_17 : decode prog_12_method_8_code 17 = .ok (.ifCond .eq 6, 3) := by decide +kernel
theorem d_Town_chains_20 : decode prog_12_method_8_code 20 = .ok (.iinc 1 1, 3) := by decide +kernel
theorem d_Town_chains_23 : decode prog_12_method_8_code 23 = .ok (.iinc 2 1, 3) := by decide +kernel
theorem d_Town_chains_26 : decode prog_12_method_8_code 26 = .ok (.goto (-22), 3) := by decide +kernel
theorem d_Town_chains_29 : decode prog_12_method_8_code 29 = .ok (.iload_n 1, 1) := by decide +kernel
theorem d_Town_chains_30 : decode prog_12_method_8_code 30 = .ok (.ireturn, 1) := by decide +kernel
def p_Town_chains_23 (Q : Int32 → AH → Prop) (K4 : Nat → Int32 → Int32 → AH → Prop) (a0 : Nat) (x1 : Int32) (x2 : Int32) (h : AH) : Prop := K4 a0 x1 (x2 + 1) h
def p_Town_chains_4 (Q : Int32 → AH → Prop) : Nat → Nat → Int32 → Int32 → AH → Prop
  | 0 => fun _ _ _ _ => False
  | n + 1 => fun a0 x1 x2 h => let K4 := p_Town_chains_4 Q n; vA T1 h a0 ∧ (rS T1 h a0).1 = 10 ∧ (((h.1 a0 3) ≤ x2 → Q x1 h) ∧ (¬ (h.1 a0 3) ≤ x2 → p_Town_leads (fun r4 h3 => ((r4 = 0 → p_Town_chains_23 Q  K4 a0 x1 x2 h3) ∧ (¬ r4 = 0 → p_Town_chains_23 Q  K4 a0 (x1 + 1) x2 h3))) a0 x2 h))
def p_Town_chains (Q : Int32 → AH → Prop) (a0 : Nat) (h : AH) : Prop := ∃ n, p_Town_chains_4 Q   n a0 0 0 h
set_option maxRecDepth 20000 in
theorem r_Town_chains_23 {G : GG} {d : Nat} {Q : Int32 → AH → Prop} {K4 : Nat → Int32 → Int32 → AH → Prop} (k4 : ∀ a0 x1 x2 h, K4 a0 x1 x2 h → Att G T1 m_Town_chains (d + 1) 4 [some (.ref a0), some (.int x1), some (.int x2)] [] h 0 0 (iQ Q)) (a0 : Nat) (x1 : Int32) (x2 : Int32) (h : AH) (H : p_Town_chains_23 Q K4 a0 x1 x2 h) : Att G T1 m_Town_chains (d + 1) 23 [some (.ref a0), some (.int x1), some (.int x2)] [] h 0 0 (iQ Q) := by
  refine A_iinc 1 [some (.ref a0), some (.int x1), some (.int (x2 + 1))] d_Town_chains_23 rfl (by decide) (by decide) rfl rfl ?_
  refine A_goto 4 d_Town_chains_26 (by decide) ?_
  exact k4 _ _ _ _ H
set_option maxRecDepth 20000 in
theorem r_Town_chains_4 {G : GG} {d : Nat} {Q : Int32 → AH → Prop} : ∀ (n : Nat) (a0 : Nat) (x1 : Int32) (x2 : Int32) (h : AH), p_Town_chains_4 Q n a0 x1 x2 h → Att G T1 m_Town_chains (d + 1) 4 [some (.ref a0), some (.int x1), some (.int x2)] [] h 0 0 (iQ Q) := by
  intro n
  induction n with
  | zero => intro a0 x1 x2 h H; exact H.elim
  | succ n k4 =>
    intro a0 x1 x2 h H
    refine A_iload_n d_Town_chains_4 rfl ?_
    refine A_aload_n d_Town_chains_5 rfl ?_
    obtain ⟨c1, H⟩ := H
    obtain ⟨c2, H⟩ := H
    refine A_get (v := .int (h.1 a0 3)) d_Town_chains_6 (fo_Town_21_10 rfl) c1 c2 (by first | rfl | (show Value.int _ = Value.int _; simp [wI, wL, wR, wC, up])) ?_
    refine A_icmp_ge 29 d_Town_chains_9 (by decide) (fun z => ?_) (fun z => ?_)
    · have H := H.1 z
      refine A_iload_n d_Town_chains_29 rfl ?_
      exact A_iret d_Town_chains_30 rfl rfl H
    · have H := H.2 z
      refine A_aload_n d_Town_chains_12 rfl ?_
      refine A_iload_n d_Town_chains_13 rfl ?_
      refine A_cI [.ref a0, .int x2] [] (ct_Town_42 rfl) d_Town_chains_14 rfl rfl (by decide) (Nat.le_of_ble_eq_true rfl) (rcA_o (c := 10) rfl c1 c2 (by decide) rfl) (ok_Town_leads (d := d) H) (fun r4 h3 H => ?_)
      refine A_if_eq 23 d_Town_chains_17 (by decide) (fun z => ?_) (fun z => ?_)
      · have H := H.1 z
        exact r_Town_chains_23  k4 _ _ _ _ H
      · have H := H.2 z
        refine A_iinc 1 [some (.ref a0), some (.int (x1 + 1)), some (.int x2)] d_Town_chains_20 rfl (by decide) (by decide) rfl rfl ?_
        exact r_Town_chains_23  k4 _ _ _ _ H
set_option maxRecDepth 20000 in
theorem r_Town_chains_0 {G : GG} {d : Nat} {Q : Int32 → AH → Prop} (a0 : Nat) (h : AH) (H : p_Town_chains Q a0 h) : Att G T1 m_Town_chains (d + 1) 0 [some (.ref a0), none, none] [] h 0 0 (iQ Q) := by
  refine A_iconst 0 (by decide) d_Town_chains_0 ?_
  refine A_istore_n [some (.ref a0), some (.int 0), none] d_Town_chains_1 (by decide) rfl rfl ?_
  refine A_iconst 0 (by decide) d_Town_chains_2 ?_
  refine A_istore_n [some (.ref a0), some (.int 0), some (.int 0)] d_Town_chains_3 (by decide) rfl rfl ?_
  obtain ⟨n9, H⟩ := H
  exact r_Town_chains_4   n9 _ _ _ _ H
set_option maxRecDepth 20000 in
theorem ok_Town_chains {G : GG} {d : Nat} {Q : Int32 → AH → Prop} {a0 : Nat} {h : AH} (H : p_Town_chains Q a0 h) : WP G T1 m_Town_chains (d + 1) [.ref a0] h 0 0 (iQ Q) := by
  exact WP.enter 2 (by decide) rfl rfl (r_Town_chains_0 a0 h H)
theorem d_UF_isByte_0 : decode prog_1_method_38_code 0 = .ok (.iload_n 0, 1) := by decide +kernel
theorem d_UF_isByte_1 : decode prog_1_method_38_code 1 = .ok (.iconst 0, 1) := by decide +kernel
theorem d_UF_isByte_2 : decode prog_1_method_38_code 2 = .ok (.sipush 255, 3) := by decide +kernel
theorem d_UF_isByte_5 : decode prog_1_method_38_code 5 = .ok (.invokestatic 95, 3) := by decide +kernel
theorem d_UF_isByte_8 : decode prog_1_method_38_code 8 = .ok (.ireturn, 1) := by decide +kernel
def p_UF_isByte (Q : Int32 → AH → Prop) (x0 : Int32) (h : AH) : Prop := p_UF_within (fun r2 h1 => narrow .boolean (.int r2) = .int r2 ∧ Q r2 h1) x0 0 255 h
set_option maxRecDepth 20000 in
theorem r_UF_isByte_0 {G : GG} {d : Nat} {Q : Int32 → AH → Prop} (x0 : Int32) (h : AH) (H : p_UF_isByte Q x0 h) : Att G T1 m_UF_isByte (d + 1) 0 [some (.int x0)] [] h 0 0 (iQ Q) := by
  refine A_iload_n d_UF_isByte_0 rfl ?_
  refine A_iconst 0 (by decide) d_UF_isByte_1 ?_
  refine A_sipush 255 (by decide) d_UF_isByte_2 ?_
  refine A_cI [.int x0, .int 0, .int 255] [] (ct_UF_95 rfl) d_UF_isByte_5 rfl rfl (by decide) (Nat.le_of_ble_eq_true rfl) trivial (ok_UF_within (d := d) H) (fun r2 h1 H => ?_)
  exact A_iret d_UF_isByte_8 rfl H.1 H.2
set_option maxRecDepth 20000 in
theorem ok_UF_isByte {G : GG} {d : Nat} {Q : Int32 → AH → Prop} {x0 : Int32} {h : AH} (H : p_UF_isByte Q x0 h) : WP G T1 m_UF_isByte (d + 1) [.int x0] h 0 0 (iQ Q) := by
  exact WP.enter 0 (by decide) rfl rfl (r_UF_isByte_0 x0 h H)
theorem d_UF_force_0 : decode prog_1_method_5_code 0 = .ok (.iload_n 1, 1) := by decide +kernel
theorem d_UF_force_1 : decode prog_1_method_5_code 1 = .ok (.iconst 0, 1) := by decide +kernel
theorem d_UF_force_2 : decode prog_1_method_5_code 2 = .ok (.aload_n 0, 1) := by decide +kernel
theorem d_UF_force_3 : decode prog_1_method_5_code 3 = .ok (.getfield 76, 3) := by decide +kernel
theorem d_UF_force_6 : decode prog_1_method_5_code 6 = .ok (.iconst 1, 1) := by decide +kernel
theorem d_UF_force_7 : decode prog_1_method_5_code 7 = .ok (.isub, 1) := by decide +kernel
theorem d_UF_force_8 : decode prog_1_method_5_code 8 = .ok (.invokestatic 95, 3) := by decide +kernel
theorem d_UF_force_11 : decode prog_1_method_5_code 11 = .ok (.ifCond .ne 6, 3) := by decide +kernel
theorem d_UF_force_14 : decode prog_1_method_5_code 14 = .ok (.bipush (-2), 2) := by decide +kernel
theorem d_UF_force_16 : decode prog_1_method_5_code 16 = .ok (.ireturn, 1) := by decide +kernel
theorem d_UF_force_17 : decode prog_1_method_5_code 17 = .ok (.aload_n 0, 1) := by decide +kernel
theorem d_UF_force_18 : decode prog_1_method_5_code 18 = .ok (.getfield 34, 3) := by decide +kernel
theorem d_UF_force_21 : decode prog_1_method_5_code 21 = .ok (.getfield 89, 3) := by decide +kernel
theorem d_UF_force_24 : decode prog_1_method_5_code 24 = .ok (.istore_n 2, 1) := by decide +kernel
theorem d_UF_force_25 : decode prog_1_method_5_code 25 = .ok (.aload_n 0, 1) := by decide +kernel
theorem d_UF_force_26 : decode prog_1_method_5_code 26 = .ok (.getfield 34, 3) := by decide +kernel
theorem d_UF_force_29 : decode prog_1_method_5_code 29 = .ok (.iload_n 1, 1) := by decide +kernel
theorem d_UF_force_30 : decode prog_1_method_5_code 30 = .ok (.putfield 89, 3) := by decide +kernel
theorem d_UF_force_33 : decode prog_1_method_5_code 33 = .ok (.iload_n 2, 1) := by decide +kernel
theorem d_UF_force_34 : decode prog_1_method_5_code 34 = .ok (.ireturn, 1) := by decide +kernel
def p_UF_force (Q : Int32 → AH → Prop) (x1 : Int32) (h : AH) : Prop := p_UF_within (fun r2 h1 => ((¬ r2 = 0 → Q (h1.1 5 4) (wI h1 5 4 x1)) ∧ (r2 = 0 → Q (-2) h1))) x1 0 ((h.1 0 8) - 1) h
set_option maxRecDepth 20000 in
theorem r_UF_force_0 {G : GG} {d : Nat} {Q : Int32 → AH → Prop} (x1 : Int32) (h : AH) (H : p_UF_force Q x1 h) : Att G T1 m_UF_force (d + 1) 0 [some (.ref 0), some (.int x1), none] [] h 0 0 (iQ Q) := by
  refine A_iload_n d_UF_force_0 rfl ?_
  refine A_iconst 0 (by decide) d_UF_force_1 ?_
  refine A_aload_n d_UF_force_2 rfl ?_
  refine A_get (v := .int (h.1 0 8)) d_UF_force_3 (fo_UF_76_11 rfl) (vA_s (by decide)) rfl (by first | rfl | (show Value.int _ = Value.int _; simp [wI, wL, wR, wC, up])) ?_
  refine A_iconst 1 (by decide) d_UF_force_6 ?_
  refine A_isub d_UF_force_7 ?_
  refine A_cI [.int x1, .int 0, .int ((h.1 0 8) - 1)] [] (ct_UF_95 rfl) d_UF_force_8 rfl rfl (by decide) (Nat.le_of_ble_eq_true rfl) trivial (ok_UF_within (d := d) H) (fun r2 h1 H => ?_)
  refine A_if_ne 17 d_UF_force_11 (by decide) (fun z => ?_) (fun z => ?_)
  · have H := H.1 z
    refine A_aload_n d_UF_force_17 rfl ?_
    refine A_get (v := .ref 5) d_UF_force_18 (fo_UF_34_11 rfl) (vA_s (by decide)) rfl (by first | rfl | (show Value.int _ = Value.int _; simp [wI, wL, wR, wC, up])) ?_
    refine A_get (v := .int (h1.1 5 4)) d_UF_force_21 (fo_UF_89_10 rfl) (vA_s (by decide)) rfl (by first | rfl | (show Value.int _ = Value.int _; simp [wI, wL, wR, wC, up])) ?_
    refine A_istore_n [some (.ref 0), some (.int x1), some (.int (h1.1 5 4))] d_UF_force_24 (by decide) rfl rfl ?_
    refine A_aload_n d_UF_force_25 rfl ?_
    refine A_get (v := .ref 5) d_UF_force_26 (fo_UF_34_11 rfl) (vA_s (by decide)) rfl (by first | rfl | (show Value.int _ = Value.int _; simp [wI, wL, wR, wC, up])) ?_
    refine A_iload_n d_UF_force_29 rfl ?_
    refine A_putI (k := 4) d_UF_force_30 (fo_UF_89_10 rfl) (Or.inr ⟨rfl, _, ft_10_4⟩) (fun z => by cases z) rfl (vA_s (by decide)) rfl rfl rfl ?_
    refine A_iload_n d_UF_force_33 rfl ?_
    exact A_iret d_UF_force_34 rfl rfl H
  · have H := H.2 z
    refine A_bipush (-2) (by decide) d_UF_force_14 ?_
    exact A_iret d_UF_force_16 rfl rfl H
set_option maxRecDepth 20000 in
theorem ok_UF_force {G : GG} {d : Nat} {Q : Int32 → AH → Prop} {x1 : Int32} {h : AH} (H : p_UF_force Q x1 h) : WP G T1 m_UF_force (d + 1) [.ref 0, .int x1] h 0 0 (iQ Q) := by
  exact WP.enter 1 (by decide) rfl rfl (r_UF_force_0 x1 h H)
theorem d_UF_isHouse_0 : decode prog_1_method_42_code 0 = .ok (.iload_n 1, 1) := by decide +kernel
theorem d_UF_isHouse_1 : decode prog_1_method_42_code 1 = .ok (.iconst 0, 1) := by decide +kernel
theorem d_UF_isHouse_2 : decode prog_1_method_42_code 2 = .ok (.aload_n 0, 1) := by decide +kernel
theorem d_UF_isHouse_3 : decode prog_1_method_42_code 3 = .ok (.getfield 34, 3) := by decide +kernel
theorem d_UF_isHouse_6 : decode prog_1_method_42_code 6 = .ok (.getfield 80, 3) := by decide +kernel
theorem d_UF_isHouse_9 : decode prog_1_method_42_code 9 = .ok (.iconst 1, 1) := by decide +kernel
theorem d_UF_isHouse_10 : decode prog_1_method_42_code 10 = .ok (.isub, 1) := by decide +kernel
theorem d_UF_isHouse_11 : decode prog_1_method_42_code 11 = .ok (.invokestatic 95, 3) := by decide +kernel
theorem d_UF_isHouse_14 : decode prog_1_method_42_code 14 = .ok (.ireturn, 1) := by decide +kernel
def p_UF_isHouse (Q : Int32 → AH → Prop) (x1 : Int32) (h : AH) : Prop := p_UF_within (fun r2 h1 => narrow .boolean (.int r2) = .int r2 ∧ Q r2 h1) x1 0 ((h.1 5 3) - 1) h
set_option maxRecDepth 20000 in
theorem r_UF_isHouse_0 {G : GG} {d : Nat} {Q : Int32 → AH → Prop} (x1 : Int32) (h : AH) (H : p_UF_isHouse Q x1 h) : Att G T1 m_UF_isHouse (d + 1) 0 [some (.ref 0), some (.int x1)] [] h 0 0 (iQ Q) := by
  refine A_iload_n d_UF_isHouse_0 rfl ?_
  refine A_iconst 0 (by decide) d_UF_isHouse_1 ?_
  refine A_aload_n d_UF_isHouse_2 rfl ?_
  refine A_get (v := .ref 5) d_UF_isHouse_3 (fo_UF_34_11 rfl) (vA_s (by decide)) rfl (by first | rfl | (show Value.int _ = Value.int _; simp [wI, wL, wR, wC, up])) ?_
  refine A_get (v := .int (h.1 5 3)) d_UF_isHouse_6 (fo_UF_80_10 rfl) (vA_s (by decide)) rfl (by first | rfl | (show Value.int _ = Value.int _; simp [wI, wL, wR, wC, up])) ?_
  refine A_iconst 1 (by decide) d_UF_isHouse_9 ?_
  refine A_isub d_UF_isHouse_10 ?_
  refine A_cI [.int x1, .int 0, .int ((h.1 5 3) - 1)] [] (ct_UF_95 rfl) d_UF_isHouse_11 rfl rfl (by decide) (Nat.le_of_ble_eq_true rfl) trivial (ok_UF_within (d := d) H) (fun r2 h1 H => ?_)
  exact A_iret d_UF_isHouse_14 rfl H.1 H.2
set_option maxRecDepth 20000 in
theorem ok_UF_isHouse {G : GG} {d : Nat} {Q : Int32 → AH → Prop} {x1 : Int32} {h : AH} (H : p_UF_isHouse Q x1 h) : WP G T1 m_UF_isHouse (d + 1) [.ref 0, .int x1] h 0 0 (iQ Q) := by
  exact WP.enter 0 (by decide) rfl rfl (r_UF_isHouse_0 x1 h H)
