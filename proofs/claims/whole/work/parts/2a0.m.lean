theorem d_UF_within_0 : decode prog_1_method_37_code 0 = .ok (.iload_n 0, 1) := by decide +kernel
theorem d_UF_within_1 : decode prog_1_method_37_code 1 = .ok (.iload_n 1, 1) := by decide +kernel
theorem d_UF_within_2 : decode prog_1_method_37_code 2 = .ok (.if_icmp .lt 12, 3) := by decide +kernel
theorem d_UF_within_5 : decode prog_1_method_37_code 5 = .ok (.iload_n 0, 1) := by decide +kernel
theorem d_UF_within_6 : decode prog_1_method_37_code 6 = .ok (.iload_n 2, 1) := by decide +kernel
theorem d_UF_within_7 : decode prog_1_method_37_code 7 = .ok (.if_icmp .gt 7, 3) := by decide +kernel
theorem d_UF_within_10 : decode prog_1_method_37_code 10 = .ok (.iconst 1, 1) := by decide +kernel
theorem d_UF_within_11 : decode prog_1_method_37_code 11 = .ok (.goto 4, 3) := by decide +kernel
theorem d_UF_within_14 : decode prog_1_method_37_code 14 = .ok (.iconst 0, 1) := by decide +kernel
theorem d_UF_within_15 : decode prog_1_method_37_code 15 = .ok (.ireturn, 1) := by decide +kernel
def p_UF_within (Q : Int32 → AH → Prop) (x0 : Int32) (x1 : Int32) (x2 : Int32) (h : AH) : Prop := ((x0 < x1 → Q 0 h) ∧ (¬ x0 < x1 → ((x2 < x0 → Q 0 h) ∧ (¬ x2 < x0 → Q 1 h))))
set_option maxRecDepth 20000 in
theorem r_UF_within_0 {G : GG} {d : Nat} {Q : Int32 → AH → Prop} (x0 : Int32) (x1 : Int32) (x2 : Int32) (h : AH) (H : p_UF_within Q x0 x1 x2 h) : Att G T1 m_UF_within d 0 [some (.int x0), some (.int x1), some (.int x2)] [] h 0 0 (iQ Q) := by
  refine A_iload_n d_UF_within_0 rfl ?_
  refine A_iload_n d_UF_within_1 rfl ?_
  refine A_icmp_lt 14 d_UF_within_2 (by decide) (fun z => ?_) (fun z => ?_)
  · have H := H.1 z
    refine A_iconst 0 (by decide) d_UF_within_14 ?_
    exact A_iret d_UF_within_15 rfl rfl H
  · have H := H.2 z
    refine A_iload_n d_UF_within_5 rfl ?_
    refine A_iload_n d_UF_within_6 rfl ?_
    refine A_icmp_gt 14 d_UF_within_7 (by decide) (fun z => ?_) (fun z => ?_)
    · have H := H.1 z
      refine A_iconst 0 (by decide) d_UF_within_14 ?_
      exact A_iret d_UF_within_15 rfl rfl H
    · have H := H.2 z
      refine A_iconst 1 (by decide) d_UF_within_10 ?_
      refine A_goto 15 d_UF_within_11 (by decide) ?_
      exact A_iret d_UF_within_15 rfl rfl H
set_option maxRecDepth 20000 in
theorem ok_UF_within {G : GG} {d : Nat} {Q : Int32 → AH → Prop} {x0 : Int32} {x1 : Int32} {x2 : Int32} {h : AH} (H : p_UF_within Q x0 x1 x2 h) : WP G T1 m_UF_within d [.int x0, .int x1, .int x2] h 0 0 (iQ Q) := by
  exact WP.enter 0 (by decide) rfl rfl (r_UF_within_0 x0 x1 x2 h H)
theorem d_Reader_sign_0 : decode prog_9_method_16_code 0 = .ok (.aload_n 0, 1) := by decide +kernel
theorem d_Reader_sign_1 : decode prog_9_method_16_code 1 = .ok (.getfield 9, 3) := by decide +kernel
theorem d_Reader_sign_4 : decode prog_9_method_16_code 4 = .ok (.aload_n 0, 1) := by decide +kernel
theorem d_Reader_sign_5 : decode prog_9_method_16_code 5 = .ok (.getfield 34, 3) := by decide +kernel
theorem d_Reader_sign_8 : decode prog_9_method_16_code 8 = .ok (.iaload, 1) := by decide +kernel
theorem d_Reader_sign_9 : decode prog_9_method_16_code 9 = .ok (.istore_n 1, 1) := by decide +kernel
theorem d_Reader_sign_10 : decode prog_9_method_16_code 10 = .ok (.aload_n 0, 1) := by decide +kernel
theorem d_Reader_sign_11 : decode prog_9_method_16_code 11 = .ok (.dup, 1) := by decide +kernel
theorem d_Reader_sign_12 : decode prog_9_method_16_code 12 = .ok (.getfield 34, 3) := by decide +kernel
theorem d_Reader_sign_15 : decode prog_9_method_16_code 15 = .ok (.iconst 1, 1) := by decide +kernel
theorem d_Reader_sign_16 : decode prog_9_method_16_code 16 = .ok (.iadd, 1) := by decide +kernel
theorem d_Reader_sign_17 : decode prog_9_method_16_code 17 = .ok (.putfield 34, 3) := by decide +kernel
theorem d_Reader_sign_20 : decode prog_9_method_16_code 20 = .ok (.iload_n 1, 1) := by decide +kernel
theorem d_Reader_sign_21 : decode prog_9_method_16_code 21 = .ok (.bipush 40, 2) := by decide +kernel
theorem d_Reader_sign_23 : decode prog_9_method_16_code 23 = .ok (.if_icmp .eq 45, 3) := by decide +kernel
theorem d_Reader_sign_26 : decode prog_9_method_16_code 26 = .ok (.iload_n 1, 1) := by decide +kernel
theorem d_Reader_sign_27 : decode prog_9_method_16_code 27 = .ok (.bipush 41, 2) := by decide +kernel
theorem d_Reader_sign_29 : decode prog_9_method_16_code 29 = .ok (.if_icmp .eq 39, 3) := by decide +kernel
theorem d_Reader_sign_32 : decode prog_9_method_16_code 32 = .ok (.iload_n 1, 1) := by decide +kernel
theorem d_Reader_sign_33 : decode prog_9_method_16_code 33 = .ok (.bipush 59, 2) := by decide +kernel
theorem d_Reader_sign_35 : decode prog_9_method_16_code 35 = .ok (.if_icmp .eq 33, 3) := by decide +kernel
theorem d_Reader_sign_38 : decode prog_9_method_16_code 38 = .ok (.iload_n 1, 1) := by decide +kernel
theorem d_Reader_sign_39 : decode prog_9_method_16_code 39 = .ok (.bipush 43, 2) := by decide +kernel
theorem d_Reader_sign_41 : decode prog_9_method_16_code 41 = .ok (.if_icmp .eq 27, 3) := by decide +kernel
theorem d_Reader_sign_44 : decode prog_9_method_16_code 44 = .ok (.iload_n 1, 1) := by decide +kernel
theorem d_Reader_sign_45 : decode prog_9_method_16_code 45 = .ok (.bipush 45, 2) := by decide +kernel
theorem d_Reader_sign_47 : decode prog_9_method_16_code 47 = .ok (.if_icmp .eq 21, 3) := by decide +kernel
theorem d_Reader_sign_50 : decode prog_9_method_16_code 50 = .ok (.iload_n 1, 1) := by decide +kernel
theorem d_Reader_sign_51 : decode prog_9_method_16_code 51 = .ok (.bipush 42, 2) := by decide +kernel
theorem d_Reader_sign_53 : decode prog_9_method_16_code 53 = .ok (.if_icmp .eq 15, 3) := by decide +kernel
theorem d_Reader_sign_56 : decode prog_9_method_16_code 56 = .ok (.iload_n 1, 1) := by decide +kernel
theorem d_Reader_sign_57 : decode prog_9_method_16_code 57 = .ok (.bipush 60, 2) := by decide +kernel
theorem d_Reader_sign_59 : decode prog_9_method_16_code 59 = .ok (.if_icmp .eq 9, 3) := by decide +kernel
theorem d_Reader_sign_62 : decode prog_9_method_16_code 62 = .ok (.iload_n 1, 1) := by decide +kernel
theorem d_Reader_sign_63 : decode prog_9_method_16_code 63 = .ok (.bipush 61, 2) := by decide +kernel
theorem d_Reader_sign_65 : decode prog_9_method_16_code 65 = .ok (.if_icmp .ne 7, 3) := by decide +kernel
theorem d_Reader_sign_68 : decode prog_9_method_16_code 68 = .ok (.iconst 1, 1) := by decide +kernel
theorem d_Reader_sign_69 : decode prog_9_method_16_code 69 = .ok (.goto 4, 3) := by decide +kernel
theorem d_Reader_sign_72 : decode prog_9_method_16_code 72 = .ok (.iconst 0, 1) := by decide +kernel
theorem d_Reader_sign_73 : decode prog_9_method_16_code 73 = .ok (.istore_n 2, 1) := by decide +kernel
theorem d_Reader_sign_74 : decode prog_9_method_16_code 74 = .ok (.aload_n 0, 1) := by decide +kernel
theorem d_Reader_sign_75 : decode prog_9_method_16_code 75 = .ok (.iload_n 2, 1) := by decide +kernel
theorem d_Reader_sign_76 : decode prog_9_method_16_code 76 = .ok (.ifCond .eq 7, 3) := by decide +kernel
theorem d_Reader_sign_79 : decode prog_9_method_16_code 79 = .ok (.iload_n 1, 1) := by decide +kernel
theorem d_Reader_sign_80 : decode prog_9_method_16_code 80 = .ok (.goto 4, 3) := by decide +kernel
theorem d_Reader_sign_83 : decode prog_9_method_16_code 83 = .ok (.iconst 1, 1) := by decide +kernel
theorem d_Reader_sign_84 : decode prog_9_method_16_code 84 = .ok (.putfield 53, 3) := by decide +kernel
theorem d_Reader_sign_87 : decode prog_9_method_16_code 87 = .ok (.return_, 1) := by decide +kernel
def p_Reader_sign_73 (Q : AH → Prop) (x1 : Int32) (s0 : Int32) (h : AH) : Prop := ((s0 = 0 → Q (wI h 25 5 1)) ∧ (¬ s0 = 0 → Q (wI h 25 5 x1)))
def p_Reader_sign_68 (Q : AH → Prop) (x1 : Int32) (h : AH) : Prop := p_Reader_sign_73 Q   x1 1 h
def p_Reader_sign (Q : AH → Prop) (h : AH) : Prop := 0 < rR T1 h 25 0 ∧ vA T1 h (rR T1 h 25 0 - 1) ∧ (rS T1 h (rR T1 h 25 0 - 1)).1 = 100 ∧ inb (h.1 25 3) ((rS T1 h (rR T1 h 25 0 - 1)).2) ∧ (((h.1 (rR T1 h 25 0 - 1) (h.1 25 3)) = 40 → p_Reader_sign_68 Q   (h.1 (rR T1 h 25 0 - 1) (h.1 25 3)) (wI h 25 3 ((h.1 25 3) + 1))) ∧ (¬ (h.1 (rR T1 h 25 0 - 1) (h.1 25 3)) = 40 → (((h.1 (rR T1 h 25 0 - 1) (h.1 25 3)) = 41 → p_Reader_sign_68 Q   (h.1 (rR T1 h 25 0 - 1) (h.1 25 3)) (wI h 25 3 ((h.1 25 3) + 1))) ∧ (¬ (h.1 (rR T1 h 25 0 - 1) (h.1 25 3)) = 41 → (((h.1 (rR T1 h 25 0 - 1) (h.1 25 3)) = 59 → p_Reader_sign_68 Q   (h.1 (rR T1 h 25 0 - 1) (h.1 25 3)) (wI h 25 3 ((h.1 25 3) + 1))) ∧ (¬ (h.1 (rR T1 h 25 0 - 1) (h.1 25 3)) = 59 → (((h.1 (rR T1 h 25 0 - 1) (h.1 25 3)) = 43 → p_Reader_sign_68 Q   (h.1 (rR T1 h 25 0 - 1) (h.1 25 3)) (wI h 25 3 ((h.1 25 3) + 1))) ∧ (¬ (h.1 (rR T1 h 25 0 - 1) (h.1 25 3)) = 43 → (((h.1 (rR T1 h 25 0 - 1) (h.1 25 3)) = 45 → p_Reader_sign_68 Q   (h.1 (rR T1 h 25 0 - 1) (h.1 25 3)) (wI h 25 3 ((h.1 25 3) + 1))) ∧ (¬ (h.1 (rR T1 h 25 0 - 1) (h.1 25 3)) = 45 → (((h.1 (rR T1 h 25 0 - 1) (h.1 25 3)) = 42 → p_Reader_sign_68 Q   (h.1 (rR T1 h 25 0 - 1) (h.1 25 3)) (wI h 25 3 ((h.1 25 3) + 1))) ∧ (¬ (h.1 (rR T1 h 25 0 - 1) (h.1 25 3)) = 42 → (((h.1 (rR T1 h 25 0 - 1) (h.1 25 3)) = 60 → p_Reader_sign_68 Q   (h.1 (rR T1 h 25 0 - 1) (h.1 25 3)) (wI h 25 3 ((h.1 25 3) + 1))) ∧ (¬ (h.1 (rR T1 h 25 0 - 1) (h.1 25 3)) = 60 → ((¬ (h.1 (rR T1 h 25 0 - 1) (h.1 25 3)) = 61 → p_Reader_sign_73 Q   (h.1 (rR T1 h 25 0 - 1) (h.1 25 3)) 0 (wI h 25 3 ((h.1 25 3) + 1))) ∧ ((h.1 (rR T1 h 25 0 - 1) (h.1 25 3)) = 61 → p_Reader_sign_68 Q   (h.1 (rR T1 h 25 0 - 1) (h.1 25 3)) (wI h 25 3 ((h.1 25 3) + 1))))))))))))))))))
set_option maxRecDepth 20000 in
theorem r_Reader_sign_73 {G : GG} {d : Nat} {Q : AH → Prop} (x1 : Int32) (s0 : Int32) (h : AH) (H : p_Reader_sign_73 Q x1 s0 h) : Att G T1 m_Reader_sign d 73 [some (.ref 25), some (.int x1), none] [.int s0] h 0 0 (vQ Q) := by
  refine A_istore_n [some (.ref 25), some (.int x1), some (.int s0)] d_Reader_sign_73 (by decide) rfl rfl ?_
  refine A_aload_n d_Reader_sign_74 rfl ?_
  refine A_iload_n d_Reader_sign_75 rfl ?_
  refine A_if_eq 83 d_Reader_sign_76 (by decide) (fun z => ?_) (fun z => ?_)
  · have H := H.1 z
    refine A_iconst 1 (by decide) d_Reader_sign_83 ?_
    refine A_putI (k := 5) d_Reader_sign_84 (fo_Reader_53_7 rfl) (Or.inr ⟨rfl, _, ft_7_5⟩) (fun z => by cases z) rfl (vA_s (by decide)) rfl rfl rfl ?_
    exact A_ret d_Reader_sign_87 rfl H
  · have H := H.2 z
    refine A_iload_n d_Reader_sign_79 rfl ?_
    refine A_goto 84 d_Reader_sign_80 (by decide) ?_
    refine A_putI (k := 5) d_Reader_sign_84 (fo_Reader_53_7 rfl) (Or.inr ⟨rfl, _, ft_7_5⟩) (fun z => by cases z) rfl (vA_s (by decide)) rfl rfl rfl ?_
    exact A_ret d_Reader_sign_87 rfl H
set_option maxRecDepth 20000 in
theorem r_Reader_sign_68 {G : GG} {d : Nat} {Q : AH → Prop} (x1 : Int32) (h : AH) (H : p_Reader_sign_68 Q x1 h) : Att G T1 m_Reader_sign d 68 [some (.ref 25), some (.int x1), none] [] h 0 0 (vQ Q) := by
  refine A_iconst 1 (by decide) d_Reader_sign_68 ?_
  refine A_goto 73 d_Reader_sign_69 (by decide) ?_
  exact r_Reader_sign_73   _ _ _ H
set_option maxRecDepth 20000 in
theorem r_Reader_sign_0 {G : GG} {d : Nat} {Q : AH → Prop} (h : AH) (H : p_Reader_sign Q h) : Att G T1 m_Reader_sign d 0 [some (.ref 25), none, none] [] h 0 0 (vQ Q) := by
  refine A_aload_n d_Reader_sign_0 rfl ?_
  obtain ⟨c1, H⟩ := H
  refine A_get (v := .ref (rR T1 h 25 0 - 1)) d_Reader_sign_1 (fo_Reader_9_7 rfl) (vA_s (by decide)) rfl (vR_pos c1) ?_
  refine A_aload_n d_Reader_sign_4 rfl ?_
  refine A_get (v := .int (h.1 25 3)) d_Reader_sign_5 (fo_Reader_34_7 rfl) (vA_s (by decide)) rfl (by first | rfl | (show Value.int _ = Value.int _; simp [wI, wL, wR, wC, up])) ?_
  obtain ⟨c2, H⟩ := H
  obtain ⟨c3, H⟩ := H
  obtain ⟨c4, H⟩ := H
  refine A_ialdv (n := _) (v := (h.1 (rR T1 h 25 0 - 1) (h.1 25 3))) d_Reader_sign_8 c2 (rS_ex c3) c4 rfl ?_
  refine A_istore_n [some (.ref 25), some (.int (h.1 (rR T1 h 25 0 - 1) (h.1 25 3))), none] d_Reader_sign_9 (by decide) rfl rfl ?_
  refine A_aload_n d_Reader_sign_10 rfl ?_
  refine A_dup rfl d_Reader_sign_11 ?_
  refine A_get (v := .int (h.1 25 3)) d_Reader_sign_12 (fo_Reader_34_7 rfl) (vA_s (by decide)) rfl (by first | rfl | (show Value.int _ = Value.int _; simp [wI, wL, wR, wC, up])) ?_
  refine A_iconst 1 (by decide) d_Reader_sign_15 ?_
  refine A_iadd d_Reader_sign_16 ?_
  refine A_putI (k := 3) d_Reader_sign_17 (fo_Reader_34_7 rfl) (Or.inr ⟨rfl, _, ft_7_3⟩) (fun z => by cases z) rfl (vA_s (by decide)) rfl rfl rfl ?_
  refine A_iload_n d_Reader_sign_20 rfl ?_
  refine A_bipush 40 (by decide) d_Reader_sign_21 ?_
  refine A_icmp_eq 68 d_Reader_sign_23 (by decide) (fun z => ?_) (fun z => ?_)
  · have H := H.1 z
    exact r_Reader_sign_68   _ _ H
  · have H := H.2 z
    refine A_iload_n d_Reader_sign_26 rfl ?_
    refine A_bipush 41 (by decide) d_Reader_sign_27 ?_
    refine A_icmp_eq 68 d_Reader_sign_29 (by decide) (fun z => ?_) (fun z => ?_)
    · have H := H.1 z
      exact r_Reader_sign_68   _ _ H
    · have H := H.2 z
      refine A_iload_n d_Reader_sign_32 rfl ?_
      refine A_bipush 59 (by decide) d_Reader_sign_33 ?_
      refine A_icmp_eq 68 d_Reader_sign_35 (by decide) (fun z => ?_) (fun z => ?_)
      · have H := H.1 z
        exact r_Reader_sign_68   _ _ H
      · have H := H.2 z
        refine A_iload_n d_Reader_sign_38 rfl ?_
        refine A_bipush 43 (by decide) d_Reader_sign_39 ?_
        refine A_icmp_eq 68 d_Reader_sign_41 (by decide) (fun z => ?_) (fun z => ?_)
        · have H := H.1 z
          exact r_Reader_sign_68   _ _ H
        · have H := H.2 z
          refine A_iload_n d_Reader_sign_44 rfl ?_
          refine A_bipush 45 (by decide) d_Reader_sign_45 ?_
          refine A_icmp_eq 68 d_Reader_sign_47 (by decide) (fun z => ?_) (fun z => ?_)
          · have H := H.1 z
            exact r_Reader_sign_68   _ _ H
          · have H := H.2 z
            refine A_iload_n d_Reader_sign_50 rfl ?_
            refine A_bipush 42 (by decide) d_Reader_sign_51 ?_
            refine A_icmp_eq 68 d_Reader_sign_53 (by decide) (fun z => ?_) (fun z => ?_)
            · have H := H.1 z
              exact r_Reader_sign_68   _ _ H
            · have H := H.2 z
              refine A_iload_n d_Reader_sign_56 rfl ?_
              refine A_bipush 60 (by decide) d_Reader_sign_57 ?_
              refine A_icmp_eq 68 d_Reader_sign_59 (by decide) (fun z => ?_) (fun z => ?_)
              · have H := H.1 z
                exact r_Reader_sign_68   _ _ H
              · have H := H.2 z
                refine A_iload_n d_Reader_sign_62 rfl ?_
                refine A_bipush 61 (by decide) d_Reader_sign_63 ?_
                refine A_icmp_ne 72 d_Reader_sign_65 (by decide) (fun z => ?_) (fun z => ?_)
                · have H := H.1 z
                  refine A_iconst 0 (by decide) d_Reader_sign_72 ?_
                  exact r_Reader_sign_73   _ _ _ H
                · have H := H.2 z
                  exact r_Reader_sign_68   _ _ H
set_option maxRecDepth 20000 in
theorem ok_Reader_sign {G : GG} {d : Nat} {Q : AH → Prop} {h : AH} (H : p_Reader_sign Q h) : WP G T1 m_Reader_sign d [.ref 25] h 0 0 (vQ Q) := by
  exact WP.enter 2 (by decide) rfl rfl (r_Reader_sign_0 h H)
theorem d_Law_add_0 : decode prog_8_method_2_code 0 = .ok (.aload_n 0, 1) := by decide +kernel
theorem d_Law_add_1 : decode prog_8_method_2_code 1 = .ok (.getfield 18, 3) := by decide +kernel
theorem d_Law_add_4 : decode prog_8_method_2_code 4 = .ok (.sipush 160, 3) := by decide +kernel
theorem d_Law_add_7 : decode prog_8_method_2_code 7 = .ok (.if_icmp .lt 4, 3) := by decide +kernel
theorem d_Law_add_10 : decode prog_8_method_2_code 10 = .ok (.return_, 1) := by decide +kernel
theorem d_Law_add_11 : decode prog_8_method_2_code 11 = .ok (.aload_n 0, 1) := by decide +kernel
theorem d_Law_add_12 : decode prog_8_method_2_code 12 = .ok (.getfield 11, 3) := by decide +kernel
theorem d_Law_add_15 : decode prog_8_method_2_code 15 = .ok (.aload_n 0, 1) := by decide +kernel
theorem d_Law_add_16 : decode prog_8_method_2_code 16 = .ok (.getfield 18, 3) := by decide +kernel
theorem d_Law_add_19 : decode prog_8_method_2_code 19 = .ok (.iload_n 1, 1) := by decide +kernel
theorem d_Law_add_20 : decode prog_8_method_2_code 20 = .ok (.iastore, 1) := by decide +kernel
theorem d_Law_add_21 : decode prog_8_method_2_code 21 = .ok (.aload_n 0, 1) := by decide +kernel
theorem d_Law_add_22 : decode prog_8_method_2_code 22 = .ok (.dup, 1) := by decide +kernel
theorem d_Law_add_23 : decode prog_8_method_2_code 23 = .ok (.getfield 18, 3) := by decide +kernel
theorem d_Law_add_26 : decode prog_8_method_2_code 26 = .ok (.iconst 1, 1) := by decide +kernel
theorem d_Law_add_27 : decode prog_8_method_2_code 27 = .ok (.iadd, 1) := by decide +kernel
theorem d_Law_add_28 : decode prog_8_method_2_code 28 = .ok (.putfield 18, 3) := by decide +kernel
theorem d_Law_add_31 : decode prog_8_method_2_code 31 = .ok (.return_, 1) := by decide +kernel
def p_Law_add (Q : AH → Prop) (a0 : Nat) (x1 : Int32) (h : AH) : Prop := vA T1 h a0 ∧ (rS T1 h a0).1 = 6 ∧ (((h.1 a0 2) < 160 → 0 < rR T1 h a0 0 ∧ vA T1 h (rR T1 h a0 0 - 1) ∧ (rS T1 h (rR T1 h a0 0 - 1)).1 = 100 ∧ inb (h.1 a0 2) ((rS T1 h (rR T1 h a0 0 - 1)).2) ∧ Q (wI (wI h (rR T1 h a0 0 - 1) (h.1 a0 2) x1) a0 2 (((wI h (rR T1 h a0 0 - 1) (h.1 a0 2) x1).1 a0 2) + 1))) ∧ (¬ (h.1 a0 2) < 160 → Q h))
set_option maxRecDepth 20000 in
theorem r_Law_add_0 {G : GG} {d : Nat} {Q : AH → Prop} (a0 : Nat) (x1 : Int32) (h : AH) (H : p_Law_add Q a0 x1 h) : Att G T1 m_Law_add d 0 [some (.ref a0), some (.int x1)] [] h 0 0 (vQ Q) := by
  refine A_aload_n d_Law_add_0 rfl ?_
  obtain ⟨c1, H⟩ := H
  obtain ⟨c2, H⟩ := H
  refine A_get (v := .int (h.1 a0 2)) d_Law_add_1 (fo_Law_18_6 rfl) c1 c2 (by first | rfl | (show Value.int _ = Value.int _; simp [wI, wL, wR, wC, up])) ?_
  refine A_sipush 160 (by decide) d_Law_add_4 ?_
  refine A_icmp_lt 11 d_Law_add_7 (by decide) (fun z => ?_) (fun z => ?_)
  · have H := H.1 z
    refine A_aload_n d_Law_add_11 rfl ?_
    obtain ⟨c3, H⟩ := H
    refine A_get (v := .ref (rR T1 h a0 0 - 1)) d_Law_add_12 (fo_Law_11_6 rfl) c1 c2 (vR_pos c3) ?_
    refine A_aload_n d_Law_add_15 rfl ?_
    refine A_get (v := .int (h.1 a0 2)) d_Law_add_16 (fo_Law_18_6 rfl) c1 c2 (by first | rfl | (show Value.int _ = Value.int _; simp [wI, wL, wR, wC, up])) ?_
    refine A_iload_n d_Law_add_19 rfl ?_
    obtain ⟨c4, H⟩ := H
    obtain ⟨c5, H⟩ := H
    obtain ⟨c6, H⟩ := H
    refine A_iast (n := _) d_Law_add_20 c4 (rS_ex c5) c6 ?_
    refine A_aload_n d_Law_add_21 rfl ?_
    refine A_dup rfl d_Law_add_22 ?_
    refine A_get (v := .int ((wI h (rR T1 h a0 0 - 1) (h.1 a0 2) x1).1 a0 2)) d_Law_add_23 (fo_Law_18_6 rfl) c1 c2 (by first | rfl | (show Value.int _ = Value.int _; simp [wI, wL, wR, wC, up])) ?_
    refine A_iconst 1 (by decide) d_Law_add_26 ?_
    refine A_iadd d_Law_add_27 ?_
    refine A_putI (k := 2) d_Law_add_28 (fo_Law_18_6 rfl) (Or.inr ⟨rfl, _, ft_6_2⟩) (fun z => by cases z) rfl c1 c2 rfl rfl ?_
    exact A_ret d_Law_add_31 rfl H
  · have H := H.2 z
    exact A_ret d_Law_add_10 rfl H
set_option maxRecDepth 20000 in
theorem ok_Law_add {G : GG} {d : Nat} {Q : AH → Prop} {a0 : Nat} {x1 : Int32} {h : AH} (H : p_Law_add Q a0 x1 h) : WP G T1 m_Law_add d [.ref a0, .int x1] h 0 0 (vQ Q) := by
  exact WP.enter 0 (by decide) rfl rfl (r_Law_add_0 a0 x1 h H)
theorem d_Town_leads_0 : decode prog_12_method_6_code 0 = .ok (.aload_n 0, 1) := by decide +kernel
theorem d_Town_leads_1 : decode prog_12_method_6_code 1 = .ok (.getfield 18, 3) := by decide +kernel
theorem d_Town_leads_4 : decode prog_12_method_6_code 4 = .ok (.iload_n 1, 1) := by decide +kernel
theorem d_Town_leads_5 : decode prog_12_method_6_code 5 = .ok (.iaload, 1) := by decide +kernel
theorem d_Town_leads_6 : decode prog_12_method_6_code 6 = .ok (.iload_n 1, 1) := by decide +kernel
theorem d_Town_leads_7 : decode prog_12_method_6_code 7 = .ok (.if_icmp .le 20, 3) := by decide +kernel
theorem d_Town_leads_10 : decode prog_12_method_6_code 10 = .ok (.aload_n 0, 1) := by decide +kernel
theorem d_Town_leads_11 : decode prog_12_method_6_code 11 = .ok (.getfield 18, 3) := by decide +kernel
theorem d_Town_leads_14 : decode prog_12_method_6_code 14 = .ok (.iload_n 1, 1) := by decide +kernel
theorem d_Town_leads_15 : decode prog_12_method_6_code 15 = .ok (.iaload, 1) := by decide +kernel
theorem d_Town_leads_16 : decode prog_12_method_6_code 16 = .ok (.aload_n 0, 1) := by decide +kernel
theorem d_Town_leads_17 : decode prog_12_method_6_code 17 = .ok (.getfield 21, 3) := by decide +kernel
theorem d_Town_leads_20 : decode prog_12_method_6_code 20 = .ok (.if_icmp .ge 7, 3) := by decide +kernel
theorem d_Town_leads_23 : decode prog_12_method_6_code 23 = .ok (.iconst 1, 1) := by decide +kernel
theorem d_Town_leads_24 : decode prog_12_method_6_code 24 = .ok (.goto 4, 3) := by decide +kernel
theorem d_Town_leads_27 : decode prog_12_method_6_code 27 = .ok (.iconst 0, 1) := by decide +kernel
theorem d_Town_leads_28 : decode prog_12_method_6_code 28 = .ok (.ireturn, 1) := by decide +kernel
def p_Town_leads (Q : Int32 → AH → Prop) (a0 : Nat) (x1 : Int32) (h : AH) : Prop := vA T1 h a0 ∧ (rS T1 h a0).1 = 10 ∧ 0 < rR T1 h a0 2 ∧ vA T1 h (rR T1 h a0 2 - 1) ∧ (rS T1 h (rR T1 h a0 2 - 1)).1 = 100 ∧ inb x1 ((rS T1 h (rR T1 h a0 2 - 1)).2) ∧ (((h.1 (rR T1 h a0 2 - 1) x1) ≤ x1 → Q 0 h) ∧ (¬ (h.1 (rR T1 h a0 2 - 1) x1) ≤ x1 → (((h.1 a0 3) ≤ (h.1 (rR T1 h a0 2 - 1) x1) → Q 0 h) ∧ (¬ (h.1 a0 3) ≤ (h.1 (rR T1 h a0 2 - 1) x1) → Q 1 h))))
set_option maxRecDepth 20000 in
theorem r_Town_leads_0 {G : GG} {d : Nat} {Q : Int32 → AH → Prop} (a0 : Nat) (x1 : Int32) (h : AH) (H : p_Town_leads Q a0 x1 h) : Att G T1 m_Town_leads d 0 [some (.ref a0), some (.int x1)] [] h 0 0 (iQ Q) := by
  refine A_aload_n d_Town_leads_0 rfl ?_
  obtain ⟨c1, H⟩ := H
  obtain ⟨c2, H⟩ := H
  obtain ⟨c3, H⟩ := H
  refine A_get (v := .ref (rR T1 h a0 2 - 1)) d_Town_leads_1 (fo_Town_18_10 rfl) c1 c2 (vR_pos c3) ?_
  refine A_iload_n d_Town_leads_4 rfl ?_
  obtain ⟨c4, H⟩ := H
  obtain ⟨c5, H⟩ := H
  obtain ⟨c6, H⟩ := H
  refine A_ialdv (n := _) (v := (h.1 (rR T1 h a0 2 - 1) x1)) d_Town_leads_5 c4 (rS_ex c5) c6 rfl ?_
  refine A_iload_n d_Town_leads_6 rfl ?_
  refine A_icmp_le 27 d_Town_leads_7 (by decide) (fun z => ?_) (fun z => ?_)
  · have H := H.1 z
    refine A_iconst 0 (by decide) d_Town_leads_27 ?_
    exact A_iret d_Town_leads_28 rfl rfl H
  · have H := H.2 z
    refine A_aload_n d_Town_leads_10 rfl ?_
    refine A_get (v := .ref (rR T1 h a0 2 - 1)) d_Town_leads_11 (fo_Town_18_10 rfl) c1 c2 (vR_pos c3) ?_
    refine A_iload_n d_Town_leads_14 rfl ?_
    refine A_ialdv (n := _) (v := (h.1 (rR T1 h a0 2 - 1) x1)) d_Town_leads_15 c4 (rS_ex c5) c6 rfl ?_
    refine A_aload_n d_Town_leads_16 rfl ?_
    refine A_get (v := .int (h.1 a0 3)) d_Town_leads_17 (fo_Town_21_10 rfl) c1 c2 (by first | rfl | (show Value.int _ = Value.int _; simp [wI, wL, wR, wC, up])) ?_
    refine A_icmp_ge 27 d_Town_leads_20 (by decide) (fun z => ?_) (fun z => ?_)
    · have H := H.1 z
      refine A_iconst 0 (by decide) d_Town_leads_27 ?_
      exact A_iret d_Town_leads_28 rfl rfl H
    · have H := H.2 z
      refine A_iconst 1 (by decide) d_Town_leads_23 ?_
      refine A_goto 28 d_Town_leads_24 (by decide) ?_
      exact A_iret d_Town_leads_28 rfl rfl H
set_option maxRecDepth 20000 in
theorem ok_Town_leads {G : GG} {d : Nat} {Q : Int32 → AH → Prop} {a0 : Nat} {x1 : Int32} {h : AH} (H : p_Town_leads Q a0 x1 h) : WP G T1 m_Town_leads d [.ref a0, .int x1] h 0 0 (iQ Q) := by
  exact WP.enter 0 (by decide) rfl rfl (r_Town_leads_0 a0 x1 h H)
theorem d_Town_crowd_0 : decode prog_12_method_9_code 0 = .ok (.iconst 0, 1) := by decide +kernel
theorem d_Town_crowd_1 : decode prog_12_method_9_code 1 = .ok (.istore_n 1, 1) := by decide +kernel
theorem d_Town_crowd_2 : decode prog_12_method_9_code 2 = .ok (.iconst 0, 1) := by decide +kernel
theorem d_Town_crowd_3 : decode prog_12_method_9_code 3 = .ok (.istore_n 2, 1) := by decide +kernel
theorem d_Town_crowd_4 : decode prog_12_method_9_code 4 = .ok (.iload_n 2, 1) := by decide +kernel
theorem d_Town_crowd_5 : decode prog_12_method_9_code 5 = .ok (.aload_n 0, 1) := by decide +kernel
theorem d_Town_crowd_6 : decode prog_12_method_9_code 6 = .ok (.getfield 21, 3) := by decide +kernel
theorem d_Town_crowd_9 : decode prog_12_method_9_code 9 = .ok (.if_icmp .ge 18, 3) := by decide +kernel
theorem d_Town_crowd_12 : decode prog_12_method_9_code 12 = .ok (.iload_n 1, 1) := by decide +kernel
theorem d_Town_crowd_13 : decode prog_12_method_9_code 13 = .ok (.aload_n 0, 1) := by decide +kernel
theorem d_Town_crowd_14 : decode prog_12_method_9_code 14 = .ok (.getfield 15, 3) := by decide +kernel
theorem d_Town_crowd_17 : decode prog_12_method_9_code 17 = .ok (.iload_n 2, 1) := by decide +kernel
theorem d_Town_crowd_18 : decode prog_12_method_9_code 18 = .ok (.iaload, 1) := by decide +kernel
theorem d_Town_crowd_19 : decode prog_12_method_9_code 19 = .ok (.iadd, 1) := by decide +kernel
theorem d_Town_crowd_20 : decode prog_12_method_9_code 20 = .ok (.istore_n 1, 1) := by decide +kernel
theorem d_Town_crowd_21 : decode prog_12_method_9_code 21 = .ok (.iinc 2 1, 3) := by decide +kernel
theorem d_Town_crowd_24 : decode prog_12_method_9_code 24 = .ok (.goto (-20), 3) := by decide +kernel
theorem d_Town_crowd_27 : decode prog_12_method_9_code 27 = .ok (.iload_n 1, 1) := by decide +kernel
theorem d_Town_crowd_28 : decode prog_12_method_9_code 28 = .ok (.ireturn, 1) := by decide +kernel
def p_Town_crowd_4 (Q : Int32 → AH → Prop) : Nat → Nat → Int32 → Int32 → AH → Prop
  | 0 => fun _ _ _ _ => False
  | n + 1 => fun a0 x1 x2 h => let K4 := p_Town_crowd_4 Q n; vA T1 h a0 ∧ (rS T1 h a0).1 = 10 ∧ (((h.1 a0 3) ≤ x2 → Q x1 h) ∧ (¬ (h.1 a0 3) ≤ x2 → 0 < rR T1 h a0 1 ∧ vA T1 h (rR T1 h a0 1 - 1) ∧ (rS T1 h (rR T1 h a0 1 - 1)).1 = 100 ∧ inb x2 ((rS T1 h (rR T1 h a0 1 - 1)).2) ∧ K4 a0 (x1 + (h.1 (rR T1 h a0 1 - 1) x2)) (x2 + 1) h))
def p_Town_crowd (Q : Int32 → AH → Prop) (a0 : Nat) (h : AH) : Prop := ∃ n, p_Town_crowd_4 Q   n a0 0 0 h
set_option maxRecDepth 20000 in
theorem r_Town_crowd_4 {G : GG} {d : Nat} {Q : Int32 → AH → Prop} : ∀ (n : Nat) (a0 : Nat) (x1 : Int32) (x2 : Int32) (h : AH), p_Town_crowd_4 Q n a0 x1 x2 h → Att G T1 m_Town_crowd d 4 [some (.ref a0), some (.int x1), some (.int x2)] [] h 0 0 (iQ Q) := by
  intro n
  induction n with
  | zero => intro a0 x1 x2 h H; exact H.elim
  | succ n k4 =>
    intro a0 x1 x2 h H
    refine A_iload_n d_Town_crowd_4 rfl ?_
    refine A_aload_n d_Town_crowd_5 rfl ?_
    obtain ⟨c1, H⟩ := H
    obtain ⟨c2, H⟩ := H
    refine A_get (v := .int (h.1 a0 3)) d_Town_crowd_6 (fo_Town_21_10 rfl) c1 c2 (by first | rfl | (show Value.int _ = Value.int _; simp [wI, wL, wR, wC, up])) ?_
    refine A_icmp_ge 27 d_Town_crowd_9 (by decide) (fun z => ?_) (fun z => ?_)
    · have H := H.1 z
      refine A_iload_n d_Town_crowd_27 rfl ?_
      exact A_iret d_Town_crowd_28 rfl rfl H
    · have H := H.2 z
      refine A_iload_n d_Town_crowd_12 rfl ?_
      refine A_aload_n d_Town_crowd_13 rfl ?_
      obtain ⟨c3, H⟩ := H
      refine A_get (v := .ref (rR T1 h a0 1 - 1)) d_Town_crowd_14 (fo_Town_15_10 rfl) c1 c2 (vR_pos c3) ?_
      refine A_iload_n d_Town_crowd_17 rfl ?_
      obtain ⟨c4, H⟩ := H
      obtain ⟨c5, H⟩ := H
      obtain ⟨c6, H⟩ := H
      refine A_ialdv (n := _) (v := (h.1 (rR T1 h a0 1 - 1) x2)) d_Town_crowd_18 c4 (rS_ex c5) c6 rfl ?_
      refine A_iadd d_Town_crowd_19 ?_
      refine A_istore_n [some (.ref a0), some (.int (x1 + (h.1 (rR T1 h a0 1 - 1) x2))), some (.int x2)] d_Town_crowd_20 (by decide) rfl rfl ?_
      refine A_iinc 1 [some (.ref a0), some (.int (x1 + (h.1 (rR T1 h a0 1 - 1) x2))), some (.int (x2 + 1))] d_Town_crowd_21 rfl (by decide) (by decide) rfl rfl ?_
      refine A_goto 4 d_Town_crowd_24 (by decide) ?_
      exact k4 _ _ _ _ H
set_option maxRecDepth 20000 in
theorem r_Town_crowd_0 {G : GG} {d : Nat} {Q : Int32 → AH → Prop} (a0 : Nat) (h : AH) (H : p_Town_crowd Q a0 h) : Att G T1 m_Town_crowd d 0 [some (.ref a0), none, none] [] h 0 0 (iQ Q) := by
  refine A_iconst 0 (by decide) d_Town_crowd_0 ?_
  refine A_istore_n [some (.ref a0), some (.int 0), none] d_Town_crowd_1 (by decide) rfl rfl ?_
  refine A_iconst 0 (by decide) d_Town_crowd_2 ?_
  refine A_istore_n [some (.ref a0), some (.int 0), some (.int 0)] d_Town_crowd_3 (by decide) rfl rfl ?_
  obtain ⟨n9, H⟩ := H
  exact r_Town_crowd_4   n9 _ _ _ _ H
set_option maxRecDepth 20000 in
theorem ok_Town_crowd {G : GG} {d : Nat} {Q : Int32 → AH → Prop} {a0 : Nat} {h : AH} (H : p_Town_crowd Q a0 h) : WP G T1 m_Town_crowd d [.ref a0] h 0 0 (iQ Q) := by
  exact WP.enter 2 (by decide) rfl rfl (r_Town_crowd_0 a0 h H)
theorem d_UF_put_0 : decode prog_1_method_43_code 0 = .ok (.aload_n 0, 1) := by decide +kernel
theorem d_UF_put_1 : decode prog_1_method_43_code 1 = .ok (.getfield 92, 3) := by decide +kernel
theorem d_UF_put_4 : decode prog_1_method_43_code 4 = .ok (.sipush 160, 3) := by decide +kernel
theorem d_UF_put_7 : decode prog_1_method_43_code 7 = .ok (.if_icmp .lt 4, 3) := by decide +kernel
theorem d_UF_put_10 : decode prog_1_method_43_code 10 = .ok (.return_, 1) := by decide +kernel
theorem d_UF_put_11 : decode prog_1_method_43_code 11 = .ok (.aload_n 0, 1) := by decide +kernel
theorem d_UF_put_12 : decode prog_1_method_43_code 12 = .ok (.getfield 27, 3) := by decide +kernel
theorem d_UF_put_15 : decode prog_1_method_43_code 15 = .ok (.aload_n 0, 1) := by decide +kernel
theorem d_UF_put_16 : decode prog_1_method_43_code 16 = .ok (.getfield 92, 3) := by decide +kernel
theorem d_UF_put_19 : decode prog_1_method_43_code 19 = .ok (.iload_n 1, 1) := by decide +kernel
theorem d_UF_put_20 : decode prog_1_method_43_code 20 = .ok (.iastore, 1) := by decide +kernel
theorem d_UF_put_21 : decode prog_1_method_43_code 21 = .ok (.aload_n 0, 1) := by decide +kernel
theorem d_UF_put_22 : decode prog_1_method_43_code 22 = .ok (.dup, 1) := by decide +kernel
theorem d_UF_put_23 : decode prog_1_method_43_code 23 = .ok (.getfield 92, 3) := by decide +kernel
theorem d_UF_put_26 : decode prog_1_method_43_code 26 = .ok (.iconst 1, 1) := by decide +kernel
theorem d_UF_put_27 : decode prog_1_method_43_code 27 = .ok (.iadd, 1) := by decide +kernel
theorem d_UF_put_28 : decode prog_1_method_43_code 28 = .ok (.putfield 92, 3) := by decide +kernel
theorem d_UF_put_31 : decode prog_1_method_43_code 31 = .ok (.return_, 1) := by decide +kernel
def p_UF_put (Q : AH → Prop) (x1 : Int32) (h : AH) : Prop := (((h.1 0 9) < 160 → inb (h.1 0 9) 160 ∧ Q (wI (wI h 4 (h.1 0 9) x1) 0 9 ((h.1 0 9) + 1))) ∧ (¬ (h.1 0 9) < 160 → Q h))
set_option maxRecDepth 20000 in
theorem r_UF_put_0 {G : GG} {d : Nat} {Q : AH → Prop} (x1 : Int32) (h : AH) (H : p_UF_put Q x1 h) : Att G T1 m_UF_put d 0 [some (.ref 0), some (.int x1)] [] h 0 0 (vQ Q) := by
  refine A_aload_n d_UF_put_0 rfl ?_
  refine A_get (v := .int (h.1 0 9)) d_UF_put_1 (fo_UF_92_11 rfl) (vA_s (by decide)) rfl (by first | rfl | (show Value.int _ = Value.int _; simp [wI, wL, wR, wC, up])) ?_
  refine A_sipush 160 (by decide) d_UF_put_4 ?_
  refine A_icmp_lt 11 d_UF_put_7 (by decide) (fun z => ?_) (fun z => ?_)
  · have H := H.1 z
    refine A_aload_n d_UF_put_11 rfl ?_
    refine A_get (v := .ref 4) d_UF_put_12 (fo_UF_27_11 rfl) (vA_s (by decide)) rfl (by first | rfl | (show Value.int _ = Value.int _; simp [wI, wL, wR, wC, up])) ?_
    refine A_aload_n d_UF_put_15 rfl ?_
    refine A_get (v := .int (h.1 0 9)) d_UF_put_16 (fo_UF_92_11 rfl) (vA_s (by decide)) rfl (by first | rfl | (show Value.int _ = Value.int _; simp [wI, wL, wR, wC, up])) ?_
    refine A_iload_n d_UF_put_19 rfl ?_
    obtain ⟨c1, H⟩ := H
    refine A_iast (n := 160) d_UF_put_20 (vA_s (by decide)) rfl c1 ?_
    refine A_aload_n d_UF_put_21 rfl ?_
    refine A_dup rfl d_UF_put_22 ?_
    refine A_get (v := .int (h.1 0 9)) d_UF_put_23 (fo_UF_92_11 rfl) (vA_s (by decide)) rfl (by first | rfl | (show Value.int _ = Value.int _; simp [wI, wL, wR, wC, up])) ?_
    refine A_iconst 1 (by decide) d_UF_put_26 ?_
    refine A_iadd d_UF_put_27 ?_
    refine A_putI (k := 9) d_UF_put_28 (fo_UF_92_11 rfl) (Or.inr ⟨rfl, _, ft_11_9⟩) (fun z => by cases z) rfl (vA_s (by decide)) rfl rfl rfl ?_
    exact A_ret d_UF_put_31 rfl H
  · have H := H.2 z
    exact A_ret d_UF_put_10 rfl H
set_option maxRecDepth 20000 in
theorem ok_UF_put {G : GG} {d : Nat} {Q : AH → Prop} {x1 : Int32} {h : AH} (H : p_UF_put Q x1 h) : WP G T1 m_UF_put d [.ref 0, .int x1] h 0 0 (vQ Q) := by
  exact WP.enter 0 (by decide) rfl rfl (r_UF_put_0 x1 h H)
theorem d_Law_signed_0 : decode prog_8_method_5_code 0 = .ok (.iload_n 0, 1) := by decide +kernel
theorem d_Law_signed_1 : decode prog_8_method_5_code 1 = .ok (.bipush (-10), 2) := by decide +kernel
theorem d_Law_signed_3 : decode prog_8_method_5_code 3 = .ok (.if_icmp .ne 6, 3) := by decide +kernel
theorem d_Law_signed_6 : decode prog_8_method_5_code 6 = .ok (.iload_n 1, 1) := by decide +kernel
theorem d_Law_signed_7 : decode prog_8_method_5_code 7 = .ok (.ineg, 1) := by decide +kernel
theorem d_Law_signed_8 : decode prog_8_method_5_code 8 = .ok (.ireturn, 1) := by decide +kernel
theorem d_Law_signed_9 : decode prog_8_method_5_code 9 = .ok (.iload_n 1, 1) := by decide +kernel
theorem d_Law_signed_10 : decode prog_8_method_5_code 10 = .ok (.ifCond .ne 7, 3) := by decide +kernel
theorem d_Law_signed_13 : decode prog_8_method_5_code 13 = .ok (.iconst 1, 1) := by decide +kernel
theorem d_Law_signed_14 : decode prog_8_method_5_code 14 = .ok (.goto 4, 3) := by decide +kernel
theorem d_Law_signed_17 : decode prog_8_method_5_code 17 = .ok (.iconst 0, 1) := by decide +kernel
theorem d_Law_signed_18 : decode prog_8_method_5_code 18 = .ok (.ireturn, 1) := by decide +kernel
def p_Law_signed (Q : Int32 → AH → Prop) (x0 : Int32) (x1 : Int32) (h : AH) : Prop := ((¬ x0 = (-10) → ((¬ x1 = 0 → Q 0 h) ∧ (x1 = 0 → Q 1 h))) ∧ (x0 = (-10) → Q (-x1) h))
set_option maxRecDepth 20000 in
theorem r_Law_signed_0 {G : GG} {d : Nat} {Q : Int32 → AH → Prop} (x0 : Int32) (x1 : Int32) (h : AH) (H : p_Law_signed Q x0 x1 h) : Att G T1 m_Law_signed d 0 [some (.int x0), some (.int x1)] [] h 0 0 (iQ Q) := by
  refine A_iload_n d_Law_signed_0 rfl ?_
  refine A_bipush (-10) (by decide) d_Law_signed_1 ?_
  refine A_icmp_ne 9 d_Law_signed_3 (by decide) (fun z => ?_) (fun z => ?_)
  · have H := H.1 z
    refine A_iload_n d_Law_signed_9 rfl ?_
    refine A_if_ne 17 d_Law_signed_10 (by decide) (fun z => ?_) (fun z => ?_)
    · have H := H.1 z
      refine A_iconst 0 (by decide) d_Law_signed_17 ?_
      exact A_iret d_Law_signed_18 rfl rfl H
    · have H := H.2 z
      refine A_iconst 1 (by decide) d_Law_signed_13 ?_
      refine A_goto 18 d_Law_signed_14 (by decide) ?_
      exact A_iret d_Law_signed_18 rfl rfl H
  · have H := H.2 z
    refine A_iload_n d_Law_signed_6 rfl ?_
    refine A_ineg d_Law_signed_7 ?_
    exact A_iret d_Law_signed_8 rfl rfl H
set_option maxRecDepth 20000 in
theorem ok_Law_signed {G : GG} {d : Nat} {Q : Int32 → AH → Prop} {x0 : Int32} {x1 : Int32} {h : AH} (H : p_Law_signed Q x0 x1 h) : WP G T1 m_Law_signed d [.int x0, .int x1] h 0 0 (iQ Q) := by
  exact WP.enter 0 (by decide) rfl rfl (r_Law_signed_0 x0 x1 h H)
theorem d_Law_joined_0 : decode prog_8_method_6_code 0 = .ok (.iload_n 0, 1) := by decide +kernel
theorem d_Law_joined_1 : decode prog_8_method_6_code 1 = .ok (.tableswitch 97 (-25) (-20) #[93, 89, 78, 67, 53, 39], 39) := by decide +kernel
theorem d_Law_joined_40 : decode prog_8_method_6_code 40 = .ok (.iload_n 1, 1) := by decide +kernel
theorem d_Law_joined_41 : decode prog_8_method_6_code 41 = .ok (.ifCond .ne 7, 3) := by decide +kernel
theorem d_Law_joined_44 : decode prog_8_method_6_code 44 = .ok (.iload_n 2, 1) := by decide +kernel
theorem d_Law_joined_45 : decode prog_8_method_6_code 45 = .ok (.ifCond .eq 7, 3) := by decide +kernel
theorem d_Law_joined_48 : decode prog_8_method_6_code 48 = .ok (.iconst 1, 1) := by decide +kernel
theorem d_Law_joined_49 : decode prog_8_method_6_code 49 = .ok (.goto 4, 3) := by decide +kernel
theorem d_Law_joined_52 : decode prog_8_method_6_code 52 = .ok (.iconst 0, 1) := by decide +kernel
theorem d_Law_joined_53 : decode prog_8_method_6_code 53 = .ok (.ireturn, 1) := by decide +kernel
theorem d_Law_joined_54 : decode prog_8_method_6_code 54 = .ok (.iload_n 1, 1) := by decide +kernel
theorem d_Law_joined_55 : decode prog_8_method_6_code 55 = .ok (.ifCond .eq 11, 3) := by decide +kernel
theorem d_Law_joined_58 : decode prog_8_method_6_code 58 = .ok (.iload_n 2, 1) := by decide +kernel
theorem d_Law_joined_59 : decode prog_8_method_6_code 59 = .ok (.ifCond .eq 7, 3) := by decide +kernel
theorem d_Law_joined_62 : decode prog_8_method_6_code 62 = .ok (.iconst 1, 1) := by decide +kernel
theorem d_Law_joined_63 : decode prog_8_method_6_code 63 = .ok (.goto 4, 3) := by decide +kernel
theorem d_Law_joined_66 : decode prog_8_method_6_code 66 = .ok (.iconst 0, 1) := by decide +kernel
theorem d_Law_joined_67 : decode prog_8_method_6_code 67 = .ok (.ireturn, 1) := by decide +kernel
theorem d_Law_joined_68 : decode prog_8_method_6_code 68 = .ok (.iload_n 1, 1) := by decide +kernel
theorem d_Law_joined_69 : decode prog_8_method_6_code 69 = .ok (.iload_n 2, 1) := by decide +kernel
theorem d_Law_joined_70 : decode prog_8_method_6_code 70 = .ok (.if_icmp .ge 7, 3) := by decide +kernel
theorem d_Law_joined_73 : decode prog_8_method_6_code 73 = .ok (.iconst 1, 1) := by decide +kernel
theorem d_Law_joined_74 : decode prog_8_method_6_code 74 = .ok (.goto 4, 3) := by decide +kernel
theorem d_Law_joined_77 : decode prog_8_method_6_code 77 = .ok (.iconst 0, 1) := by decide +kernel
theorem d_Law_joined_78 : decode prog_8_method_6_code 78 = .ok (.ireturn, 1) := by decide +kernel
theorem d_Law_joined_79 : decode prog_8_method_6_code 79 = .ok (.iload_n 1, 1) := by decide +kernel
theorem d_Law_joined_80 : decode prog_8_method_6_code 80 = .ok (.iload_n 2, 1) := by decide +kernel
theorem d_Law_joined_81 : decode prog_8_method_6_code 81 = .ok (.if_icmp .ne 7, 3) := by decide +kernel
theorem d_Law_joined_84 : decode prog_8_method_6_code 84 = .ok (.iconst 1, 1) := by decide +kernel
theorem d_Law_joined_85 : decode prog_8_method_6_code 85 = .ok (.goto 4, 3) := by decide +kernel
theorem d_Law_joined_88 : decode prog_8_method_6_code 88 = .ok (.iconst 0, 1) := by decide +kernel
theorem d_Law_joined_89 : decode prog_8_method_6_code 89 = .ok (.ireturn, 1) := by decide +kernel
theorem d_Law_joined_90 : decode prog_8_method_6_code 90 = .ok (.iload_n 1, 1) := by decide +kernel
theorem d_Law_joined_91 : decode prog_8_method_6_code 91 = .ok (.iload_n 2, 1) := by decide +kernel
theorem d_Law_joined_92 : decode prog_8_method_6_code 92 = .ok (.iadd, 1) := by decide +kernel
theorem d_Law_joined_93 : decode prog_8_method_6_code 93 = .ok (.ireturn, 1) := by decide +kernel
theorem d_Law_joined_94 : decode prog_8_method_6_code 94 = .ok (.iload_n 1, 1) := by decide +kernel
theorem d_Law_joined_95 : decode prog_8_method_6_code 95 = .ok (.iload_n 2, 1) := by decide +kernel
theorem d_Law_joined_96 : decode prog_8_method_6_code 96 = .ok (.isub, 1) := by decide +kernel
theorem d_Law_joined_97 : decode prog_8_method_6_code 97 = .ok (.ireturn, 1) := by decide +kernel
theorem d_Law_joined_98 : decode prog_8_method_6_code 98 = .ok (.iload_n 1, 1) := by decide +kernel
theorem d_Law_joined_99 : decode prog_8_method_6_code 99 = .ok (.iload_n 2, 1) := by decide +kernel
theorem d_Law_joined_100 : decode prog_8_method_6_code 100 = .ok (.imul, 1) := by decide +kernel
theorem d_Law_joined_101 : decode prog_8_method_6_code 101 = .ok (.ireturn, 1) := by decide +kernel
def p_Law_joined (Q : Int32 → AH → Prop) (x0 : Int32) (x1 : Int32) (x2 : Int32) (h : AH) : Prop := ((x0 = (-25) → Q (x1 - x2) h) ∧ (x0 = (-24) → Q (x1 + x2) h) ∧ (x0 = (-23) → ((¬ x1 = x2 → Q 0 h) ∧ (x1 = x2 → Q 1 h))) ∧ (x0 = (-22) → ((x2 ≤ x1 → Q 0 h) ∧ (¬ x2 ≤ x1 → Q 1 h))) ∧ (x0 = (-21) → ((x1 = 0 → Q 0 h) ∧ (¬ x1 = 0 → ((x2 = 0 → Q 0 h) ∧ (¬ x2 = 0 → Q 1 h))))) ∧ (x0 = (-20) → ((¬ x1 = 0 → Q 1 h) ∧ (x1 = 0 → ((x2 = 0 → Q 0 h) ∧ (¬ x2 = 0 → Q 1 h))))) ∧ (¬ x0 = (-25) → ¬ x0 = (-24) → ¬ x0 = (-23) → ¬ x0 = (-22) → ¬ x0 = (-21) → ¬ x0 = (-20) → Q (x1 * x2) h))
set_option maxRecDepth 20000 in
theorem r_Law_joined_0 {G : GG} {d : Nat} {Q : Int32 → AH → Prop} (x0 : Int32) (x1 : Int32) (x2 : Int32) (h : AH) (H : p_Law_joined Q x0 x1 x2 h) : Att G T1 m_Law_joined d 0 [some (.int x0), some (.int x1), some (.int x2)] [] h 0 0 (iQ Q) := by
  refine A_iload_n d_Law_joined_0 rfl ?_
  by_cases z0 : x0 = (-25)
  · have H := H.1 z0
    refine A_tsI 94 d_Law_joined_1 (by rw [z0]; decide) (by rw [z0]; decide) (by rw [z0]; rfl) (by decide) ?_
    refine A_iload_n d_Law_joined_94 rfl ?_
    refine A_iload_n d_Law_joined_95 rfl ?_
    refine A_isub d_Law_joined_96 ?_
    exact A_iret d_Law_joined_97 rfl rfl H
  · have H := H.2
    by_cases z1 : x0 = (-24)
    · have H := H.1 z1
      refine A_tsI 90 d_Law_joined_1 (by rw [z1]; decide) (by rw [z1]; decide) (by rw [z1]; rfl) (by decide) ?_
      refine A_iload_n d_Law_joined_90 rfl ?_
      refine A_iload_n d_Law_joined_91 rfl ?_
      refine A_iadd d_Law_joined_92 ?_
      exact A_iret d_Law_joined_93 rfl rfl H
    · have H := H.2
      by_cases z2 : x0 = (-23)
      · have H := H.1 z2
        refine A_tsI 79 d_Law_joined_1 (by rw [z2]; decide) (by rw [z2]; decide) (by rw [z2]; rfl) (by decide) ?_
        refine A_iload_n d_Law_joined_79 rfl ?_
        refine A_iload_n d_Law_joined_80 rfl ?_
        refine A_icmp_ne 88 d_Law_joined_81 (by decide) (fun z => ?_) (fun z => ?_)
        · have H := H.1 z
          refine A_iconst 0 (by decide) d_Law_joined_88 ?_
          exact A_iret d_Law_joined_89 rfl rfl H
        · have H := H.2 z
          refine A_iconst 1 (by decide) d_Law_joined_84 ?_
          refine A_goto 89 d_Law_joined_85 (by decide) ?_
          exact A_iret d_Law_joined_89 rfl rfl H
      · have H := H.2
        by_cases z3 : x0 = (-22)
        · have H := H.1 z3
          refine A_tsI 68 d_Law_joined_1 (by rw [z3]; decide) (by rw [z3]; decide) (by rw [z3]; rfl) (by decide) ?_
          refine A_iload_n d_Law_joined_68 rfl ?_
          refine A_iload_n d_Law_joined_69 rfl ?_
          refine A_icmp_ge 77 d_Law_joined_70 (by decide) (fun z => ?_) (fun z => ?_)
          · have H := H.1 z
            refine A_iconst 0 (by decide) d_Law_joined_77 ?_
            exact A_iret d_Law_joined_78 rfl rfl H
          · have H := H.2 z
            refine A_iconst 1 (by decide) d_Law_joined_73 ?_
            refine A_goto 78 d_Law_joined_74 (by decide) ?_
            exact A_iret d_Law_joined_78 rfl rfl H
        · have H := H.2
          by_cases z4 : x0 = (-21)
          · have H := H.1 z4
            refine A_tsI 54 d_Law_joined_1 (by rw [z4]; decide) (by rw [z4]; decide) (by rw [z4]; rfl) (by decide) ?_
            refine A_iload_n d_Law_joined_54 rfl ?_
            refine A_if_eq 66 d_Law_joined_55 (by decide) (fun z => ?_) (fun z => ?_)
            · have H := H.1 z
              refine A_iconst 0 (by decide) d_Law_joined_66 ?_
              exact A_iret d_Law_joined_67 rfl rfl H
            · have H := H.2 z
              refine A_iload_n d_Law_joined_58 rfl ?_
              refine A_if_eq 66 d_Law_joined_59 (by decide) (fun z => ?_) (fun z => ?_)
              · have H := H.1 z
                refine A_iconst 0 (by decide) d_Law_joined_66 ?_
                exact A_iret d_Law_joined_67 rfl rfl H
              · have H := H.2 z
                refine A_iconst 1 (by decide) d_Law_joined_62 ?_
                refine A_goto 67 d_Law_joined_63 (by decide) ?_
                exact A_iret d_Law_joined_67 rfl rfl H
          · have H := H.2
            by_cases z5 : x0 = (-20)
            · have H := H.1 z5
              refine A_tsI 40 d_Law_joined_1 (by rw [z5]; decide) (by rw [z5]; decide) (by rw [z5]; rfl) (by decide) ?_
              refine A_iload_n d_Law_joined_40 rfl ?_
              refine A_if_ne 48 d_Law_joined_41 (by decide) (fun z => ?_) (fun z => ?_)
              · have H := H.1 z
                refine A_iconst 1 (by decide) d_Law_joined_48 ?_
                refine A_goto 53 d_Law_joined_49 (by decide) ?_
                exact A_iret d_Law_joined_53 rfl rfl H
              · have H := H.2 z
                refine A_iload_n d_Law_joined_44 rfl ?_
                refine A_if_eq 52 d_Law_joined_45 (by decide) (fun z => ?_) (fun z => ?_)
                · have H := H.1 z
                  refine A_iconst 0 (by decide) d_Law_joined_52 ?_
                  exact A_iret d_Law_joined_53 rfl rfl H
                · have H := H.2 z
                  refine A_iconst 1 (by decide) d_Law_joined_48 ?_
                  refine A_goto 53 d_Law_joined_49 (by decide) ?_
                  exact A_iret d_Law_joined_53 rfl rfl H
            · have H := H.2
              have H := H z0 z1 z2 z3 z4 z5
              refine A_tsO 98 d_Law_joined_1 (by have t0 := lv_neT z0 (a := (-25)) (by decide); have t1 := lv_neT z1 (a := (-24)) (by decide); have t2 := lv_neT z2 (a := (-23)) (by decide); have t3 := lv_neT z3 (a := (-22)) (by decide); have t4 := lv_neT z4 (a := (-21)) (by decide); have t5 := lv_neT z5 (a := (-20)) (by decide); omega) (by decide) ?_
              refine A_iload_n d_Law_joined_98 rfl ?_
              refine A_iload_n d_Law_joined_99 rfl ?_
              refine A_imul d_Law_joined_100 ?_
              exact A_iret d_Law_joined_101 rfl rfl H
set_option maxRecDepth 20000 in
theorem ok_Law_joined {G : GG} {d : Nat} {Q : Int32 → AH → Prop} {x0 : Int32} {x1 : Int32} {x2 : Int32} {h : AH} (H : p_Law_joined Q x0 x1 x2 h) : WP G T1 m_Law_joined d [.int x0, .int x1, .int x2] h 0 0 (iQ Q) := by
  exact WP.enter 0 (by decide) rfl rfl (r_Law_joined_0 x0 x1 x2 h H)
theorem d_Town_grow_0 : decode prog_12_method_3_code 0 = .ok (.aload_n 0, 1) := by decide +kernel
theorem d_Town_grow_1 : decode prog_12_method_3_code 1 = .ok (.getfield 21, 3) := by decide +kernel
theorem d_Town_grow_4 : decode prog_12_method_3_code 4 = .ok (.bipush 7, 2) := by decide +kernel
theorem d_Town_grow_6 : decode prog_12_method_3_code 6 = .ok (.if_icmp .lt 4, 3) := by decide +kernel
theorem d_Town_grow_9 : decode prog_12_method_3_code 9 = .ok (.return_, 1) := by decide +kernel
theorem d_Town_grow_10 : decode prog_12_method_3_code 10 = .ok (.aload_n 0, 1) := by decide +kernel
theorem d_Town_grow_11 : decode prog_12_method_3_code 11 = .ok (.getfield 9, 3) := by decide +kernel
theorem d_Town_grow_14 : decode prog_12_method_3_code 14 = .ok (.aload_n 0, 1) := by decide +kernel
theorem d_Town_grow_15 : decode prog_12_method_3_code 15 = .ok (.getfield 21, 3) := by decide +kernel
theorem d_Town_grow_18 : decode prog_12_method_3_code 18 = .ok (.bipush 9, 2) := by decide +kernel
theorem d_Town_grow_20 : decode prog_12_method_3_code 20 = .ok (.iastore, 1) := by decide +kernel
theorem d_Town_grow_21 : decode prog_12_method_3_code 21 = .ok (.aload_n 0, 1) := by decide +kernel
theorem d_Town_grow_22 : decode prog_12_method_3_code 22 = .ok (.getfield 15, 3) := by decide +kernel
theorem d_Town_grow_25 : decode prog_12_method_3_code 25 = .ok (.aload_n 0, 1) := by decide +kernel
theorem d_Town_grow_26 : decode prog_12_method_3_code 26 = .ok (.getfield 21, 3) := by decide +kernel
theorem d_Town_grow_29 : decode prog_12_method_3_code 29 = .ok (.iconst 0, 1) := by decide +kernel
theorem d_Town_grow_30 : decode prog_12_method_3_code 30 = .ok (.iastore, 1) := by decide +kernel
theorem d_Town_grow_31 : decode prog_12_method_3_code 31 = .ok (.aload_n 0, 1) := by decide +kernel
theorem d_Town_grow_32 : decode prog_12_method_3_code 32 = .ok (.getfield 18, 3) := by decide +kernel
theorem d_Town_grow_35 : decode prog_12_method_3_code 35 = .ok (.aload_n 0, 1) := by decide +kernel
theorem d_Town_grow_36 : decode prog_12_method_3_code 36 = .ok (.getfield 21, 3) := by decide +kernel
theorem d_Town_grow_39 : decode prog_12_method_3_code 39 = .ok (.iconst (-1), 1) := by decide +kernel
theorem d_Town_grow_40 : decode prog_12_method_3_code 40 = .ok (.iastore, 1) := by decide +kernel
theorem d_Town_grow_41 : decode prog_12_method_3_code 41 = .ok (.aload_n 0, 1) := by decide +kernel
theorem d_Town_grow_42 : decode prog_12_method_3_code 42 = .ok (.dup, 1) := by decide +kernel
theorem d_Town_grow_43 : decode prog_12_method_3_code 43 = .ok (.getfield 21, 3) := by decide +kernel
theorem d_Town_grow_46 : decode prog_12_method_3_code 46 = .ok (.iconst 1, 1) := by decide +kernel
theorem d_Town_grow_47 : decode prog_12_method_3_code 47 = .ok (.iadd, 1) := by decide +kernel
theorem d_Town_grow_48 : decode prog_12_method_3_code 48 = .ok (.putfield 21, 3) := by decide +kernel
theorem d_Town_grow_51 : decode prog_12_method_3_code 51 = .ok (.return_, 1) := by decide +kernel
def p_Town_grow (Q : AH → Prop) (a0 : Nat) (h : AH) : Prop := vA T1 h a0 ∧ (rS T1 h a0).1 = 10 ∧ (((h.1 a0 3) < 7 → 0 < rR T1 h a0 0 ∧ vA T1 h (rR T1 h a0 0 - 1) ∧ (rS T1 h (rR T1 h a0 0 - 1)).1 = 100 ∧ inb (h.1 a0 3) ((rS T1 h (rR T1 h a0 0 - 1)).2) ∧ 0 < rR T1 h a0 1 ∧ vA T1 h (rR T1 h a0 1 - 1) ∧ (rS T1 h (rR T1 h a0 1 - 1)).1 = 100 ∧ inb ((wI h (rR T1 h a0 0 - 1) (h.1 a0 3) 9).1 a0 3) ((rS T1 h (rR T1 h a0 1 - 1)).2) ∧ 0 < rR T1 h a0 2 ∧ vA T1 h (rR T1 h a0 2 - 1) ∧ (rS T1 h (rR T1 h a0 2 - 1)).1 = 100 ∧ inb ((wI (wI h (rR T1 h a0 0 - 1) (h.1 a0 3) 9) (rR T1 h a0 1 - 1) ((wI h (rR T1 h a0 0 - 1) (h.1 a0 3) 9).1 a0 3) 0).1 a0 3) ((rS T1 h (rR T1 h a0 2 - 1)).2) ∧ Q (wI (wI (wI (wI h (rR T1 h a0 0 - 1) (h.1 a0 3) 9) (rR T1 h a0 1 - 1) ((wI h (rR T1 h a0 0 - 1) (h.1 a0 3) 9).1 a0 3) 0) (rR T1 h a0 2 - 1) ((wI (wI h (rR T1 h a0 0 - 1) (h.1 a0 3) 9) (rR T1 h a0 1 - 1) ((wI h (rR T1 h a0 0 - 1) (h.1 a0 3) 9).1 a0 3) 0).1 a0 3) (-1)) a0 3 (((wI (wI (wI h (rR T1 h a0 0 - 1) (h.1 a0 3) 9) (rR T1 h a0 1 - 1) ((wI h (rR T1 h a0 0 - 1) (h.1 a0 3) 9).1 a0 3) 0) (rR T1 h a0 2 - 1) ((wI (wI h (rR T1 h a0 0 - 1) (h.1 a0 3) 9) (rR T1 h a0 1 - 1) ((wI h (rR T1 h a0 0 - 1) (h.1 a0 3) 9).1 a0 3) 0).1 a0 3) (-1)).1 a0 3) + 1))) ∧ (¬ (h.1 a0 3) < 7 → Q h))
set_option maxRecDepth 20000 in
theorem r_Town_grow_0 {G : GG} {d : Nat} {Q : AH → Prop} (a0 : Nat) (h : AH) (H : p_Town_grow Q a0 h) : Att G T1 m_Town_grow d 0 [some (.ref a0)] [] h 0 0 (vQ Q) := by
  refine A_aload_n d_Town_grow_0 rfl ?_
  obtain ⟨c1, H⟩ := H
  obtain ⟨c2, H⟩ := H
  refine A_get (v := .int (h.1 a0 3)) d_Town_grow_1 (fo_Town_21_10 rfl) c1 c2 (by first | rfl | (show Value.int _ = Value.int _; simp [wI, wL, wR, wC, up])) ?_
  refine A_bipush 7 (by decide) d_Town_grow_4 ?_
  refine A_icmp_lt 10 d_Town_grow_6 (by decide) (fun z => ?_) (fun z => ?_)
  · have H := H.1 z
    refine A_aload_n d_Town_grow_10 rfl ?_
    obtain ⟨c3, H⟩ := H
    refine A_get (v := .ref (rR T1 h a0 0 - 1)) d_Town_grow_11 (fo_Town_9_10 rfl) c1 c2 (vR_pos c3) ?_
    refine A_aload_n d_Town_grow_14 rfl ?_
    refine A_get (v := .int (h.1 a0 3)) d_Town_grow_15 (fo_Town_21_10 rfl) c1 c2 (by first | rfl | (show Value.int _ = Value.int _; simp [wI, wL, wR, wC, up])) ?_
    refine A_bipush 9 (by decide) d_Town_grow_18 ?_
    obtain ⟨c4, H⟩ := H
    obtain ⟨c5, H⟩ := H
    obtain ⟨c6, H⟩ := H
    refine A_iast (n := _) d_Town_grow_20 c4 (rS_ex c5) c6 ?_
    refine A_aload_n d_Town_grow_21 rfl ?_
    obtain ⟨c7, H⟩ := H
    refine A_get (v := .ref (rR T1 h a0 1 - 1)) d_Town_grow_22 (fo_Town_15_10 rfl) c1 c2 (vR_pos c7) ?_
    refine A_aload_n d_Town_grow_25 rfl ?_
    refine A_get (v := .int ((wI h (rR T1 h a0 0 - 1) (h.1 a0 3) 9).1 a0 3)) d_Town_grow_26 (fo_Town_21_10 rfl) c1 c2 (by first | rfl | (show Value.int _ = Value.int _; simp [wI, wL, wR, wC, up])) ?_
    refine A_iconst 0 (by decide) d_Town_grow_29 ?_
    obtain ⟨c8, H⟩ := H
    obtain ⟨c9, H⟩ := H
    obtain ⟨c10, H⟩ := H
    refine A_iast (n := _) d_Town_grow_30 c8 (rS_ex c9) c10 ?_
    refine A_aload_n d_Town_grow_31 rfl ?_
    obtain ⟨c11, H⟩ := H
    refine A_get (v := .ref (rR T1 h a0 2 - 1)) d_Town_grow_32 (fo_Town_18_10 rfl) c1 c2 (vR_pos c11) ?_
    refine A_aload_n d_Town_grow_35 rfl ?_
    refine A_get (v := .int ((wI (wI h (rR T1 h a0 0 - 1) (h.1 a0 3) 9) (rR T1 h a0 1 - 1) ((wI h (rR T1 h a0 0 - 1) (h.1 a0 3) 9).1 a0 3) 0).1 a0 3)) d_Town_grow_36 (fo_Town_21_10 rfl) c1 c2 (by first | rfl | (show Value.int _ = Value.int _; simp [wI, wL, wR, wC, up])) ?_
    refine A_iconst (-1) (by decide) d_Town_grow_39 ?_
    obtain ⟨c12, H⟩ := H
    obtain ⟨c13, H⟩ := H
    obtain ⟨c14, H⟩ := H
    refine A_iast (n := _) d_Town_grow_40 c12 (rS_ex c13) c14 ?_
    refine A_aload_n d_Town_grow_41 rfl ?_
    refine A_dup rfl d_Town_grow_42 ?_
    refine A_get (v := .int ((wI (wI (wI h (rR T1 h a0 0 - 1) (h.1 a0 3) 9) (rR T1 h a0 1 - 1) ((wI h (rR T1 h a0 0 - 1) (h.1 a0 3) 9).1 a0 3) 0) (rR T1 h a0 2 - 1) ((wI (wI h (rR T1 h a0 0 - 1) (h.1 a0 3) 9) (rR T1 h a0 1 - 1) ((wI h (rR T1 h a0 0 - 1) (h.1 a0 3) 9).1 a0 3) 0).1 a0 3) (-1)).1 a0 3)) d_Town_grow_43 (fo_Town_21_10 rfl) c1 c2 (by first | rfl | (show Value.int _ = Value.int _; simp [wI, wL, wR, wC, up])) ?_
    refine A_iconst 1 (by decide) d_Town_grow_46 ?_
    refine A_iadd d_Town_grow_47 ?_
    refine A_putI (k := 3) d_Town_grow_48 (fo_Town_21_10 rfl) (Or.inr ⟨rfl, _, ft_10_3⟩) (fun z => by cases z) rfl c1 c2 rfl rfl ?_
    exact A_ret d_Town_grow_51 rfl H
  · have H := H.2 z
    exact A_ret d_Town_grow_9 rfl H
set_option maxRecDepth 20000 in
theorem ok_Town_grow {G : GG} {d : Nat} {Q : AH → Prop} {a0 : Nat} {h : AH} (H : p_Town_grow Q a0 h) : WP G T1 m_Town_grow d [.ref a0] h 0 0 (vQ Q) := by
  exact WP.enter 0 (by decide) rfl rfl (r_Town_grow_0 a0 h H)
theorem d_Dusk_rise_0 : decode prog_4_method_9_code 0 = .ok (.aload_n 0, 1) := by decide +kernel
theorem d_Dusk_rise_1 : decode prog_4_method_9_code 1 = .ok (.getfield 12, 3) := by decide +kernel
theorem d_Dusk_rise_4 : decode prog_4_method_9_code 4 = .ok (.getfield 78, 3) := by decide +kernel
theorem d_Dusk_rise_7 : decode prog_4_method_9_code 7 = .ok (.iload_n 1, 1) := by decide +kernel
theorem d_Dusk_rise_8 : decode prog_4_method_9_code 8 = .ok (.dup2, 1) := by decide +kernel
theorem d_Dusk_rise_9 : decode prog_4_method_9_code 9 = .ok (.iaload, 1) := by decide +kernel
theorem d_Dusk_rise_10 : decode prog_4_method_9_code 10 = .ok (.iconst 1, 1) := by decide +kernel
theorem d_Dusk_rise_11 : decode prog_4_method_9_code 11 = .ok (.iadd, 1) := by decide +kernel
theorem d_Dusk_rise_12 : decode prog_4_method_9_code 12 = .ok (.iastore, 1) := by decide +kernel
theorem d_Dusk_rise_13 : decode prog_4_method_9_code 13 = .ok (.aload_n 0, 1) := by decide +kernel
theorem d_Dusk_rise_14 : decode prog_4_method_9_code 14 = .ok (.getfield 28, 3) := by decide +kernel
theorem d_Dusk_rise_17 : decode prog_4_method_9_code 17 = .ok (.iload_n 1, 1) := by decide +kernel
theorem d_Dusk_rise_18 : decode prog_4_method_9_code 18 = .ok (.dup2, 1) := by decide +kernel
theorem d_Dusk_rise_19 : decode prog_4_method_9_code 19 = .ok (.iaload, 1) := by decide +kernel
theorem d_Dusk_rise_20 : decode prog_4_method_9_code 20 = .ok (.iconst 1, 1) := by decide +kernel
theorem d_Dusk_rise_21 : decode prog_4_method_9_code 21 = .ok (.iadd, 1) := by decide +kernel
theorem d_Dusk_rise_22 : decode prog_4_method_9_code 22 = .ok (.iastore, 1) := by decide +kernel
theorem d_Dusk_rise_23 : decode prog_4_method_9_code 23 = .ok (.aload_n 0, 1) := by decide +kernel
theorem d_Dusk_rise_24 : decode prog_4_method_9_code 24 = .ok (.getfield 24, 3) := by decide +kernel
theorem d_Dusk_rise_27 : decode prog_4_method_9_code 27 = .ok (.iload_n 1, 1) := by decide +kernel
theorem d_Dusk_rise_28 : decode prog_4_method_9_code 28 = .ok (.iconst 0, 1) := by decide +kernel
theorem d_Dusk_rise_29 : decode prog_4_method_9_code 29 = .ok (.iastore, 1) := by decide +kernel
theorem d_Dusk_rise_30 : decode prog_4_method_9_code 30 = .ok (.return_, 1) := by decide +kernel
def p_Dusk_rise (Q : AH → Prop) (x1 : Int32) (h : AH) : Prop := inb x1 7 ∧ Q (wI (wI (wI h 15 x1 ((h.1 15 x1) + 1)) 20 x1 ((h.1 20 x1) + 1)) 19 x1 0)
set_option maxRecDepth 20000 in
theorem r_Dusk_rise_0 {G : GG} {d : Nat} {Q : AH → Prop} (x1 : Int32) (h : AH) (H : p_Dusk_rise Q x1 h) : Att G T1 m_Dusk_rise d 0 [some (.ref 13), some (.int x1)] [] h 0 0 (vQ Q) := by
  refine A_aload_n d_Dusk_rise_0 rfl ?_
  refine A_get (v := .ref 14) d_Dusk_rise_1 (fo_Dusk_12_2 rfl) (vA_s (by decide)) rfl (by first | rfl | (show Value.int _ = Value.int _; simp [wI, wL, wR, wC, up])) ?_
  refine A_get (v := .ref 15) d_Dusk_rise_4 (fo_Dusk_78_10 rfl) (vA_s (by decide)) rfl (by first | rfl | (show Value.int _ = Value.int _; simp [wI, wL, wR, wC, up])) ?_
  refine A_iload_n d_Dusk_rise_7 rfl ?_
  refine A_dup2 rfl rfl d_Dusk_rise_8 ?_
  obtain ⟨c1, H⟩ := H
  refine A_ialdv (n := 7) (v := (h.1 15 x1)) d_Dusk_rise_9 (vA_s (by decide)) rfl c1 rfl ?_
  refine A_iconst 1 (by decide) d_Dusk_rise_10 ?_
  refine A_iadd d_Dusk_rise_11 ?_
  refine A_iast (n := 7) d_Dusk_rise_12 (vA_s (by decide)) rfl c1 ?_
  refine A_aload_n d_Dusk_rise_13 rfl ?_
  refine A_get (v := .ref 20) d_Dusk_rise_14 (fo_Dusk_28_2 rfl) (vA_s (by decide)) rfl (by first | rfl | (show Value.int _ = Value.int _; simp [wI, wL, wR, wC, up])) ?_
  refine A_iload_n d_Dusk_rise_17 rfl ?_
  refine A_dup2 rfl rfl d_Dusk_rise_18 ?_
  refine A_ialdv (n := 7) (v := (h.1 20 x1)) d_Dusk_rise_19 (vA_s (by decide)) rfl c1 (by first | rfl | simp [wI, wL, wR, wC, up]) ?_
  refine A_iconst 1 (by decide) d_Dusk_rise_20 ?_
  refine A_iadd d_Dusk_rise_21 ?_
  refine A_iast (n := 7) d_Dusk_rise_22 (vA_s (by decide)) rfl c1 ?_
  refine A_aload_n d_Dusk_rise_23 rfl ?_
  refine A_get (v := .ref 19) d_Dusk_rise_24 (fo_Dusk_24_2 rfl) (vA_s (by decide)) rfl (by first | rfl | (show Value.int _ = Value.int _; simp [wI, wL, wR, wC, up])) ?_
  refine A_iload_n d_Dusk_rise_27 rfl ?_
  refine A_iconst 0 (by decide) d_Dusk_rise_28 ?_
  refine A_iast (n := 7) d_Dusk_rise_29 (vA_s (by decide)) rfl c1 ?_
  exact A_ret d_Dusk_rise_30 rfl H
set_option maxRecDepth 20000 in
theorem ok_Dusk_rise {G : GG} {d : Nat} {Q : AH → Prop} {x1 : Int32} {h : AH} (H : p_Dusk_rise Q x1 h) : WP G T1 m_Dusk_rise d [.ref 13, .int x1] h 0 0 (vQ Q) := by
  exact WP.enter 0 (by decide) rfl rfl (r_Dusk_rise_0 x1 h H)
theorem d_Town_isDown_0 : decode prog_12_method_7_code 0 = .ok (.aload_n 0, 1) := by decide +kernel
theorem d_Town_isDown_1 : decode prog_12_method_7_code 1 = .ok (.getfield 9, 3) := by decide +kernel
theorem d_Town_isDown_4 : decode prog_12_method_7_code 4 = .ok (.iload_n 1, 1) := by decide +kernel
theorem d_Town_isDown_5 : decode prog_12_method_7_code 5 = .ok (.iaload, 1) := by decide +kernel
theorem d_Town_isDown_6 : decode prog_12_method_7_code 6 = .ok (.ifCond .ne 7, 3) := by decide +kernel
theorem d_Town_isDown_9 : decode prog_12_method_7_code 9 = .ok (.iconst 1, 1) := by decide +kernel
theorem d_Town_isDown_10 : decode prog_12_method_7_code 10 = .ok (.goto 4, 3) := by decide +kernel
theorem d_Town_isDown_13 : decode prog_12_method_7_code 13 = .ok (.iconst 0, 1) := by decide +kernel
theorem d_Town_isDown_14 : decode prog_12_method_7_code 14 = .ok (.ireturn, 1) := by decide +kernel
def p_Town_isDown (Q : Int32 → AH → Prop) (a0 : Nat) (x1 : Int32) (h : AH) : Prop := vA T1 h a0 ∧ (rS T1 h a0).1 = 10 ∧ 0 < rR T1 h a0 0 ∧ vA T1 h (rR T1 h a0 0 - 1) ∧ (rS T1 h (rR T1 h a0 0 - 1)).1 = 100 ∧ inb x1 ((rS T1 h (rR T1 h a0 0 - 1)).2) ∧ ((¬ (h.1 (rR T1 h a0 0 - 1) x1) = 0 → Q 0 h) ∧ ((h.1 (rR T1 h a0 0 - 1) x1) = 0 → Q 1 h))
set_option maxRecDepth 20000 in
theorem r_Town_isDown_0 {G : GG} {d : Nat} {Q : Int32 → AH → Prop} (a0 : Nat) (x1 : Int32) (h : AH) (H : p_Town_isDown Q a0 x1 h) : Att G T1 m_Town_isDown d 0 [some (.ref a0), some (.int x1)] [] h 0 0 (iQ Q) := by
  refine A_aload_n d_Town_isDown_0 rfl ?_
  obtain ⟨c1, H⟩ := H
  obtain ⟨c2, H⟩ := H
  obtain ⟨c3, H⟩ := H
  refine A_get (v := .ref (rR T1 h a0 0 - 1)) d_Town_isDown_1 (fo_Town_9_10 rfl) c1 c2 (vR_pos c3) ?_
  refine A_iload_n d_Town_isDown_4 rfl ?_
  obtain ⟨c4, H⟩ := H
  obtain ⟨c5, H⟩ := H
  obtain ⟨c6, H⟩ := H
  refine A_ialdv (n := _) (v := (h.1 (rR T1 h a0 0 - 1) x1)) d_Town_isDown_5 c4 (rS_ex c5) c6 rfl ?_
  refine A_if_ne 13 d_Town_isDown_6 (by decide) (fun z => ?_) (fun z => ?_)
  · have H := H.1 z
    refine A_iconst 0 (by decide) d_Town_isDown_13 ?_
    exact A_iret d_Town_isDown_14 rfl rfl H
  · have H := H.2 z
    refine A_iconst 1 (by decide) d_Town_isDown_9 ?_
    refine A_goto 14 d_Town_isDown_10 (by decide) ?_
    exact A_iret d_Town_isDown_14 rfl rfl H
set_option maxRecDepth 20000 in
theorem ok_Town_isDown {G : GG} {d : Nat} {Q : Int32 → AH → Prop} {a0 : Nat} {x1 : Int32} {h : AH} (H : p_Town_isDown Q a0 x1 h) : WP G T1 m_Town_isDown d [.ref a0, .int x1] h 0 0 (iQ Q) := by
  exact WP.enter 0 (by decide) rfl rfl (r_Town_isDown_0 a0 x1 h H)
theorem d_Dusk_hitsTogether_0 : decode prog_4_method_13_code 0 = .ok (.iconst 0, 1) := by decide +kernel
theorem d_Dusk_hitsTogether_1 : decode prog_4_method_13_code 1 = .ok (.istore_n 1, 1) := by decide +kernel
theorem d_Dusk_hitsTogether_2 : decode prog_4_method_13_code 2 = .ok (.iconst 0, 1) := by decide +kernel
theorem d_Dusk_hitsTogether_3 : decode prog_4_method_13_code 3 = .ok (.istore_n 2, 1) := by decide +kernel
theorem d_Dusk_hitsTogether_4 : decode prog_4_method_13_code 4 = .ok (.iload_n 2, 1) := by decide +kernel
theorem d_Dusk_hitsTogether_5 : decode prog_4_method_13_code 5 = .ok (.aload_n 0, 1) := by decide +kernel
theorem d_Dusk_hitsTogether_6 : decode prog_4_method_13_code 6 = .ok (.getfield 12, 3) := by decide +kernel
theorem d_Dusk_hitsTogether_9 : decode prog_4_method_13_code 9 = .ok (.getfield 61, 3) := by decide +kernel
theorem d_Dusk_hitsTogether_12 : decode prog_4_method_13_code 12 = .ok (.if_icmp .ge 18, 3) := by decide +kernel
theorem d_Dusk_hitsTogether_15 : decode prog_4_method_13_code 15 = .ok (.iload_n 1, 1) := by decide +kernel
theorem d_Dusk_hitsTogether_16 : decode prog_4_method_13_code 16 = .ok (.aload_n 0, 1) := by decide +kernel
theorem d_Dusk_hitsTogether_17 : decode prog_4_method_13_code 17 = .ok (.getfield 31, 3) := by decide +kernel
theorem d_Dusk_hitsTogether_20 : decode prog_4_method_13_code 20 = .ok (.iload_n 2, 1) := by decide +kernel
theorem d_Dusk_hitsTogether_21 : decode prog_4_method_13_code 21 = .ok (.iaload, 1) := by decide +kernel
theorem d_Dusk_hitsTogether_22 : decode prog_4_method_13_code 22 = .ok (.iadd, 1) := by decide +kernel
theorem d_Dusk_hitsTogether_23 : decode prog_4_method_13_code 23 = .ok (.istore_n 1, 1) := by decide +kernel
theorem d_Dusk_hitsTogether_24 : decode prog_4_method_13_code 24 = .ok (.iinc 2 1, 3) := by decide +kernel
theorem d_Dusk_hitsTogether_27 : decode prog_4_method_13_code 27 = .ok (.goto (-23), 3) := by decide +kernel
theorem d_Dusk_hitsTogether_30 : decode prog_4_method_13_code 30 = .ok (.iload_n 1, 1) := by decide +kernel
theorem d_Dusk_hitsTogether_31 : decode prog_4_method_13_code 31 = .ok (.ireturn, 1) := by decide +kernel
def p_Dusk_hitsTogether_4 (Q : Int32 → AH → Prop) : Nat → Int32 → Int32 → AH → Prop
  | 0 => fun _ _ _ => False
  | n + 1 => fun x1 x2 h => let K4 := p_Dusk_hitsTogether_4 Q n; (((h.1 14 3) ≤ x2 → Q x1 h) ∧ (¬ (h.1 14 3) ≤ x2 → inb x2 7 ∧ K4 (x1 + (h.1 21 x2)) (x2 + 1) h))
def p_Dusk_hitsTogether (Q : Int32 → AH → Prop) (h : AH) : Prop := ∃ n, p_Dusk_hitsTogether_4 Q   n 0 0 h
set_option maxRecDepth 20000 in
theorem r_Dusk_hitsTogether_4 {G : GG} {d : Nat} {Q : Int32 → AH → Prop} : ∀ (n : Nat) (x1 : Int32) (x2 : Int32) (h : AH), p_Dusk_hitsTogether_4 Q n x1 x2 h → Att G T1 m_Dusk_hitsTogether d 4 [some (.ref 13), some (.int x1), some (.int x2)] [] h 0 0 (iQ Q) := by
  intro n
  induction n with
  | zero => intro x1 x2 h H; exact H.elim
  | succ n k4 =>
    intro x1 x2 h H
    refine A_iload_n d_Dusk_hitsTogether_4 rfl ?_
    refine A_aload_n d_Dusk_hitsTogether_5 rfl ?_
    refine A_get (v := .ref 14) d_Dusk_hitsTogether_6 (fo_Dusk_12_2 rfl) (vA_s (by decide)) rfl (by first | rfl | (show Value.int _ = Value.int _; simp [wI, wL, wR, wC, up])) ?_
    refine A_get (v := .int (h.1 14 3)) d_Dusk_hitsTogether_9 (fo_Dusk_61_10 rfl) (vA_s (by decide)) rfl (by first | rfl | (show Value.int _ = Value.int _; simp [wI, wL, wR, wC, up])) ?_
    refine A_icmp_ge 30 d_Dusk_hitsTogether_12 (by decide) (fun z => ?_) (fun z => ?_)
    · have H := H.1 z
      refine A_iload_n d_Dusk_hitsTogether_30 rfl ?_
      exact A_iret d_Dusk_hitsTogether_31 rfl rfl H
    · have H := H.2 z
      refine A_iload_n d_Dusk_hitsTogether_15 rfl ?_
      refine A_aload_n d_Dusk_hitsTogether_16 rfl ?_
      refine A_get (v := .ref 21) d_Dusk_hitsTogether_17 (fo_Dusk_31_2 rfl) (vA_s (by decide)) rfl (by first | rfl | (show Value.int _ = Value.int _; simp [wI, wL, wR, wC, up])) ?_
      refine A_iload_n d_Dusk_hitsTogether_20 rfl ?_
      obtain ⟨c1, H⟩ := H
      refine A_ialdv (n := 7) (v := (h.1 21 x2)) d_Dusk_hitsTogether_21 (vA_s (by decide)) rfl c1 rfl ?_
      refine A_iadd d_Dusk_hitsTogether_22 ?_
      refine A_istore_n [some (.ref 13), some (.int (x1 + (h.1 21 x2))), some (.int x2)] d_Dusk_hitsTogether_23 (by decide) rfl rfl ?_
      refine A_iinc 1 [some (.ref 13), some (.int (x1 + (h.1 21 x2))), some (.int (x2 + 1))] d_Dusk_hitsTogether_24 rfl (by decide) (by decide) rfl rfl ?_
      refine A_goto 4 d_Dusk_hitsTogether_27 (by decide) ?_
      exact k4 _ _ _ H
set_option maxRecDepth 20000 in
theorem r_Dusk_hitsTogether_0 {G : GG} {d : Nat} {Q : Int32 → AH → Prop} (h : AH) (H : p_Dusk_hitsTogether Q h) : Att G T1 m_Dusk_hitsTogether d 0 [some (.ref 13), none, none] [] h 0 0 (iQ Q) := by
  refine A_iconst 0 (by decide) d_Dusk_hitsTogether_0 ?_
  refine A_istore_n [some (.ref 13), some (.int 0), none] d_Dusk_hitsTogether_1 (by decide) rfl rfl ?_
  refine A_iconst 0 (by decide) d_Dusk_hitsTogether_2 ?_
  refine A_istore_n [some (.ref 13), some (.int 0), some (.int 0)] d_Dusk_hitsTogether_3 (by decide) rfl rfl ?_
  obtain ⟨n9, H⟩ := H
  exact r_Dusk_hitsTogether_4   n9 _ _ _ H
set_option maxRecDepth 20000 in
theorem ok_Dusk_hitsTogether {G : GG} {d : Nat} {Q : Int32 → AH → Prop} {h : AH} (H : p_Dusk_hitsTogether Q h) : WP G T1 m_Dusk_hitsTogether d [.ref 13] h 0 0 (iQ Q) := by
  exact WP.enter 2 (by decide) rfl rfl (r_Dusk_hitsTogether_0 h H)
theorem d_Town_highTogether_0 : decode prog_12_method_10_code 0 = .ok (.iconst 0, 1) := by decide +kernel
theorem d_Town_highTogether_1 : decode prog_12_method_10_code 1 = .ok (.istore_n 1, 1) := by decide +kernel
theorem d_Town_highTogether_2 : decode prog_12_method_10_code 2 = .ok (.iconst 0, 1) := by decide +kernel
theorem d_Town_highTogether_3 : decode prog_12_method_10_code 3 = .ok (.istore_n 2, 1) := by decide +kernel
theorem d_Town_highTogether_4 : decode prog_12_method_10_code 4 = .ok (.iload_n 2, 1) := by decide +kernel
theorem d_Town_highTogether_5 : decode prog_12_method_10_code 5 = .ok (.aload_n 0, 1) := by decide +kernel
theorem d_Town_highTogether_6 : decode prog_12_method_10_code 6 = .ok (.getfield 21, 3) := by decide +kernel
theorem d_Town_highTogether_9 : decode prog_12_method_10_code 9 = .ok (.if_icmp .ge 18, 3) := by decide +kernel
theorem d_Town_highTogether_12 : decode prog_12_method_10_code 12 = .ok (.iload_n 1, 1) := by decide +kernel
theorem d_Town_highTogether_13 : decode prog_12_method_10_code 13 = .ok (.aload_n 0, 1) := by decide +kernel
theorem d_Town_highTogether_14 : decode prog_12_method_10_code 14 = .ok (.getfield 9, 3) := by decide +kernel
theorem d_Town_highTogether_17 : decode prog_12_method_10_code 17 = .ok (.iload_n 2, 1) := by decide +kernel
theorem d_Town_highTogether_18 : decode prog_12_method_10_code 18 = .ok (.iaload, 1) := by decide +kernel
theorem d_Town_highTogether_19 : decode prog_12_method_10_code 19 = .ok (.iadd, 1) := by decide +kernel
theorem d_Town_highTogether_20 : decode prog_12_method_10_code 20 = .ok (.istore_n 1, 1) := by decide +kernel
theorem d_Town_highTogether_21 : decode prog_12_method_10_code 21 = .ok (.iinc 2 1, 3) := by decide +kernel
theorem d_Town_highTogether_24 : decode prog_12_method_10_code 24 = .ok (.goto (-20), 3) := by decide +kernel
theorem d_Town_highTogether_27 : decode prog_12_method_10_code 27 = .ok (.iload_n 1, 1) := by decide +kernel
theorem d_Town_highTogether_28 : decode prog_12_method_10_code 28 = .ok (.ireturn, 1) := by decide +kernel
def p_Town_highTogether_4 (Q : Int32 → AH → Prop) : Nat → Nat → Int32 → Int32 → AH → Prop
  | 0 => fun _ _ _ _ => False
  | n + 1 => fun a0 x1 x2 h => let K4 := p_Town_highTogether_4 Q n; vA T1 h a0 ∧ (rS T1 h a0).1 = 10 ∧ (((h.1 a0 3) ≤ x2 → Q x1 h) ∧ (¬ (h.1 a0 3) ≤ x2 → 0 < rR T1 h a0 0 ∧ vA T1 h (rR T1 h a0 0 - 1) ∧ (rS T1 h (rR T1 h a0 0 - 1)).1 = 100 ∧ inb x2 ((rS T1 h (rR T1 h a0 0 - 1)).2) ∧ K4 a0 (x1 + (h.1 (rR T1 h a0 0 - 1) x2)) (x2 + 1) h))
def p_Town_highTogether (Q : Int32 → AH → Prop) (a0 : Nat) (h : AH) : Prop := ∃ n, p_Town_highTogether_4 Q   n a0 0 0 h
set_option maxRecDepth 20000 in
theorem r_Town_highTogether_4 {G : GG} {d : Nat} {Q : Int32 → AH → Prop} : ∀ (n : Nat) (a0 : Nat) (x1 : Int32) (x2 : Int32) (h : AH), p_Town_highTogether_4 Q n a0 x1 x2 h → Att G T1 m_Town_highTogether d 4 [some (.ref a0), some (.int x1), some (.int x2)] [] h 0 0 (iQ Q) := by
  intro n
  induction n with
  | zero => intro a0 x1 x2 h H; exact H.elim
  | succ n k4 =>
    intro a0 x1 x2 h H
    refine A_iload_n d_Town_highTogether_4 rfl ?_
    refine A_aload_n d_Town_highTogether_5 rfl ?_
    obtain ⟨c1, H⟩ := H
    obtain ⟨c2, H⟩ := H
    refine A_get (v := .int (h.1 a0 3)) d_Town_highTogether_6 (fo_Town_21_10 rfl) c1 c2 (by first | rfl | (show Value.int _ = Value.int _; simp [wI, wL, wR, wC, up])) ?_
    refine A_icmp_ge 27 d_Town_highTogether_9 (by decide) (fun z => ?_) (fun z => ?_)
    · have H := H.1 z
      refine A_iload_n d_Town_highTogether_27 rfl ?_
      exact A_iret d_Town_highTogether_28 rfl rfl H
    · have H := H.2 z
      refine A_iload_n d_Town_highTogether_12 rfl ?_
      refine A_aload_n d_Town_highTogether_13 rfl ?_
      obtain ⟨c3, H⟩ := H
      refine A_get (v := .ref (rR T1 h a0 0 - 1)) d_Town_highTogether_14 (fo_Town_9_10 rfl) c1 c2 (vR_pos c3) ?_
      refine A_iload_n d_Town_highTogether_17 rfl ?_
      obtain ⟨c4, H⟩ := H
      obtain ⟨c5, H⟩ := H
      obtain ⟨c6, H⟩ := H
      refine A_ialdv (n := _) (v := (h.1 (rR T1 h a0 0 - 1) x2)) d_Town_highTogether_18 c4 (rS_ex c5) c6 rfl ?_
      refine A_iadd d_Town_highTogether_19 ?_
      refine A_istore_n [some (.ref a0), some (.int (x1 + (h.1 (rR T1 h a0 0 - 1) x2))), some (.int x2)] d_Town_highTogether_20 (by decide) rfl rfl ?_
      refine A_iinc 1 [some (.ref a0), some (.int (x1 + (h.1 (rR T1 h a0 0 - 1) x2))), some (.int (x2 + 1))] d_Town_highTogether_21 rfl (by decide) (by decide) rfl rfl ?_
      refine A_goto 4 d_Town_highTogether_24 (by decide) ?_
      exact k4 _ _ _ _ H
set_option maxRecDepth 20000 in
theorem r_Town_highTogether_0 {G : GG} {d : Nat} {Q : Int32 → AH → Prop} (a0 : Nat) (h : AH) (H : p_Town_highTogether Q a0 h) : Att G T1 m_Town_highTogether d 0 [some (.ref a0), none, none] [] h 0 0 (iQ Q) := by
  refine A_iconst 0 (by decide) d_Town_highTogether_0 ?_
  refine A_istore_n [some (.ref a0), some (.int 0), none] d_Town_highTogether_1 (by decide) rfl rfl ?_
  refine A_iconst 0 (by decide) d_Town_highTogether_2 ?_
  refine A_istore_n [some (.ref a0), some (.int 0), some (.int 0)] d_Town_highTogether_3 (by decide) rfl rfl ?_
  obtain ⟨n9, H⟩ := H
  exact r_Town_highTogether_4   n9 _ _ _ _ H
set_option maxRecDepth 20000 in
theorem ok_Town_highTogether {G : GG} {d : Nat} {Q : Int32 → AH → Prop} {a0 : Nat} {h : AH} (H : p_Town_highTogether Q a0 h) : WP G T1 m_Town_highTogether d [.ref a0] h 0 0 (iQ Q) := by
  exact WP.enter 2 (by decide) rfl rfl (r_Town_highTogether_0 a0 h H)
theorem d_Dusk_stillBits_0 : decode prog_4_method_14_code 0 = .ok (.iconst 0, 1) := by decide +kernel
theorem d_Dusk_stillBits_1 : decode prog_4_method_14_code 1 = .ok (.istore_n 1, 1) := by decide +kernel
theorem d_Dusk_stillBits_2 : decode prog_4_method_14_code 2 = .ok (.iconst 0, 1) := by decide +kernel
theorem d_Dusk_stillBits_3 : decode prog_4_method_14_code 3 = .ok (.istore_n 2, 1) := by decide +kernel
theorem d_Dusk_stillBits_4 : decode prog_4_method_14_code 4 = .ok (.iload_n 2, 1) := by decide +kernel
theorem d_Dusk_stillBits_5 : decode prog_4_method_14_code 5 = .ok (.aload_n 0, 1) := by decide +kernel
theorem d_Dusk_stillBits_6 : decode prog_4_method_14_code 6 = .ok (.getfield 12, 3) := by decide +kernel
theorem d_Dusk_stillBits_9 : decode prog_4_method_14_code 9 = .ok (.getfield 61, 3) := by decide +kernel
theorem d_Dusk_stillBits_12 : decode prog_4_method_14_code 12 = .ok (.if_icmp .ge 24, 3) := by decide +kernel
theorem d_Dusk_stillBits_15 : decode prog_4_method_14_code 15 = .ok (.aload_n 0, 1) := by decide +kernel
theorem d_Dusk_stillBits_16 : decode prog_4_method_14_code 16 = .ok (.getfield 28, 3) := by decide +kernel
theorem d_Dusk_stillBits_19 : decode prog_4_method_14_code 19 = .ok (.iload_n 2, 1) := by decide +kernel
theorem d_Dusk_stillBits_20 : decode prog_4_method_14_code 20 = .ok (.iaload, 1) := by decide +kernel
theorem d_Dusk_stillBits_21 : decode prog_4_method_14_code 21 = .ok (.ifCond .ne 9, 3) := by decide +kernel
theorem d_Dusk_stillBits_24 : decode prog_4_method_14_code 24 = .ok (.iload_n 1, 1) := by decide +kernel
theorem d_Dusk_stillBits_25 : decode prog_4_method_14_code 25 = .ok (.iconst 1, 1) := by decide +kernel
theorem d_Dusk_stillBits_26 : decode prog_4_method_14_code 26 = .ok (.iload_n 2, 1) := by decide +kernel
theorem d_Dusk_stillBits_27 : decode prog_4_method_14_code 27 = .ok (.ishl, 1) := by decide +kernel
theorem d_Dusk_stillBits_28 : decode prog_4_method_14_code 28 = .ok (.ior, 1) := by decide +kernel
theorem d_Dusk_stillBits_29 : decode prog_4_method_14_code 29 = .ok (.istore_n 1, 1) := by decide +kernel
theorem d_Dusk_stillBits_30 : decode prog_4_method_14_code 30 = .ok (.iinc 2 1, 3) := by decide +kernel
theorem d_Dusk_stillBits_33 : decode prog_4_method_14_code 33 = .ok (.goto (-29), 3) := by decide +kernel
theorem d_Dusk_stillBits_36 : decode prog_4_method_14_code 36 = .ok (.iload_n 1, 1) := by decide +kernel
theorem d_Dusk_stillBits_37 : decode prog_4_method_14_code 37 = .ok (.ireturn, 1) := by decide +kernel
def p_Dusk_stillBits_30 (Q : Int32 → AH → Prop) (K4 : Int32 → Int32 → AH → Prop) (x1 : Int32) (x2 : Int32) (h : AH) : Prop := K4 x1 (x2 + 1) h
def p_Dusk_stillBits_4 (Q : Int32 → AH → Prop) : Nat → Int32 → Int32 → AH → Prop
  | 0 => fun _ _ _ => False
  | n + 1 => fun x1 x2 h => let K4 := p_Dusk_stillBits_4 Q n; (((h.1 14 3) ≤ x2 → Q x1 h) ∧ (¬ (h.1 14 3) ≤ x2 → inb x2 7 ∧ ((¬ (h.1 20 x2) = 0 → p_Dusk_stillBits_30 Q  K4 x1 x2 h) ∧ ((h.1 20 x2) = 0 → p_Dusk_stillBits_30 Q  K4 (x1 ||| (1 <<< (x2 &&& 31))) x2 h))))
def p_Dusk_stillBits (Q : Int32 → AH → Prop) (h : AH) : Prop := ∃ n, p_Dusk_stillBits_4 Q   n 0 0 h
set_option maxRecDepth 20000 in
theorem r_Dusk_stillBits_30 {G : GG} {d : Nat} {Q : Int32 → AH → Prop} {K4 : Int32 → Int32 → AH → Prop} (k4 : ∀ x1 x2 h, K4 x1 x2 h → Att G T1 m_Dusk_stillBits d 4 [some (.ref 13), some (.int x1), some (.int x2)] [] h 0 0 (iQ Q)) (x1 : Int32) (x2 : Int32) (h : AH) (H : p_Dusk_stillBits_30 Q K4 x1 x2 h) : Att G T1 m_Dusk_stillBits d 30 [some (.ref 13), some (.int x1), some (.int x2)] [] h 0 0 (iQ Q) := by
  refine A_iinc 1 [some (.ref 13), some (.int x1), some (.int (x2 + 1))] d_Dusk_stillBits_30 rfl (by decide) (by decide) rfl rfl ?_
  refine A_goto 4 d_Dusk_stillBits_33 (by decide) ?_
  exact k4 _ _ _ H
set_option maxRecDepth 20000 in
theorem r_Dusk_stillBits_4 {G : GG} {d : Nat} {Q : Int32 → AH → Prop} : ∀ (n : Nat) (x1 : Int32) (x2 : Int32) (h : AH), p_Dusk_stillBits_4 Q n x1 x2 h → Att G T1 m_Dusk_stillBits d 4 [some (.ref 13), some (.int x1), some (.int x2)] [] h 0 0 (iQ Q) := by
  intro n
  induction n with
  | zero => intro x1 x2 h H; exact H.elim
  | succ n k4 =>
    intro x1 x2 h H
    refine A_iload_n d_Dusk_stillBits_4 rfl ?_
    refine A_aload_n d_Dusk_stillBits_5 rfl ?_
    refine A_get (v := .ref 14) d_Dusk_stillBits_6 (fo_Dusk_12_2 rfl) (vA_s (by decide)) rfl (by first | rfl | (show Value.int _ = Value.int _; simp [wI, wL, wR, wC, up])) ?_
    refine A_get (v := .int (h.1 14 3)) d_Dusk_stillBits_9 (fo_Dusk_61_10 rfl) (vA_s (by decide)) rfl (by first | rfl | (show Value.int _ = Value.int _; simp [wI, wL, wR, wC, up])) ?_
    refine A_icmp_ge 36 d_Dusk_stillBits_12 (by decide) (fun z => ?_) (fun z => ?_)
    · have H := H.1 z
      refine A_iload_n d_Dusk_stillBits_36 rfl ?_
      exact A_iret d_Dusk_stillBits_37 rfl rfl H
    · have H := H.2 z
      refine A_aload_n d_Dusk_stillBits_15 rfl ?_
      refine A_get (v := .ref 20) d_Dusk_stillBits_16 (fo_Dusk_28_2 rfl) (vA_s (by decide)) rfl (by first | rfl | (show Value.int _ = Value.int _; simp [wI, wL, wR, wC, up])) ?_
      refine A_iload_n d_Dusk_stillBits_19 rfl ?_
      obtain ⟨c1, H⟩ := H
      refine A_ialdv (n := 7) (v := (h.1 20 x2)) d_Dusk_stillBits_20 (vA_s (by decide)) rfl c1 rfl ?_
      refine A_if_ne 30 d_Dusk_stillBits_21 (by decide) (fun z => ?_) (fun z => ?_)
      · have H := H.1 z
        exact r_Dusk_stillBits_30  k4 _ _ _ H
      · have H := H.2 z
        refine A_iload_n d_Dusk_stillBits_24 rfl ?_
        refine A_iconst 1 (by decide) d_Dusk_stillBits_25 ?_
        refine A_iload_n d_Dusk_stillBits_26 rfl ?_
        refine A_ishl d_Dusk_stillBits_27 ?_
        refine A_ior d_Dusk_stillBits_28 ?_
        refine A_istore_n [some (.ref 13), some (.int (x1 ||| (1 <<< (x2 &&& 31)))), some (.int x2)] d_Dusk_stillBits_29 (by decide) rfl rfl ?_
        exact r_Dusk_stillBits_30  k4 _ _ _ H
set_option maxRecDepth 20000 in
theorem r_Dusk_stillBits_0 {G : GG} {d : Nat} {Q : Int32 → AH → Prop} (h : AH) (H : p_Dusk_stillBits Q h) : Att G T1 m_Dusk_stillBits d 0 [some (.ref 13), none, none] [] h 0 0 (iQ Q) := by
  refine A_iconst 0 (by decide) d_Dusk_stillBits_0 ?_
  refine A_istore_n [some (.ref 13), some (.int 0), none] d_Dusk_stillBits_1 (by decide) rfl rfl ?_
  refine A_iconst 0 (by decide) d_Dusk_stillBits_2 ?_
  refine A_istore_n [some (.ref 13), some (.int 0), some (.int 0)] d_Dusk_stillBits_3 (by decide) rfl rfl ?_
  obtain ⟨n9, H⟩ := H
  exact r_Dusk_stillBits_4   n9 _ _ _ H
set_option maxRecDepth 20000 in
theorem ok_Dusk_stillBits {G : GG} {d : Nat} {Q : Int32 → AH → Prop} {h : AH} (H : p_Dusk_stillBits Q h) : WP G T1 m_Dusk_stillBits d [.ref 13] h 0 0 (iQ Q) := by
  exact WP.enter 2 (by decide) rfl rfl (r_Dusk_stillBits_0 h H)
theorem d_Sheet_firstOtherwise_0 : decode prog_10_method_5_code 0 = .ok (.iconst 0, 1) := by decide +kernel
theorem d_Sheet_firstOtherwise_1 : decode prog_10_method_5_code 1 = .ok (.istore_n 2, 1) := by decide +kernel
theorem d_Sheet_firstOtherwise_2 : decode prog_10_method_5_code 2 = .ok (.iload_n 2, 1) := by decide +kernel
theorem d_Sheet_firstOtherwise_3 : decode prog_10_method_5_code 3 = .ok (.aload_n 1, 1) := by decide +kernel
theorem d_Sheet_firstOtherwise_4 : decode prog_10_method_5_code 4 = .ok (.getfield 26, 3) := by decide +kernel
theorem d_Sheet_firstOtherwise_7 : decode prog_10_method_5_code 7 = .ok (.if_icmp .ge 32, 3) := by decide +kernel
theorem d_Sheet_firstOtherwise_10 : decode prog_10_method_5_code 10 = .ok (.iload_n 2, 1) := by decide +kernel
theorem d_Sheet_firstOtherwise_11 : decode prog_10_method_5_code 11 = .ok (.bipush 40, 2) := by decide +kernel
theorem d_Sheet_firstOtherwise_13 : decode prog_10_method_5_code 13 = .ok (.if_icmp .ge 26, 3) := by decide +kernel
theorem d_Sheet_firstOtherwise_16 : decode prog_10_method_5_code 16 = .ok (.aload_n 0, 1) := by decide +kernel
theorem d_Sheet_firstOtherwise_17 : decode prog_10_method_5_code 17 = .ok (.getfield 9, 3) := by decide +kernel
theorem d_Sheet_firstOtherwise_20 : decode prog_10_method_5_code 20 = .ok (.iload_n 2, 1) := by decide +kernel
theorem d_Sheet_firstOtherwise_21 : decode prog_10_method_5_code 21 = .ok (.iaload, 1) := by decide +kernel
theorem d_Sheet_firstOtherwise_22 : decode prog_10_method_5_code 22 = .ok (.aload_n 1, 1) := by decide +kernel
theorem d_Sheet_firstOtherwise_23 : decode prog_10_method_5_code 23 = .ok (.getfield 29, 3) := by decide +kernel
theorem d_Sheet_firstOtherwise_26 : decode prog_10_method_5_code 26 = .ok (.iload_n 2, 1) := by decide +kernel
theorem d_Sheet_firstOtherwise_27 : decode prog_10_method_5_code 27 = .ok (.iaload, 1) := by decide +kernel
theorem d_Sheet_firstOtherwise_28 : decode prog_10_method_5_code 28 = .ok (.if_icmp .eq 5, 3) := by decide +kernel
theorem d_Sheet_firstOtherwise_31 : decode prog_10_method_5_code 31 = .ok (.iload_n 2, 1) := by decide +kernel
theorem d_Sheet_firstOtherwise_32 : decode prog_10_method_5_code 32 = .ok (.ireturn, 1) := by decide +kernel
theorem d_Sheet_firstOtherwise_33 : decode prog_10_method_5_code 33 = .ok (.iinc 2 1, 3) := by decide +kernel
theorem d_Sheet_firstOtherwise_36 : decode prog_10_method_5_code 36 = .ok (.goto (-34), 3) := by decide +kernel
theorem d_Sheet_firstOtherwise_39 : decode prog_10_method_5_code 39 = .ok (.iconst (-1), 1) := by decide +kernel
theorem d_Sheet_firstOtherwise_40 : decode prog_10_method_5_code 40 = .ok (.ireturn, 1) := by decide +kernel
def p_Sheet_firstOtherwise_2 (Q : Int32 → AH → Prop) : Nat → Nat → Nat → Int32 → AH → Prop
  | 0 => fun _ _ _ _ => False
  | n + 1 => fun a0 a1 x2 h => let K2 := p_Sheet_firstOtherwise_2 Q n; vA T1 h a1 ∧ (rS T1 h a1).1 = 10 ∧ (((h.1 a1 3) ≤ x2 → Q (-1) h) ∧ (¬ (h.1 a1 3) ≤ x2 → ((40 ≤ x2 → Q (-1) h) ∧ (¬ 40 ≤ x2 → vA T1 h a0 ∧ (rS T1 h a0).1 = 8 ∧ 0 < rR T1 h a0 0 ∧ vA T1 h (rR T1 h a0 0 - 1) ∧ (rS T1 h (rR T1 h a0 0 - 1)).1 = 100 ∧ inb x2 ((rS T1 h (rR T1 h a0 0 - 1)).2) ∧ 0 < rR T1 h a1 0 ∧ vA T1 h (rR T1 h a1 0 - 1) ∧ (rS T1 h (rR T1 h a1 0 - 1)).1 = 100 ∧ inb x2 ((rS T1 h (rR T1 h a1 0 - 1)).2) ∧ (((h.1 (rR T1 h a0 0 - 1) x2) = (h.1 (rR T1 h a1 0 - 1) x2) → K2 a0 a1 (x2 + 1) h) ∧ (¬ (h.1 (rR T1 h a0 0 - 1) x2) = (h.1 (rR T1 h a1 0 - 1) x2) → Q x2 h))))))
def p_Sheet_firstOtherwise (Q : Int32 → AH → Prop) (a0 : Nat) (a1 : Nat) (h : AH) : Prop := ∃ n, p_Sheet_firstOtherwise_2 Q   n a0 a1 0 h
set_option maxRecDepth 20000 in
theorem r_Sheet_firstOtherwise_2 {G : GG} {d : Nat} {Q : Int32 → AH → Prop} : ∀ (n : Nat) (a0 : Nat) (a1 : Nat) (x2 : Int32) (h : AH), p_Sheet_firstOtherwise_2 Q n a0 a1 x2 h → Att G T1 m_Sheet_firstOtherwise d 2 [some (.ref a0), some (.ref a1), some (.int x2)] [] h 0 0 (iQ Q) := by
  intro n
  induction n with
  | zero => intro a0 a1 x2 h H; exact H.elim
  | succ n k2 =>
    intro a0 a1 x2 h H
    refine A_iload_n d_Sheet_firstOtherwise_2 rfl ?_
    refine A_aload_n d_Sheet_firstOtherwise_3 rfl ?_
    obtain ⟨c1, H⟩ := H
    obtain ⟨c2, H⟩ := H
    refine A_get (v := .int (h.1 a1 3)) d_Sheet_firstOtherwise_4 (fo_Sheet_26_10 rfl) c1 c2 (by first | rfl | (show Value.int _ = Value.int _; simp [wI, wL, wR, wC, up])) ?_
    refine A_icmp_ge 39 d_Sheet_firstOtherwise_7 (by decide) (fun z => ?_) (fun z => ?_)
    · have H := H.1 z
      refine A_iconst (-1) (by decide) d_Sheet_firstOtherwise_39 ?_
      exact A_iret d_Sheet_firstOtherwise_40 rfl rfl H
    · have H := H.2 z
      refine A_iload_n d_Sheet_firstOtherwise_10 rfl ?_
      refine A_bipush 40 (by decide) d_Sheet_firstOtherwise_11 ?_
      refine A_icmp_ge 39 d_Sheet_firstOtherwise_13 (by decide) (fun z => ?_) (fun z => ?_)
      · have H := H.1 z
        refine A_iconst (-1) (by decide) d_Sheet_firstOtherwise_39 ?_
        exact A_iret d_Sheet_firstOtherwise_40 rfl rfl H
      · have H := H.2 z
        refine A_aload_n d_Sheet_firstOtherwise_16 rfl ?_
        obtain ⟨c3, H⟩ := H
        obtain ⟨c4, H⟩ := H
        obtain ⟨c5, H⟩ := H
        refine A_get (v := .ref (rR T1 h a0 0 - 1)) d_Sheet_firstOtherwise_17 (fo_Sheet_9_8 rfl) c3 c4 (vR_pos c5) ?_
        refine A_iload_n d_Sheet_firstOtherwise_20 rfl ?_
        obtain ⟨c6, H⟩ := H
        obtain ⟨c7, H⟩ := H
        obtain ⟨c8, H⟩ := H
        refine A_ialdv (n := _) (v := (h.1 (rR T1 h a0 0 - 1) x2)) d_Sheet_firstOtherwise_21 c6 (rS_ex c7) c8 rfl ?_
        refine A_aload_n d_Sheet_firstOtherwise_22 rfl ?_
        obtain ⟨c9, H⟩ := H
        refine A_get (v := .ref (rR T1 h a1 0 - 1)) d_Sheet_firstOtherwise_23 (fo_Sheet_29_10 rfl) c1 c2 (vR_pos c9) ?_
        refine A_iload_n d_Sheet_firstOtherwise_26 rfl ?_
        obtain ⟨c10, H⟩ := H
        obtain ⟨c11, H⟩ := H
        obtain ⟨c12, H⟩ := H
        refine A_ialdv (n := _) (v := (h.1 (rR T1 h a1 0 - 1) x2)) d_Sheet_firstOtherwise_27 c10 (rS_ex c11) c12 rfl ?_
        refine A_icmp_eq 33 d_Sheet_firstOtherwise_28 (by decide) (fun z => ?_) (fun z => ?_)
        · have H := H.1 z
          refine A_iinc 1 [some (.ref a0), some (.ref a1), some (.int (x2 + 1))] d_Sheet_firstOtherwise_33 rfl (by decide) (by decide) rfl rfl ?_
          refine A_goto 2 d_Sheet_firstOtherwise_36 (by decide) ?_
          exact k2 _ _ _ _ H
        · have H := H.2 z
          refine A_iload_n d_Sheet_firstOtherwise_31 rfl ?_
          exact A_iret d_Sheet_firstOtherwise_32 rfl rfl H
set_option maxRecDepth 20000 in
theorem r_Sheet_firstOtherwise_0 {G : GG} {d : Nat} {Q : Int32 → AH → Prop} (a0 : Nat) (a1 : Nat) (h : AH) (H : p_Sheet_firstOtherwise Q a0 a1 h) : Att G T1 m_Sheet_firstOtherwise d 0 [some (.ref a0), some (.ref a1), none] [] h 0 0 (iQ Q) := by
  refine A_iconst 0 (by decide) d_Sheet_firstOtherwise_0 ?_
  refine A_istore_n [some (.ref a0), some (.ref a1), some (.int 0)] d_Sheet_firstOtherwise_1 (by decide) rfl rfl ?_
  obtain ⟨n9, H⟩ := H
  exact r_Sheet_firstOtherwise_2   n9 _ _ _ _ H
set_option maxRecDepth 20000 in
theorem ok_Sheet_firstOtherwise {G : GG} {d : Nat} {Q : Int32 → AH → Prop} {a0 : Nat} {a1 : Nat} {h : AH} (H : p_Sheet_firstOtherwise Q a0 a1 h) : WP G T1 m_Sheet_firstOtherwise d [.ref a0, .ref a1] h 0 0 (iQ Q) := by
  exact WP.enter 1 (by decide) rfl rfl (r_Sheet_firstOtherwise_0 a0 a1 h H)
theorem d_Sheet_renew_0 : decode prog_10_method_2_code 0 = .ok (.aload_n 0, 1) := by decide +kernel
theorem d_Sheet_renew_1 : decode prog_10_method_2_code 1 = .ok (.iload_n 1, 1) := by decide +kernel
theorem d_Sheet_renew_2 : decode prog_10_method_2_code 2 = .ok (.putfield 15, 3) := by decide +kernel
theorem d_Sheet_renew_5 : decode prog_10_method_2_code 5 = .ok (.aload_n 0, 1) := by decide +kernel
theorem d_Sheet_renew_6 : decode prog_10_method_2_code 6 = .ok (.iload_n 2, 1) := by decide +kernel
theorem d_Sheet_renew_7 : decode prog_10_method_2_code 7 = .ok (.putfield 19, 3) := by decide +kernel
theorem d_Sheet_renew_10 : decode prog_10_method_2_code 10 = .ok (.iconst 0, 1) := by decide +kernel
theorem d_Sheet_renew_11 : decode prog_10_method_2_code 11 = .ok (.istore_n 3, 1) := by decide +kernel
theorem d_Sheet_renew_12 : decode prog_10_method_2_code 12 = .ok (.iload_n 3, 1) := by decide +kernel
theorem d_Sheet_renew_13 : decode prog_10_method_2_code 13 = .ok (.bipush 40, 2) := by decide +kernel
theorem d_Sheet_renew_15 : decode prog_10_method_2_code 15 = .ok (.if_icmp .ge 16, 3) := by decide +kernel
theorem d_Sheet_renew_18 : decode prog_10_method_2_code 18 = .ok (.aload_n 0, 1) := by decide +kernel
theorem d_Sheet_renew_19 : decode prog_10_method_2_code 19 = .ok (.getfield 9, 3) := by decide +kernel
theorem d_Sheet_renew_22 : decode prog_10_method_2_code 22 = .ok (.iload_n 3, 1) := by decide +kernel
theorem d_Sheet_renew_23 : decode prog_10_method_2_code 23 = .ok (.iconst 0, 1) := by decide +kernel
theorem d_Sheet_renew_24 : decode prog_10_method_2_code 24 = .ok (.iastore, 1) := by decide +kernel
theorem d_Sheet_renew_25 : decode prog_10_method_2_code 25 = .ok (.iinc 3 1, 3) := by decide +kernel
theorem d_Sheet_renew_28 : decode prog_10_method_2_code 28 = .ok (.goto (-16), 3) := by decide +kernel
theorem d_Sheet_renew_31 : decode prog_10_method_2_code 31 = .ok (.return_, 1) := by decide +kernel
def p_Sheet_renew_12 (Q : AH → Prop) : Nat → Nat → Int32 → AH → Prop
  | 0 => fun _ _ _ => False
  | n + 1 => fun a0 x3 h => let K12 := p_Sheet_renew_12 Q n; ((40 ≤ x3 → Q h) ∧ (¬ 40 ≤ x3 → vA T1 h a0 ∧ (rS T1 h a0).1 = 8 ∧ 0 < rR T1 h a0 0 ∧ vA T1 h (rR T1 h a0 0 - 1) ∧ (rS T1 h (rR T1 h a0 0 - 1)).1 = 100 ∧ inb x3 ((rS T1 h (rR T1 h a0 0 - 1)).2) ∧ K12 a0 (x3 + 1) (wI h (rR T1 h a0 0 - 1) x3 0)))
def p_Sheet_renew (Q : AH → Prop) (a0 : Nat) (x1 : Int32) (x2 : Int32) (h : AH) : Prop := vA T1 h a0 ∧ (rS T1 h a0).1 = 8 ∧ ∃ n, p_Sheet_renew_12 Q   n a0 0 (wI (wI h a0 1 x1) a0 2 x2)
set_option maxRecDepth 20000 in
theorem r_Sheet_renew_12 {G : GG} {d : Nat} {Q : AH → Prop} : ∀ (n : Nat) (a0 : Nat) (x3 : Int32) (h : AH), p_Sheet_renew_12 Q n a0 x3 h → Att G T1 m_Sheet_renew d 12 [some (.ref a0), none, none, some (.int x3)] [] h 0 0 (vQ Q) := by
  intro n
  induction n with
  | zero => intro a0 x3 h H; exact H.elim
  | succ n k12 =>
    intro a0 x3 h H
    refine A_iload_n d_Sheet_renew_12 rfl ?_
    refine A_bipush 40 (by decide) d_Sheet_renew_13 ?_
    refine A_icmp_ge 31 d_Sheet_renew_15 (by decide) (fun z => ?_) (fun z => ?_)
    · have H := H.1 z
      exact A_ret d_Sheet_renew_31 rfl H
    · have H := H.2 z
      refine A_aload_n d_Sheet_renew_18 rfl ?_
      obtain ⟨c1, H⟩ := H
      obtain ⟨c2, H⟩ := H
      obtain ⟨c3, H⟩ := H
      refine A_get (v := .ref (rR T1 h a0 0 - 1)) d_Sheet_renew_19 (fo_Sheet_9_8 rfl) c1 c2 (vR_pos c3) ?_
      refine A_iload_n d_Sheet_renew_22 rfl ?_
      refine A_iconst 0 (by decide) d_Sheet_renew_23 ?_
      obtain ⟨c4, H⟩ := H
      obtain ⟨c5, H⟩ := H
      obtain ⟨c6, H⟩ := H
      refine A_iast (n := _) d_Sheet_renew_24 c4 (rS_ex c5) c6 ?_
      refine A_iinc 1 [some (.ref a0), none, none, some (.int (x3 + 1))] d_Sheet_renew_25 rfl (by decide) (by decide) rfl rfl ?_
      refine A_goto 12 d_Sheet_renew_28 (by decide) ?_
      exact k12 _ _ _ H
set_option maxRecDepth 20000 in
theorem r_Sheet_renew_0 {G : GG} {d : Nat} {Q : AH → Prop} (a0 : Nat) (x1 : Int32) (x2 : Int32) (h : AH) (H : p_Sheet_renew Q a0 x1 x2 h) : Att G T1 m_Sheet_renew d 0 [some (.ref a0), some (.int x1), some (.int x2), none] [] h 0 0 (vQ Q) := by
  refine A_aload_n d_Sheet_renew_0 rfl ?_
  refine A_iload_n d_Sheet_renew_1 rfl ?_
  obtain ⟨c1, H⟩ := H
  obtain ⟨c2, H⟩ := H
  refine A_putI (k := 1) d_Sheet_renew_2 (fo_Sheet_15_8 rfl) (Or.inr ⟨rfl, _, ft_8_1⟩) (fun z => by cases z) rfl c1 c2 rfl rfl ?_
  refine A_aload_n d_Sheet_renew_5 rfl ?_
  refine A_iload_n d_Sheet_renew_6 rfl ?_
  refine A_putI (k := 2) d_Sheet_renew_7 (fo_Sheet_19_8 rfl) (Or.inr ⟨rfl, _, ft_8_2⟩) (fun z => by cases z) rfl c1 c2 rfl rfl ?_
  refine A_iconst 0 (by decide) d_Sheet_renew_10 ?_
  refine A_istore_n [some (.ref a0), some (.int x1), some (.int x2), some (.int 0)] d_Sheet_renew_11 (by decide) rfl rfl ?_
  refine A_sub (L' := [some (.ref a0), none, none, some (.int 0)]) ⟨rfl, rfl, trivial⟩ ?_
  obtain ⟨n9, H⟩ := H
  exact r_Sheet_renew_12   n9 _ _ _ H
set_option maxRecDepth 20000 in
theorem ok_Sheet_renew {G : GG} {d : Nat} {Q : AH → Prop} {a0 : Nat} {x1 : Int32} {x2 : Int32} {h : AH} (H : p_Sheet_renew Q a0 x1 x2 h) : WP G T1 m_Sheet_renew d [.ref a0, .int x1, .int x2] h 0 0 (vQ Q) := by
  exact WP.enter 1 (by decide) rfl rfl (r_Sheet_renew_0 a0 x1 x2 h H)
theorem d_Sheet_has_0 : decode prog_10_method_3_code 0 = .ok (.iload_n 1, 1) := by decide +kernel
theorem d_Sheet_has_1 : decode prog_10_method_3_code 1 = .ok (.ifCond .lt 21, 3) := by decide +kernel
theorem d_Sheet_has_4 : decode prog_10_method_3_code 4 = .ok (.iload_n 1, 1) := by decide +kernel
theorem d_Sheet_has_5 : decode prog_10_method_3_code 5 = .ok (.aload_n 0, 1) := by decide +kernel
theorem d_Sheet_has_6 : decode prog_10_method_3_code 6 = .ok (.getfield 19, 3) := by decide +kernel
theorem d_Sheet_has_9 : decode prog_10_method_3_code 9 = .ok (.if_icmp .ge 13, 3) := by decide +kernel
theorem d_Sheet_has_12 : decode prog_10_method_3_code 12 = .ok (.iload_n 1, 1) := by decide +kernel
theorem d_Sheet_has_13 : decode prog_10_method_3_code 13 = .ok (.bipush 40, 2) := by decide +kernel
theorem d_Sheet_has_15 : decode prog_10_method_3_code 15 = .ok (.if_icmp .ge 7, 3) := by decide +kernel
theorem d_Sheet_has_18 : decode prog_10_method_3_code 18 = .ok (.iconst 1, 1) := by decide +kernel
theorem d_Sheet_has_19 : decode prog_10_method_3_code 19 = .ok (.goto 4, 3) := by decide +kernel
theorem d_Sheet_has_22 : decode prog_10_method_3_code 22 = .ok (.iconst 0, 1) := by decide +kernel
theorem d_Sheet_has_23 : decode prog_10_method_3_code 23 = .ok (.ireturn, 1) := by decide +kernel
def p_Sheet_has (Q : Int32 → AH → Prop) (a0 : Nat) (x1 : Int32) (h : AH) : Prop := ((x1 < 0 → Q 0 h) ∧ (¬ x1 < 0 → vA T1 h a0 ∧ (rS T1 h a0).1 = 8 ∧ (((h.1 a0 2) ≤ x1 → Q 0 h) ∧ (¬ (h.1 a0 2) ≤ x1 → ((40 ≤ x1 → Q 0 h) ∧ (¬ 40 ≤ x1 → Q 1 h))))))
set_option maxRecDepth 20000 in
theorem r_Sheet_has_0 {G : GG} {d : Nat} {Q : Int32 → AH → Prop} (a0 : Nat) (x1 : Int32) (h : AH) (H : p_Sheet_has Q a0 x1 h) : Att G T1 m_Sheet_has d 0 [some (.ref a0), some (.int x1)] [] h 0 0 (iQ Q) := by
  refine A_iload_n d_Sheet_has_0 rfl ?_
  refine A_if_lt 22 d_Sheet_has_1 (by decide) (fun z => ?_) (fun z => ?_)
  · have H := H.1 z
    refine A_iconst 0 (by decide) d_Sheet_has_22 ?_
    exact A_iret d_Sheet_has_23 rfl rfl H
  · have H := H.2 z
    refine A_iload_n d_Sheet_has_4 rfl ?_
    refine A_aload_n d_Sheet_has_5 rfl ?_
    obtain ⟨c1, H⟩ := H
    obtain ⟨c2, H⟩ := H
    refine A_get (v := .int (h.1 a0 2)) d_Sheet_has_6 (fo_Sheet_19_8 rfl) c1 c2 (by first | rfl | (show Value.int _ = Value.int _; simp [wI, wL, wR, wC, up])) ?_
    refine A_icmp_ge 22 d_Sheet_has_9 (by decide) (fun z => ?_) (fun z => ?_)
    · have H := H.1 z
      refine A_iconst 0 (by decide) d_Sheet_has_22 ?_
      exact A_iret d_Sheet_has_23 rfl rfl H
    · have H := H.2 z
      refine A_iload_n d_Sheet_has_12 rfl ?_
      refine A_bipush 40 (by decide) d_Sheet_has_13 ?_
      refine A_icmp_ge 22 d_Sheet_has_15 (by decide) (fun z => ?_) (fun z => ?_)
      · have H := H.1 z
        refine A_iconst 0 (by decide) d_Sheet_has_22 ?_
        exact A_iret d_Sheet_has_23 rfl rfl H
      · have H := H.2 z
        refine A_iconst 1 (by decide) d_Sheet_has_18 ?_
        refine A_goto 23 d_Sheet_has_19 (by decide) ?_
        exact A_iret d_Sheet_has_23 rfl rfl H
set_option maxRecDepth 20000 in
theorem ok_Sheet_has {G : GG} {d : Nat} {Q : Int32 → AH → Prop} {a0 : Nat} {x1 : Int32} {h : AH} (H : p_Sheet_has Q a0 x1 h) : WP G T1 m_Sheet_has d [.ref a0, .int x1] h 0 0 (iQ Q) := by
  exact WP.enter 0 (by decide) rfl rfl (r_Sheet_has_0 a0 x1 h H)
theorem d_MO_in_0 : decode prog_14_method_3_code 0 = .ok (.iload_n 0, 1) := by decide +kernel
theorem d_MO_in_1 : decode prog_14_method_3_code 1 = .ok (.iload_n 1, 1) := by decide +kernel
theorem d_MO_in_2 : decode prog_14_method_3_code 2 = .ok (.if_icmp .lt 12, 3) := by decide +kernel
theorem d_MO_in_5 : decode prog_14_method_3_code 5 = .ok (.iload_n 0, 1) := by decide +kernel
theorem d_MO_in_6 : decode prog_14_method_3_code 6 = .ok (.iload_n 2, 1) := by decide +kernel
theorem d_MO_in_7 : decode prog_14_method_3_code 7 = .ok (.if_icmp .gt 7, 3) := by decide +kernel
theorem d_MO_in_10 : decode prog_14_method_3_code 10 = .ok (.iconst 1, 1) := by decide +kernel
theorem d_MO_in_11 : decode prog_14_method_3_code 11 = .ok (.goto 4, 3) := by decide +kernel
theorem d_MO_in_14 : decode prog_14_method_3_code 14 = .ok (.iconst 0, 1) := by decide +kernel
theorem d_MO_in_15 : decode prog_14_method_3_code 15 = .ok (.ireturn, 1) := by decide +kernel
def p_MO_in (Q : Int32 → AH → Prop) (x0 : Int32) (x1 : Int32) (x2 : Int32) (h : AH) : Prop := ((x0 < x1 → Q 0 h) ∧ (¬ x0 < x1 → ((x2 < x0 → Q 0 h) ∧ (¬ x2 < x0 → Q 1 h))))
set_option maxRecDepth 20000 in
theorem r_MO_in_0 {G : GG} {d : Nat} {Q : Int32 → AH → Prop} (x0 : Int32) (x1 : Int32) (x2 : Int32) (h : AH) (H : p_MO_in Q x0 x1 x2 h) : Att G T1 m_MO_in d 0 [some (.int x0), some (.int x1), some (.int x2)] [] h 0 0 (iQ Q) := by
  refine A_iload_n d_MO_in_0 rfl ?_
  refine A_iload_n d_MO_in_1 rfl ?_
  refine A_icmp_lt 14 d_MO_in_2 (by decide) (fun z => ?_) (fun z => ?_)
  · have H := H.1 z
    refine A_iconst 0 (by decide) d_MO_in_14 ?_
    exact A_iret d_MO_in_15 rfl rfl H
  · have H := H.2 z
    refine A_iload_n d_MO_in_5 rfl ?_
    refine A_iload_n d_MO_in_6 rfl ?_
    refine A_icmp_gt 14 d_MO_in_7 (by decide) (fun z => ?_) (fun z => ?_)
    · have H := H.1 z
      refine A_iconst 0 (by decide) d_MO_in_14 ?_
      exact A_iret d_MO_in_15 rfl rfl H
    · have H := H.2 z
      refine A_iconst 1 (by decide) d_MO_in_10 ?_
      refine A_goto 15 d_MO_in_11 (by decide) ?_
      exact A_iret d_MO_in_15 rfl rfl H
set_option maxRecDepth 20000 in
theorem ok_MO_in {G : GG} {d : Nat} {Q : Int32 → AH → Prop} {x0 : Int32} {x1 : Int32} {x2 : Int32} {h : AH} (H : p_MO_in Q x0 x1 x2 h) : WP G T1 m_MO_in d [.int x0, .int x1, .int x2] h 0 0 (iQ Q) := by
  exact WP.enter 0 (by decide) rfl rfl (r_MO_in_0 x0 x1 x2 h H)
theorem d_MO_wordFrom_0 : decode prog_14_method_12_code 0 = .ok (.iconst 0, 1) := by decide +kernel
theorem d_MO_wordFrom_1 : decode prog_14_method_12_code 1 = .ok (.istore_n 3, 1) := by decide +kernel
theorem d_MO_wordFrom_2 : decode prog_14_method_12_code 2 = .ok (.iload_n 3, 1) := by decide +kernel
theorem d_MO_wordFrom_3 : decode prog_14_method_12_code 3 = .ok (.bipush 12, 2) := by decide +kernel
theorem d_MO_wordFrom_5 : decode prog_14_method_12_code 5 = .ok (.if_icmp .ge 96, 3) := by decide +kernel
theorem d_MO_wordFrom_8 : decode prog_14_method_12_code 8 = .ok (.iload_n 2, 1) := by decide +kernel
theorem d_MO_wordFrom_9 : decode prog_14_method_12_code 9 = .ok (.iload_n 1, 1) := by decide +kernel
theorem d_MO_wordFrom_10 : decode prog_14_method_12_code 10 = .ok (.isub, 1) := by decide +kernel
theorem d_MO_wordFrom_11 : decode prog_14_method_12_code 11 = .ok (.bipush 8, 2) := by decide +kernel
theorem d_MO_wordFrom_13 : decode prog_14_method_12_code 13 = .ok (.if_icmp .gt 7, 3) := by decide +kernel
theorem d_MO_wordFrom_16 : decode prog_14_method_12_code 16 = .ok (.iconst 1, 1) := by decide +kernel
theorem d_MO_wordFrom_17 : decode prog_14_method_12_code 17 = .ok (.goto 4, 3) := by decide +kernel
theorem d_MO_wordFrom_20 : decode prog_14_method_12_code 20 = .ok (.iconst 0, 1) := by decide +kernel
theorem d_MO_wordFrom_21 : decode prog_14_method_12_code 21 = .ok (.istore 4, 2) := by decide +kernel
theorem d_MO_wordFrom_23 : decode prog_14_method_12_code 23 = .ok (.iconst 0, 1) := by decide +kernel
theorem d_MO_wordFrom_24 : decode prog_14_method_12_code 24 = .ok (.istore 5, 2) := by decide +kernel
theorem d_MO_wordFrom_26 : decode prog_14_method_12_code 26 = .ok (.iload 5, 2) := by decide +kernel
theorem d_MO_wordFrom_28 : decode prog_14_method_12_code 28 = .ok (.bipush 8, 2) := by decide +kernel
theorem d_MO_wordFrom_30 : decode prog_14_method_12_code 30 = .ok (.if_icmp .ge 58, 3) := by decide +kernel
theorem d_MO_wordFrom_33 : decode prog_14_method_12_code 33 = .ok (.iload 4, 2) := by decide +kernel
theorem d_MO_wordFrom_35 : decode prog_14_method_12_code 35 = .ok (.ifCond .eq 53, 3) := by decide +kernel
theorem d_MO_wordFrom_38 : decode prog_14_method_12_code 38 = .ok (.aload_n 0, 1) := by decide +kernel
theorem d_MO_wordFrom_39 : decode prog_14_method_12_code 39 = .ok (.getfield 52, 3) := by decide +kernel
theorem d_MO_wordFrom_42 : decode prog_14_method_12_code 42 = .ok (.bipush 8, 2) := by decide +kernel
theorem d_MO_wordFrom_44 : decode prog_14_method_12_code 44 = .ok (.iload_n 3, 1) := by decide +kernel
theorem d_MO_wordFrom_45 : decode prog_14_method_12_code 45 = .ok (.imul, 1) := by decide +kernel
theorem d_MO_wordFrom_46 : decode prog_14_method_12_code 46 = .ok (.iload 5, 2) := by decide +kernel
theorem d_MO_wordFrom_48 : decode prog_14_method_12_code 48 = .ok (.iadd, 1) := by decide +kernel
theorem d_MO_wordFrom_49 : decode prog_14_method_12_code 49 = .ok (.iaload, 1) := by decide +kernel
theorem d_MO_wordFrom_50 : decode prog_14_method_12_code 50 = .ok (.iload_n 1, 1) := by decide +kernel
theorem d_MO_wordFrom_51 : decode prog_14_method_12_code 51 = .ok (.iload 5, 2) := by decide +kernel
theorem d_MO_wordFrom_53 : decode prog_14_method_12_code 53 = .ok (.iadd, 1) := by decide +kernel
theorem d_MO_wordFrom_54 : decode prog_14_method_12_code 54 = .ok (.iload_n 2, 1) := by decide +kernel
theorem d_MO_wordFrom_55 : decode prog_14_method_12_code 55 = .ok (.if_icmp .ge 15, 3) := by decide +kernel
theorem d_MO_wordFrom_58 : decode prog_14_method_12_code 58 = .ok (.aload_n 0, 1) := by decide +kernel
theorem d_MO_wordFrom_59 : decode prog_14_method_12_code 59 = .ok (.getfield 28, 3) := by decide +kernel
theorem d_MO_wordFrom_62 : decode prog_14_method_12_code 62 = .ok (.iload_n 1, 1) := by decide +kernel
theorem d_MO_wordFrom_63 : decode prog_14_method_12_code 63 = .ok (.iload 5, 2) := by decide +kernel
theorem d_MO_wordFrom_65 : decode prog_14_method_12_code 65 = .ok (.iadd, 1) := by decide +kernel
theorem d_MO_wordFrom_66 : decode prog_14_method_12_code 66 = .ok (.iaload, 1) := by decide +kernel
theorem d_MO_wordFrom_67 : decode prog_14_method_12_code 67 = .ok (.goto 5, 3) := by decide +kernel
theorem d_MO_wordFrom_70 : decode prog_14_method_12_code 70 = .ok (.bipush 32, 2) := by decide +kernel
theorem d_MO_wordFrom_72 : decode prog_14_method_12_code 72 = .ok (.if_icmp .ne 7, 3) := by decide +kernel
theorem d_MO_wordFrom_75 : decode prog_14_method_12_code 75 = .ok (.iconst 1, 1) := by decide +kernel
theorem d_MO_wordFrom_76 : decode prog_14_method_12_code 76 = .ok (.goto 4, 3) := by decide +kernel
theorem d_MO_wordFrom_79 : decode prog_14_method_12_code 79 = .ok (.iconst 0, 1) := by decide +kernel
theorem d_MO_wordFrom_80 : decode prog_14_method_12_code 80 = .ok (.istore 4, 2) := by decide +kernel
theorem d_MO_wordFrom_82 : decode prog_14_method_12_code 82 = .ok (.iinc 5 1, 3) := by decide +kernel
theorem d_MO_wordFrom_85 : decode prog_14_method_12_code 85 = .ok (.goto (-59), 3) := by decide +kernel
theorem d_MO_wordFrom_88 : decode prog_14_method_12_code 88 = .ok (.iload 4, 2) := by decide +kernel
theorem d_MO_wordFrom_90 : decode prog_14_method_12_code 90 = .ok (.ifCond .eq 5, 3) := by decide +kernel
theorem d_MO_wordFrom_93 : decode prog_14_method_12_code 93 = .ok (.iload_n 3, 1) := by decide +kernel
theorem d_MO_wordFrom_94 : decode prog_14_method_12_code 94 = .ok (.ireturn, 1) := by decide +kernel
theorem d_MO_wordFrom_95 : decode prog_14_method_12_code 95 = .ok (.iinc 3 1, 3) := by decide +kernel
theorem d_MO_wordFrom_98 : decode prog_14_method_12_code 98 = .ok (.goto (-96), 3) := by decide +kernel
theorem d_MO_wordFrom_101 : decode prog_14_method_12_code 101 = .ok (.bipush 12, 2) := by decide +kernel
theorem d_MO_wordFrom_103 : decode prog_14_method_12_code 103 = .ok (.ireturn, 1) := by decide +kernel
def p_MO_wordFrom_88 (Q : Int32 → AH → Prop) (K2 : Int32 → Int32 → Int32 → AH → Prop) (x1 : Int32) (x2 : Int32) (x3 : Int32) (x4 : Int32) (h : AH) : Prop := ((x4 = 0 → K2 x1 x2 (x3 + 1) h) ∧ (¬ x4 = 0 → Q x3 h))
def p_MO_wordFrom_80 (Q : Int32 → AH → Prop) (K2 : Int32 → Int32 → Int32 → AH → Prop) (K26 : Int32 → Int32 → Int32 → Int32 → Int32 → AH → Prop) (x1 : Int32) (x2 : Int32) (x3 : Int32) (x5 : Int32) (s0 : Int32) (h : AH) : Prop := K26 x1 x2 x3 s0 (x5 + 1) h
def p_MO_wordFrom_72 (Q : Int32 → AH → Prop) (K2 : Int32 → Int32 → Int32 → AH → Prop) (K26 : Int32 → Int32 → Int32 → Int32 → Int32 → AH → Prop) (x1 : Int32) (x2 : Int32) (x3 : Int32) (x5 : Int32) (s0 : Int32) (s1 : Int32) (h : AH) : Prop := ((¬ s0 = s1 → p_MO_wordFrom_80 Q  K2 K26 x1 x2 x3 x5 0 h) ∧ (s0 = s1 → p_MO_wordFrom_80 Q  K2 K26 x1 x2 x3 x5 1 h))
def p_MO_wordFrom_26 (Q : Int32 → AH → Prop) (K2 : Int32 → Int32 → Int32 → AH → Prop) : Nat → Int32 → Int32 → Int32 → Int32 → Int32 → AH → Prop
  | 0 => fun _ _ _ _ _ _ => False
  | n + 1 => fun x1 x2 x3 x4 x5 h => let K26 := p_MO_wordFrom_26 Q K2 n; ((8 ≤ x5 → p_MO_wordFrom_88 Q  K2 x1 x2 x3 x4 h) ∧ (¬ 8 ≤ x5 → ((x4 = 0 → p_MO_wordFrom_88 Q  K2 x1 x2 x3 x4 h) ∧ (¬ x4 = 0 → inb ((8 * x3) + x5) 96 ∧ ((x2 ≤ (x1 + x5) → p_MO_wordFrom_72 Q  K2 K26 x1 x2 x3 x5 (h.1 74 ((8 * x3) + x5)) 32 h) ∧ (¬ x2 ≤ (x1 + x5) → inb (x1 + x5) 160 ∧ p_MO_wordFrom_72 Q  K2 K26 x1 x2 x3 x5 (h.1 74 ((8 * x3) + x5)) (h.1 66 (x1 + x5)) h))))))
def p_MO_wordFrom_21 (Q : Int32 → AH → Prop) (K2 : Int32 → Int32 → Int32 → AH → Prop) (x1 : Int32) (x2 : Int32) (x3 : Int32) (s0 : Int32) (h : AH) : Prop := ∃ n, p_MO_wordFrom_26 Q  K2 n x1 x2 x3 s0 0 h
def p_MO_wordFrom_2 (Q : Int32 → AH → Prop) : Nat → Int32 → Int32 → Int32 → AH → Prop
  | 0 => fun _ _ _ _ => False
  | n + 1 => fun x1 x2 x3 h => let K2 := p_MO_wordFrom_2 Q n; ((12 ≤ x3 → Q 12 h) ∧ (¬ 12 ≤ x3 → ((8 < (x2 - x1) → p_MO_wordFrom_21 Q  K2 x1 x2 x3 0 h) ∧ (¬ 8 < (x2 - x1) → p_MO_wordFrom_21 Q  K2 x1 x2 x3 1 h))))
def p_MO_wordFrom (Q : Int32 → AH → Prop) (x1 : Int32) (x2 : Int32) (h : AH) : Prop := ∃ n, p_MO_wordFrom_2 Q   n x1 x2 0 h
set_option maxRecDepth 20000 in
theorem r_MO_wordFrom_88 {G : GG} {d : Nat} {Q : Int32 → AH → Prop} {K2 : Int32 → Int32 → Int32 → AH → Prop} (k2 : ∀ x1 x2 x3 h, K2 x1 x2 x3 h → Att G T1 m_MO_wordFrom d 2 [some (.ref 59), some (.int x1), some (.int x2), some (.int x3), none, none] [] h 0 0 (iQ Q)) (x1 : Int32) (x2 : Int32) (x3 : Int32) (x4 : Int32) (h : AH) (H : p_MO_wordFrom_88 Q K2 x1 x2 x3 x4 h) : Att G T1 m_MO_wordFrom d 88 [some (.ref 59), some (.int x1), some (.int x2), some (.int x3), some (.int x4), none] [] h 0 0 (iQ Q) := by
  refine A_iload d_MO_wordFrom_88 rfl ?_
  refine A_if_eq 95 d_MO_wordFrom_90 (by decide) (fun z => ?_) (fun z => ?_)
  · have H := H.1 z
    refine A_iinc 1 [some (.ref 59), some (.int x1), some (.int x2), some (.int (x3 + 1)), some (.int x4), none] d_MO_wordFrom_95 rfl (by decide) (by decide) rfl rfl ?_
    refine A_goto 2 d_MO_wordFrom_98 (by decide) ?_
    refine A_sub (L' := [some (.ref 59), some (.int x1), some (.int x2), some (.int (x3 + 1)), none, none]) ⟨rfl, rfl, rfl, rfl, trivial⟩ ?_
    exact k2 _ _ _ _ H
  · have H := H.2 z
    refine A_iload_n d_MO_wordFrom_93 rfl ?_
    exact A_iret d_MO_wordFrom_94 rfl rfl H
set_option maxRecDepth 20000 in
theorem r_MO_wordFrom_80 {G : GG} {d : Nat} {Q : Int32 → AH → Prop} {K2 : Int32 → Int32 → Int32 → AH → Prop} {K26 : Int32 → Int32 → Int32 → Int32 → Int32 → AH → Prop} (k2 : ∀ x1 x2 x3 h, K2 x1 x2 x3 h → Att G T1 m_MO_wordFrom d 2 [some (.ref 59), some (.int x1), some (.int x2), some (.int x3), none, none] [] h 0 0 (iQ Q)) (k26 : ∀ x1 x2 x3 x4 x5 h, K26 x1 x2 x3 x4 x5 h → Att G T1 m_MO_wordFrom d 26 [some (.ref 59), some (.int x1), some (.int x2), some (.int x3), some (.int x4), some (.int x5)] [] h 0 0 (iQ Q)) (x1 : Int32) (x2 : Int32) (x3 : Int32) (x5 : Int32) (s0 : Int32) (h : AH) (H : p_MO_wordFrom_80 Q K2 K26 x1 x2 x3 x5 s0 h) : Att G T1 m_MO_wordFrom d 80 [some (.ref 59), some (.int x1), some (.int x2), some (.int x3), none, some (.int x5)] [.int s0] h 0 0 (iQ Q) := by
  refine A_istore [some (.ref 59), some (.int x1), some (.int x2), some (.int x3), some (.int s0), some (.int x5)] d_MO_wordFrom_80 (by decide) rfl rfl ?_
  refine A_iinc 1 [some (.ref 59), some (.int x1), some (.int x2), some (.int x3), some (.int s0), some (.int (x5 + 1))] d_MO_wordFrom_82 rfl (by decide) (by decide) rfl rfl ?_
  refine A_goto 26 d_MO_wordFrom_85 (by decide) ?_
  exact k26 _ _ _ _ _ _ H
set_option maxRecDepth 20000 in
theorem r_MO_wordFrom_72 {G : GG} {d : Nat} {Q : Int32 → AH → Prop} {K2 : Int32 → Int32 → Int32 → AH → Prop} {K26 : Int32 → Int32 → Int32 → Int32 → Int32 → AH → Prop} (k2 : ∀ x1 x2 x3 h, K2 x1 x2 x3 h → Att G T1 m_MO_wordFrom d 2 [some (.ref 59), some (.int x1), some (.int x2), some (.int x3), none, none] [] h 0 0 (iQ Q)) (k26 : ∀ x1 x2 x3 x4 x5 h, K26 x1 x2 x3 x4 x5 h → Att G T1 m_MO_wordFrom d 26 [some (.ref 59), some (.int x1), some (.int x2), some (.int x3), some (.int x4), some (.int x5)] [] h 0 0 (iQ Q)) (x1 : Int32) (x2 : Int32) (x3 : Int32) (x5 : Int32) (s0 : Int32) (s1 : Int32) (h : AH) (H : p_MO_wordFrom_72 Q K2 K26 x1 x2 x3 x5 s0 s1 h) : Att G T1 m_MO_wordFrom d 72 [some (.ref 59), some (.int x1), some (.int x2), some (.int x3), none, some (.int x5)] [.int s1, .int s0] h 0 0 (iQ Q) := by
  refine A_icmp_ne 79 d_MO_wordFrom_72 (by decide) (fun z => ?_) (fun z => ?_)
  · have H := H.1 z
    refine A_iconst 0 (by decide) d_MO_wordFrom_79 ?_
    exact r_MO_wordFrom_80  k2 k26 _ _ _ _ _ _ H
  · have H := H.2 z
    refine A_iconst 1 (by decide) d_MO_wordFrom_75 ?_
    refine A_goto 80 d_MO_wordFrom_76 (by decide) ?_
    exact r_MO_wordFrom_80  k2 k26 _ _ _ _ _ _ H
set_option maxRecDepth 20000 in
theorem r_MO_wordFrom_26 {G : GG} {d : Nat} {Q : Int32 → AH → Prop} {K2 : Int32 → Int32 → Int32 → AH → Prop} (k2 : ∀ x1 x2 x3 h, K2 x1 x2 x3 h → Att G T1 m_MO_wordFrom d 2 [some (.ref 59), some (.int x1), some (.int x2), some (.int x3), none, none] [] h 0 0 (iQ Q)) : ∀ (n : Nat) (x1 : Int32) (x2 : Int32) (x3 : Int32) (x4 : Int32) (x5 : Int32) (h : AH), p_MO_wordFrom_26 Q K2 n x1 x2 x3 x4 x5 h → Att G T1 m_MO_wordFrom d 26 [some (.ref 59), some (.int x1), some (.int x2), some (.int x3), some (.int x4), some (.int x5)] [] h 0 0 (iQ Q) := by
  intro n
  induction n with
  | zero => intro x1 x2 x3 x4 x5 h H; exact H.elim
  | succ n k26 =>
    intro x1 x2 x3 x4 x5 h H
    refine A_iload d_MO_wordFrom_26 rfl ?_
    refine A_bipush 8 (by decide) d_MO_wordFrom_28 ?_
    refine A_icmp_ge 88 d_MO_wordFrom_30 (by decide) (fun z => ?_) (fun z => ?_)
    · have H := H.1 z
      refine A_sub (L' := [some (.ref 59), some (.int x1), some (.int x2), some (.int x3), some (.int x4), none]) ⟨rfl, rfl, rfl, rfl, rfl, trivial⟩ ?_
      exact r_MO_wordFrom_88  k2 _ _ _ _ _ H
    · have H := H.2 z
      refine A_iload d_MO_wordFrom_33 rfl ?_
      refine A_if_eq 88 d_MO_wordFrom_35 (by decide) (fun z => ?_) (fun z => ?_)
      · have H := H.1 z
        refine A_sub (L' := [some (.ref 59), some (.int x1), some (.int x2), some (.int x3), some (.int x4), none]) ⟨rfl, rfl, rfl, rfl, rfl, trivial⟩ ?_
        exact r_MO_wordFrom_88  k2 _ _ _ _ _ H
      · have H := H.2 z
        refine A_aload_n d_MO_wordFrom_38 rfl ?_
        refine A_get (v := .ref 74) d_MO_wordFrom_39 (fo_MO_52_12 rfl) (vA_s (by decide)) rfl (by first | rfl | (show Value.int _ = Value.int _; simp [wI, wL, wR, wC, up])) ?_
        refine A_bipush 8 (by decide) d_MO_wordFrom_42 ?_
        refine A_iload_n d_MO_wordFrom_44 rfl ?_
        refine A_imul d_MO_wordFrom_45 ?_
        refine A_iload d_MO_wordFrom_46 rfl ?_
        refine A_iadd d_MO_wordFrom_48 ?_
        obtain ⟨c1, H⟩ := H
        refine A_ialdv (n := 96) (v := (h.1 74 ((8 * x3) + x5))) d_MO_wordFrom_49 (vA_s (by decide)) rfl c1 rfl ?_
        refine A_iload_n d_MO_wordFrom_50 rfl ?_
        refine A_iload d_MO_wordFrom_51 rfl ?_
        refine A_iadd d_MO_wordFrom_53 ?_
        refine A_iload_n d_MO_wordFrom_54 rfl ?_
        refine A_icmp_ge 70 d_MO_wordFrom_55 (by decide) (fun z => ?_) (fun z => ?_)
        · have H := H.1 z
          refine A_bipush 32 (by decide) d_MO_wordFrom_70 ?_
          refine A_sub (L' := [some (.ref 59), some (.int x1), some (.int x2), some (.int x3), none, some (.int x5)]) ⟨rfl, rfl, rfl, rfl, rfl, trivial⟩ ?_
          exact r_MO_wordFrom_72  k2 k26 _ _ _ _ _ _ _ H
        · have H := H.2 z
          refine A_aload_n d_MO_wordFrom_58 rfl ?_
          refine A_get (v := .ref 66) d_MO_wordFrom_59 (fo_MO_28_12 rfl) (vA_s (by decide)) rfl (by first | rfl | (show Value.int _ = Value.int _; simp [wI, wL, wR, wC, up])) ?_
          refine A_iload_n d_MO_wordFrom_62 rfl ?_
          refine A_iload d_MO_wordFrom_63 rfl ?_
          refine A_iadd d_MO_wordFrom_65 ?_
          obtain ⟨c2, H⟩ := H
          refine A_ialdv (n := 160) (v := (h.1 66 (x1 + x5))) d_MO_wordFrom_66 (vA_s (by decide)) rfl c2 rfl ?_
          refine A_goto 72 d_MO_wordFrom_67 (by decide) ?_
          refine A_sub (L' := [some (.ref 59), some (.int x1), some (.int x2), some (.int x3), none, some (.int x5)]) ⟨rfl, rfl, rfl, rfl, rfl, trivial⟩ ?_
          exact r_MO_wordFrom_72  k2 k26 _ _ _ _ _ _ _ H
set_option maxRecDepth 20000 in
theorem r_MO_wordFrom_21 {G : GG} {d : Nat} {Q : Int32 → AH → Prop} {K2 : Int32 → Int32 → Int32 → AH → Prop} (k2 : ∀ x1 x2 x3 h, K2 x1 x2 x3 h → Att G T1 m_MO_wordFrom d 2 [some (.ref 59), some (.int x1), some (.int x2), some (.int x3), none, none] [] h 0 0 (iQ Q)) (x1 : Int32) (x2 : Int32) (x3 : Int32) (s0 : Int32) (h : AH) (H : p_MO_wordFrom_21 Q K2 x1 x2 x3 s0 h) : Att G T1 m_MO_wordFrom d 21 [some (.ref 59), some (.int x1), some (.int x2), some (.int x3), none, none] [.int s0] h 0 0 (iQ Q) := by
  refine A_istore [some (.ref 59), some (.int x1), some (.int x2), some (.int x3), some (.int s0), none] d_MO_wordFrom_21 (by decide) rfl rfl ?_
  refine A_iconst 0 (by decide) d_MO_wordFrom_23 ?_
  refine A_istore [some (.ref 59), some (.int x1), some (.int x2), some (.int x3), some (.int s0), some (.int 0)] d_MO_wordFrom_24 (by decide) rfl rfl ?_
  obtain ⟨n9, H⟩ := H
  exact r_MO_wordFrom_26  k2 n9 _ _ _ _ _ _ H
set_option maxRecDepth 20000 in
theorem r_MO_wordFrom_2 {G : GG} {d : Nat} {Q : Int32 → AH → Prop} : ∀ (n : Nat) (x1 : Int32) (x2 : Int32) (x3 : Int32) (h : AH), p_MO_wordFrom_2 Q n x1 x2 x3 h → Att G T1 m_MO_wordFrom d 2 [some (.ref 59), some (.int x1), some (.int x2), some (.int x3), none, none] [] h 0 0 (iQ Q) := by
  intro n
  induction n with
  | zero => intro x1 x2 x3 h H; exact H.elim
  | succ n k2 =>
    intro x1 x2 x3 h H
    refine A_iload_n d_MO_wordFrom_2 rfl ?_
    refine A_bipush 12 (by decide) d_MO_wordFrom_3 ?_
    refine A_icmp_ge 101 d_MO_wordFrom_5 (by decide) (fun z => ?_) (fun z => ?_)
    · have H := H.1 z
      refine A_bipush 12 (by decide) d_MO_wordFrom_101 ?_
      exact A_iret d_MO_wordFrom_103 rfl rfl H
    · have H := H.2 z
      refine A_iload_n d_MO_wordFrom_8 rfl ?_
      refine A_iload_n d_MO_wordFrom_9 rfl ?_
      refine A_isub d_MO_wordFrom_10 ?_
      refine A_bipush 8 (by decide) d_MO_wordFrom_11 ?_
      refine A_icmp_gt 20 d_MO_wordFrom_13 (by decide) (fun z => ?_) (fun z => ?_)
      · have H := H.1 z
        refine A_iconst 0 (by decide) d_MO_wordFrom_20 ?_
        exact r_MO_wordFrom_21  k2 _ _ _ _ _ H
      · have H := H.2 z
        refine A_iconst 1 (by decide) d_MO_wordFrom_16 ?_
        refine A_goto 21 d_MO_wordFrom_17 (by decide) ?_
        exact r_MO_wordFrom_21  k2 _ _ _ _ _ H
set_option maxRecDepth 20000 in
theorem r_MO_wordFrom_0 {G : GG} {d : Nat} {Q : Int32 → AH → Prop} (x1 : Int32) (x2 : Int32) (h : AH) (H : p_MO_wordFrom Q x1 x2 h) : Att G T1 m_MO_wordFrom d 0 [some (.ref 59), some (.int x1), some (.int x2), none, none, none] [] h 0 0 (iQ Q) := by
  refine A_iconst 0 (by decide) d_MO_wordFrom_0 ?_
  refine A_istore_n [some (.ref 59), some (.int x1), some (.int x2), some (.int 0), none, none] d_MO_wordFrom_1 (by decide) rfl rfl ?_
  obtain ⟨n9, H⟩ := H
  exact r_MO_wordFrom_2   n9 _ _ _ _ H
set_option maxRecDepth 20000 in
theorem ok_MO_wordFrom {G : GG} {d : Nat} {Q : Int32 → AH → Prop} {x1 : Int32} {x2 : Int32} {h : AH} (H : p_MO_wordFrom Q x1 x2 h) : WP G T1 m_MO_wordFrom d [.ref 59, .int x1, .int x2] h 0 0 (iQ Q) := by
  exact WP.enter 3 (by decide) rfl rfl (r_MO_wordFrom_0 x1 x2 h H)
theorem d_MO_puts_0 : decode prog_14_method_15_code 0 = .ok (.aload_n 0, 1) := by decide +kernel
theorem d_MO_puts_1 : decode prog_14_method_15_code 1 = .ok (.getfield 31, 3) := by decide +kernel
theorem d_MO_puts_4 : decode prog_14_method_15_code 4 = .ok (.sipush 200, 3) := by decide +kernel
theorem d_MO_puts_7 : decode prog_14_method_15_code 7 = .ok (.aload_n 0, 1) := by decide +kernel
theorem d_MO_puts_8 : decode prog_14_method_15_code 8 = .ok (.getfield 107, 3) := by decide +kernel
theorem d_MO_puts_11 : decode prog_14_method_15_code 11 = .ok (.imul, 1) := by decide +kernel
theorem d_MO_puts_12 : decode prog_14_method_15_code 12 = .ok (.aload_n 0, 1) := by decide +kernel
theorem d_MO_puts_13 : decode prog_14_method_15_code 13 = .ok (.getfield 132, 3) := by decide +kernel
theorem d_MO_puts_16 : decode prog_14_method_15_code 16 = .ok (.iadd, 1) := by decide +kernel
theorem d_MO_puts_17 : decode prog_14_method_15_code 17 = .ok (.iload_n 1, 1) := by decide +kernel
theorem d_MO_puts_18 : decode prog_14_method_15_code 18 = .ok (.iastore, 1) := by decide +kernel
theorem d_MO_puts_19 : decode prog_14_method_15_code 19 = .ok (.aload_n 0, 1) := by decide +kernel
theorem d_MO_puts_20 : decode prog_14_method_15_code 20 = .ok (.dup, 1) := by decide +kernel
theorem d_MO_puts_21 : decode prog_14_method_15_code 21 = .ok (.getfield 132, 3) := by decide +kernel
theorem d_MO_puts_24 : decode prog_14_method_15_code 24 = .ok (.iconst 1, 1) := by decide +kernel
theorem d_MO_puts_25 : decode prog_14_method_15_code 25 = .ok (.iadd, 1) := by decide +kernel
theorem d_MO_puts_26 : decode prog_14_method_15_code 26 = .ok (.putfield 132, 3) := by decide +kernel
theorem d_MO_puts_29 : decode prog_14_method_15_code 29 = .ok (.return_, 1) := by decide +kernel
def p_MO_puts (Q : AH → Prop) (x1 : Int32) (h : AH) : Prop := inb ((200 * (h.1 59 11)) + (h.1 59 29)) 1200 ∧ Q (wI (wI h 67 ((200 * (h.1 59 11)) + (h.1 59 29)) x1) 59 29 ((h.1 59 29) + 1))
set_option maxRecDepth 20000 in
theorem r_MO_puts_0 {G : GG} {d : Nat} {Q : AH → Prop} (x1 : Int32) (h : AH) (H : p_MO_puts Q x1 h) : Att G T1 m_MO_puts d 0 [some (.ref 59), some (.int x1)] [] h 0 0 (vQ Q) := by
  refine A_aload_n d_MO_puts_0 rfl ?_
  refine A_get (v := .ref 67) d_MO_puts_1 (fo_MO_31_12 rfl) (vA_s (by decide)) rfl (by first | rfl | (show Value.int _ = Value.int _; simp [wI, wL, wR, wC, up])) ?_
  refine A_sipush 200 (by decide) d_MO_puts_4 ?_
  refine A_aload_n d_MO_puts_7 rfl ?_
  refine A_get (v := .int (h.1 59 11)) d_MO_puts_8 (fo_MO_107_12 rfl) (vA_s (by decide)) rfl (by first | rfl | (show Value.int _ = Value.int _; simp [wI, wL, wR, wC, up])) ?_
  refine A_imul d_MO_puts_11 ?_
  refine A_aload_n d_MO_puts_12 rfl ?_
  refine A_get (v := .int (h.1 59 29)) d_MO_puts_13 (fo_MO_132_12 rfl) (vA_s (by decide)) rfl (by first | rfl | (show Value.int _ = Value.int _; simp [wI, wL, wR, wC, up])) ?_
  refine A_iadd d_MO_puts_16 ?_
  refine A_iload_n d_MO_puts_17 rfl ?_
  obtain ⟨c1, H⟩ := H
  refine A_iast (n := 1200) d_MO_puts_18 (vA_s (by decide)) rfl c1 ?_
  refine A_aload_n d_MO_puts_19 rfl ?_
  refine A_dup rfl d_MO_puts_20 ?_
  refine A_get (v := .int (h.1 59 29)) d_MO_puts_21 (fo_MO_132_12 rfl) (vA_s (by decide)) rfl (by first | rfl | (show Value.int _ = Value.int _; simp [wI, wL, wR, wC, up])) ?_
  refine A_iconst 1 (by decide) d_MO_puts_24 ?_
  refine A_iadd d_MO_puts_25 ?_
  refine A_putI (k := 29) d_MO_puts_26 (fo_MO_132_12 rfl) (Or.inr ⟨rfl, _, ft_12_29⟩) (fun z => by cases z) rfl (vA_s (by decide)) rfl rfl rfl ?_
  exact A_ret d_MO_puts_29 rfl H
set_option maxRecDepth 20000 in
theorem ok_MO_puts {G : GG} {d : Nat} {Q : AH → Prop} {x1 : Int32} {h : AH} (H : p_MO_puts Q x1 h) : WP G T1 m_MO_puts d [.ref 59, .int x1] h 0 0 (vQ Q) := by
  exact WP.enter 0 (by decide) rfl rfl (r_MO_puts_0 x1 h H)
theorem d_MO_rank_0 : decode prog_14_method_14_code 0 = .ok (.iload_n 0, 1) := by decide +kernel
theorem d_MO_rank_1 : decode prog_14_method_14_code 1 = .ok (.ifCond .ne 7, 3) := by decide +kernel
theorem d_MO_rank_4 : decode prog_14_method_14_code 4 = .ok (.iconst 0, 1) := by decide +kernel
theorem d_MO_rank_5 : decode prog_14_method_14_code 5 = .ok (.goto 66, 3) := by decide +kernel
theorem d_MO_rank_8 : decode prog_14_method_14_code 8 = .ok (.iload_n 0, 1) := by decide +kernel
theorem d_MO_rank_9 : decode prog_14_method_14_code 9 = .ok (.bipush 11, 2) := by decide +kernel
theorem d_MO_rank_11 : decode prog_14_method_14_code 11 = .ok (.if_icmp .ne 7, 3) := by decide +kernel
theorem d_MO_rank_14 : decode prog_14_method_14_code 14 = .ok (.iconst 1, 1) := by decide +kernel
theorem d_MO_rank_15 : decode prog_14_method_14_code 15 = .ok (.goto 56, 3) := by decide +kernel
theorem d_MO_rank_18 : decode prog_14_method_14_code 18 = .ok (.iload_n 0, 1) := by decide +kernel
theorem d_MO_rank_19 : decode prog_14_method_14_code 19 = .ok (.bipush 12, 2) := by decide +kernel
theorem d_MO_rank_21 : decode prog_14_method_14_code 21 = .ok (.if_icmp .ne 7, 3) := by decide +kernel
theorem d_MO_rank_24 : decode prog_14_method_14_code 24 = .ok (.iconst 2, 1) := by decide +kernel
theorem d_MO_rank_25 : decode prog_14_method_14_code 25 = .ok (.goto 46, 3) := by decide +kernel
theorem d_MO_rank_28 : decode prog_14_method_14_code 28 = .ok (.iload_n 0, 1) := by decide +kernel
theorem d_MO_rank_29 : decode prog_14_method_14_code 29 = .ok (.bipush 13, 2) := by decide +kernel
theorem d_MO_rank_31 : decode prog_14_method_14_code 31 = .ok (.if_icmp .ne 7, 3) := by decide +kernel
theorem d_MO_rank_34 : decode prog_14_method_14_code 34 = .ok (.iconst 3, 1) := by decide +kernel
theorem d_MO_rank_35 : decode prog_14_method_14_code 35 = .ok (.goto 36, 3) := by decide +kernel
theorem d_MO_rank_38 : decode prog_14_method_14_code 38 = .ok (.iload_n 0, 1) := by decide +kernel
theorem d_MO_rank_39 : decode prog_14_method_14_code 39 = .ok (.bipush 15, 2) := by decide +kernel
theorem d_MO_rank_41 : decode prog_14_method_14_code 41 = .ok (.if_icmp .gt 7, 3) := by decide +kernel
theorem d_MO_rank_44 : decode prog_14_method_14_code 44 = .ok (.iconst 4, 1) := by decide +kernel
theorem d_MO_rank_45 : decode prog_14_method_14_code 45 = .ok (.goto 26, 3) := by decide +kernel
theorem d_MO_rank_48 : decode prog_14_method_14_code 48 = .ok (.iload_n 0, 1) := by decide +kernel
theorem d_MO_rank_49 : decode prog_14_method_14_code 49 = .ok (.bipush 17, 2) := by decide +kernel
theorem d_MO_rank_51 : decode prog_14_method_14_code 51 = .ok (.if_icmp .gt 7, 3) := by decide +kernel
theorem d_MO_rank_54 : decode prog_14_method_14_code 54 = .ok (.iconst 5, 1) := by decide +kernel
theorem d_MO_rank_55 : decode prog_14_method_14_code 55 = .ok (.goto 16, 3) := by decide +kernel
theorem d_MO_rank_58 : decode prog_14_method_14_code 58 = .ok (.iload_n 0, 1) := by decide +kernel
theorem d_MO_rank_59 : decode prog_14_method_14_code 59 = .ok (.bipush 18, 2) := by decide +kernel
theorem d_MO_rank_61 : decode prog_14_method_14_code 61 = .ok (.if_icmp .ne 8, 3) := by decide +kernel
theorem d_MO_rank_64 : decode prog_14_method_14_code 64 = .ok (.bipush 6, 2) := by decide +kernel
theorem d_MO_rank_66 : decode prog_14_method_14_code 66 = .ok (.goto 5, 3) := by decide +kernel
theorem d_MO_rank_69 : decode prog_14_method_14_code 69 = .ok (.bipush 7, 2) := by decide +kernel
theorem d_MO_rank_71 : decode prog_14_method_14_code 71 = .ok (.ireturn, 1) := by decide +kernel
def p_MO_rank (Q : Int32 → AH → Prop) (x0 : Int32) (h : AH) : Prop := ((¬ x0 = 0 → ((¬ x0 = 11 → ((¬ x0 = 12 → ((¬ x0 = 13 → ((15 < x0 → ((17 < x0 → ((¬ x0 = 18 → Q 7 h) ∧ (x0 = 18 → Q 6 h))) ∧ (¬ 17 < x0 → Q 5 h))) ∧ (¬ 15 < x0 → Q 4 h))) ∧ (x0 = 13 → Q 3 h))) ∧ (x0 = 12 → Q 2 h))) ∧ (x0 = 11 → Q 1 h))) ∧ (x0 = 0 → Q 0 h))
set_option maxRecDepth 20000 in
theorem r_MO_rank_0 {G : GG} {d : Nat} {Q : Int32 → AH → Prop} (x0 : Int32) (h : AH) (H : p_MO_rank Q x0 h) : Att G T1 m_MO_rank d 0 [some (.int x0)] [] h 0 0 (iQ Q) := by
  refine A_iload_n d_MO_rank_0 rfl ?_
  refine A_if_ne 8 d_MO_rank_1 (by decide) (fun z => ?_) (fun z => ?_)
  · have H := H.1 z
    refine A_iload_n d_MO_rank_8 rfl ?_
    refine A_bipush 11 (by decide) d_MO_rank_9 ?_
    refine A_icmp_ne 18 d_MO_rank_11 (by decide) (fun z => ?_) (fun z => ?_)
    · have H := H.1 z
      refine A_iload_n d_MO_rank_18 rfl ?_
      refine A_bipush 12 (by decide) d_MO_rank_19 ?_
      refine A_icmp_ne 28 d_MO_rank_21 (by decide) (fun z => ?_) (fun z => ?_)
      · have H := H.1 z
        refine A_iload_n d_MO_rank_28 rfl ?_
        refine A_bipush 13 (by decide) d_MO_rank_29 ?_
        refine A_icmp_ne 38 d_MO_rank_31 (by decide) (fun z => ?_) (fun z => ?_)
        · have H := H.1 z
          refine A_iload_n d_MO_rank_38 rfl ?_
          refine A_bipush 15 (by decide) d_MO_rank_39 ?_
          refine A_icmp_gt 48 d_MO_rank_41 (by decide) (fun z => ?_) (fun z => ?_)
          · have H := H.1 z
            refine A_iload_n d_MO_rank_48 rfl ?_
            refine A_bipush 17 (by decide) d_MO_rank_49 ?_
            refine A_icmp_gt 58 d_MO_rank_51 (by decide) (fun z => ?_) (fun z => ?_)
            · have H := H.1 z
              refine A_iload_n d_MO_rank_58 rfl ?_
              refine A_bipush 18 (by decide) d_MO_rank_59 ?_
              refine A_icmp_ne 69 d_MO_rank_61 (by decide) (fun z => ?_) (fun z => ?_)
              · have H := H.1 z
                refine A_bipush 7 (by decide) d_MO_rank_69 ?_
                exact A_iret d_MO_rank_71 rfl rfl H
              · have H := H.2 z
                refine A_bipush 6 (by decide) d_MO_rank_64 ?_
                refine A_goto 71 d_MO_rank_66 (by decide) ?_
                exact A_iret d_MO_rank_71 rfl rfl H
            · have H := H.2 z
              refine A_iconst 5 (by decide) d_MO_rank_54 ?_
              refine A_goto 71 d_MO_rank_55 (by decide) ?_
              exact A_iret d_MO_rank_71 rfl rfl H
          · have H := H.2 z
            refine A_iconst 4 (by decide) d_MO_rank_44 ?_
            refine A_goto 71 d_MO_rank_45 (by decide) ?_
            exact A_iret d_MO_rank_71 rfl rfl H
        · have H := H.2 z
          refine A_iconst 3 (by decide) d_MO_rank_34 ?_
          refine A_goto 71 d_MO_rank_35 (by decide) ?_
          exact A_iret d_MO_rank_71 rfl rfl H
      · have H := H.2 z
        refine A_iconst 2 (by decide) d_MO_rank_24 ?_
        refine A_goto 71 d_MO_rank_25 (by decide) ?_
        exact A_iret d_MO_rank_71 rfl rfl H
    · have H := H.2 z
      refine A_iconst 1 (by decide) d_MO_rank_14 ?_
      refine A_goto 71 d_MO_rank_15 (by decide) ?_
      exact A_iret d_MO_rank_71 rfl rfl H
  · have H := H.2 z
    refine A_iconst 0 (by decide) d_MO_rank_4 ?_
    refine A_goto 71 d_MO_rank_5 (by decide) ?_
    exact A_iret d_MO_rank_71 rfl rfl H
set_option maxRecDepth 20000 in
theorem ok_MO_rank {G : GG} {d : Nat} {Q : Int32 → AH → Prop} {x0 : Int32} {h : AH} (H : p_MO_rank Q x0 h) : WP G T1 m_MO_rank d [.int x0] h 0 0 (iQ Q) := by
  exact WP.enter 0 (by decide) rfl rfl (r_MO_rank_0 x0 h H)
theorem d_MO_holds_0 : decode prog_14_method_17_code 0 = .ok (.aload_n 0, 1) := by decide +kernel
theorem d_MO_holds_1 : decode prog_14_method_17_code 1 = .ok (.getfield 55, 3) := by decide +kernel
theorem d_MO_holds_4 : decode prog_14_method_17_code 4 = .ok (.aload_n 0, 1) := by decide +kernel
theorem d_MO_holds_5 : decode prog_14_method_17_code 5 = .ok (.getfield 135, 3) := by decide +kernel
theorem d_MO_holds_8 : decode prog_14_method_17_code 8 = .ok (.iload_n 1, 1) := by decide +kernel
theorem d_MO_holds_9 : decode prog_14_method_17_code 9 = .ok (.iastore, 1) := by decide +kernel
theorem d_MO_holds_10 : decode prog_14_method_17_code 10 = .ok (.aload_n 0, 1) := by decide +kernel
theorem d_MO_holds_11 : decode prog_14_method_17_code 11 = .ok (.dup, 1) := by decide +kernel
theorem d_MO_holds_12 : decode prog_14_method_17_code 12 = .ok (.getfield 135, 3) := by decide +kernel
theorem d_MO_holds_15 : decode prog_14_method_17_code 15 = .ok (.iconst 1, 1) := by decide +kernel
theorem d_MO_holds_16 : decode prog_14_method_17_code 16 = .ok (.iadd, 1) := by decide +kernel
theorem d_MO_holds_17 : decode prog_14_method_17_code 17 = .ok (.putfield 135, 3) := by decide +kernel
theorem d_MO_holds_20 : decode prog_14_method_17_code 20 = .ok (.return_, 1) := by decide +kernel
def p_MO_holds (Q : AH → Prop) (x1 : Int32) (h : AH) : Prop := inb (h.1 59 27) 200 ∧ Q (wI (wI h 75 (h.1 59 27) x1) 59 27 ((h.1 59 27) + 1))
set_option maxRecDepth 20000 in
theorem r_MO_holds_0 {G : GG} {d : Nat} {Q : AH → Prop} (x1 : Int32) (h : AH) (H : p_MO_holds Q x1 h) : Att G T1 m_MO_holds d 0 [some (.ref 59), some (.int x1)] [] h 0 0 (vQ Q) := by
  refine A_aload_n d_MO_holds_0 rfl ?_
  refine A_get (v := .ref 75) d_MO_holds_1 (fo_MO_55_12 rfl) (vA_s (by decide)) rfl (by first | rfl | (show Value.int _ = Value.int _; simp [wI, wL, wR, wC, up])) ?_
  refine A_aload_n d_MO_holds_4 rfl ?_
  refine A_get (v := .int (h.1 59 27)) d_MO_holds_5 (fo_MO_135_12 rfl) (vA_s (by decide)) rfl (by first | rfl | (show Value.int _ = Value.int _; simp [wI, wL, wR, wC, up])) ?_
  refine A_iload_n d_MO_holds_8 rfl ?_
  obtain ⟨c1, H⟩ := H
  refine A_iast (n := 200) d_MO_holds_9 (vA_s (by decide)) rfl c1 ?_
  refine A_aload_n d_MO_holds_10 rfl ?_
  refine A_dup rfl d_MO_holds_11 ?_
  refine A_get (v := .int (h.1 59 27)) d_MO_holds_12 (fo_MO_135_12 rfl) (vA_s (by decide)) rfl (by first | rfl | (show Value.int _ = Value.int _; simp [wI, wL, wR, wC, up])) ?_
  refine A_iconst 1 (by decide) d_MO_holds_15 ?_
  refine A_iadd d_MO_holds_16 ?_
  refine A_putI (k := 27) d_MO_holds_17 (fo_MO_135_12 rfl) (Or.inr ⟨rfl, _, ft_12_27⟩) (fun z => by cases z) rfl (vA_s (by decide)) rfl rfl rfl ?_
  exact A_ret d_MO_holds_20 rfl H
set_option maxRecDepth 20000 in
theorem ok_MO_holds {G : GG} {d : Nat} {Q : AH → Prop} {x1 : Int32} {h : AH} (H : p_MO_holds Q x1 h) : WP G T1 m_MO_holds d [.ref 59, .int x1] h 0 0 (vQ Q) := by
  exact WP.enter 0 (by decide) rfl rfl (r_MO_holds_0 x1 h H)
theorem d_MO_signOf_0 : decode prog_14_method_20_code 0 = .ok (.aload_n 0, 1) := by decide +kernel
theorem d_MO_signOf_1 : decode prog_14_method_20_code 1 = .ok (.getfield 122, 3) := by decide +kernel
theorem d_MO_signOf_4 : decode prog_14_method_20_code 4 = .ok (.iconst 4, 1) := by decide +kernel
theorem d_MO_signOf_5 : decode prog_14_method_20_code 5 = .ok (.if_icmp .ne 8, 3) := by decide +kernel
theorem d_MO_signOf_8 : decode prog_14_method_20_code 8 = .ok (.bipush 11, 2) := by decide +kernel
theorem d_MO_signOf_10 : decode prog_14_method_20_code 10 = .ok (.goto 87, 3) := by decide +kernel
theorem d_MO_signOf_13 : decode prog_14_method_20_code 13 = .ok (.aload_n 0, 1) := by decide +kernel
theorem d_MO_signOf_14 : decode prog_14_method_20_code 14 = .ok (.getfield 122, 3) := by decide +kernel
theorem d_MO_signOf_17 : decode prog_14_method_20_code 17 = .ok (.iconst 5, 1) := by decide +kernel
theorem d_MO_signOf_18 : decode prog_14_method_20_code 18 = .ok (.if_icmp .ne 8, 3) := by decide +kernel
theorem d_MO_signOf_21 : decode prog_14_method_20_code 21 = .ok (.bipush 12, 2) := by decide +kernel
theorem d_MO_signOf_23 : decode prog_14_method_20_code 23 = .ok (.goto 74, 3) := by decide +kernel
theorem d_MO_signOf_26 : decode prog_14_method_20_code 26 = .ok (.aload_n 0, 1) := by decide +kernel
theorem d_MO_signOf_27 : decode prog_14_method_20_code 27 = .ok (.getfield 122, 3) := by decide +kernel
theorem d_MO_signOf_30 : decode prog_14_method_20_code 30 = .ok (.bipush 60, 2) := by decide +kernel
theorem d_MO_signOf_32 : decode prog_14_method_20_code 32 = .ok (.if_icmp .ne 8, 3) := by decide +kernel
theorem d_MO_signOf_35 : decode prog_14_method_20_code 35 = .ok (.bipush 14, 2) := by decide +kernel
theorem d_MO_signOf_37 : decode prog_14_method_20_code 37 = .ok (.goto 60, 3) := by decide +kernel
theorem d_MO_signOf_40 : decode prog_14_method_20_code 40 = .ok (.aload_n 0, 1) := by decide +kernel
theorem d_MO_signOf_41 : decode prog_14_method_20_code 41 = .ok (.getfield 122, 3) := by decide +kernel
theorem d_MO_signOf_44 : decode prog_14_method_20_code 44 = .ok (.bipush 61, 2) := by decide +kernel
theorem d_MO_signOf_46 : decode prog_14_method_20_code 46 = .ok (.if_icmp .ne 8, 3) := by decide +kernel
theorem d_MO_signOf_49 : decode prog_14_method_20_code 49 = .ok (.bipush 15, 2) := by decide +kernel
theorem d_MO_signOf_51 : decode prog_14_method_20_code 51 = .ok (.goto 46, 3) := by decide +kernel
theorem d_MO_signOf_54 : decode prog_14_method_20_code 54 = .ok (.aload_n 0, 1) := by decide +kernel
theorem d_MO_signOf_55 : decode prog_14_method_20_code 55 = .ok (.getfield 122, 3) := by decide +kernel
theorem d_MO_signOf_58 : decode prog_14_method_20_code 58 = .ok (.bipush 43, 2) := by decide +kernel
theorem d_MO_signOf_60 : decode prog_14_method_20_code 60 = .ok (.if_icmp .ne 8, 3) := by decide +kernel
theorem d_MO_signOf_63 : decode prog_14_method_20_code 63 = .ok (.bipush 16, 2) := by decide +kernel
theorem d_MO_signOf_65 : decode prog_14_method_20_code 65 = .ok (.goto 32, 3) := by decide +kernel
theorem d_MO_signOf_68 : decode prog_14_method_20_code 68 = .ok (.aload_n 0, 1) := by decide +kernel
theorem d_MO_signOf_69 : decode prog_14_method_20_code 69 = .ok (.getfield 122, 3) := by decide +kernel
theorem d_MO_signOf_72 : decode prog_14_method_20_code 72 = .ok (.bipush 45, 2) := by decide +kernel
theorem d_MO_signOf_74 : decode prog_14_method_20_code 74 = .ok (.if_icmp .ne 8, 3) := by decide +kernel
theorem d_MO_signOf_77 : decode prog_14_method_20_code 77 = .ok (.bipush 17, 2) := by decide +kernel
theorem d_MO_signOf_79 : decode prog_14_method_20_code 79 = .ok (.goto 18, 3) := by decide +kernel
theorem d_MO_signOf_82 : decode prog_14_method_20_code 82 = .ok (.aload_n 0, 1) := by decide +kernel
theorem d_MO_signOf_83 : decode prog_14_method_20_code 83 = .ok (.getfield 122, 3) := by decide +kernel
theorem d_MO_signOf_86 : decode prog_14_method_20_code 86 = .ok (.bipush 42, 2) := by decide +kernel
theorem d_MO_signOf_88 : decode prog_14_method_20_code 88 = .ok (.if_icmp .ne 8, 3) := by decide +kernel
theorem d_MO_signOf_91 : decode prog_14_method_20_code 91 = .ok (.bipush 18, 2) := by decide +kernel
theorem d_MO_signOf_93 : decode prog_14_method_20_code 93 = .ok (.goto 4, 3) := by decide +kernel
theorem d_MO_signOf_96 : decode prog_14_method_20_code 96 = .ok (.iconst (-1), 1) := by decide +kernel
theorem d_MO_signOf_97 : decode prog_14_method_20_code 97 = .ok (.ireturn, 1) := by decide +kernel
def p_MO_signOf (Q : Int32 → AH → Prop) (h : AH) : Prop := ((¬ (h.1 59 23) = 4 → ((¬ (h.1 59 23) = 5 → ((¬ (h.1 59 23) = 60 → ((¬ (h.1 59 23) = 61 → ((¬ (h.1 59 23) = 43 → ((¬ (h.1 59 23) = 45 → ((¬ (h.1 59 23) = 42 → Q (-1) h) ∧ ((h.1 59 23) = 42 → Q 18 h))) ∧ ((h.1 59 23) = 45 → Q 17 h))) ∧ ((h.1 59 23) = 43 → Q 16 h))) ∧ ((h.1 59 23) = 61 → Q 15 h))) ∧ ((h.1 59 23) = 60 → Q 14 h))) ∧ ((h.1 59 23) = 5 → Q 12 h))) ∧ ((h.1 59 23) = 4 → Q 11 h))
set_option maxRecDepth 20000 in
theorem r_MO_signOf_0 {G : GG} {d : Nat} {Q : Int32 → AH → Prop} (h : AH) (H : p_MO_signOf Q h) : Att G T1 m_MO_signOf d 0 [some (.ref 59)] [] h 0 0 (iQ Q) := by
  refine A_aload_n d_MO_signOf_0 rfl ?_
  refine A_get (v := .int (h.1 59 23)) d_MO_signOf_1 (fo_MO_122_12 rfl) (vA_s (by decide)) rfl (by first | rfl | (show Value.int _ = Value.int _; simp [wI, wL, wR, wC, up])) ?_
  refine A_iconst 4 (by decide) d_MO_signOf_4 ?_
  refine A_icmp_ne 13 d_MO_signOf_5 (by decide) (fun z => ?_) (fun z => ?_)
  · have H := H.1 z
    refine A_aload_n d_MO_signOf_13 rfl ?_
    refine A_get (v := .int (h.1 59 23)) d_MO_signOf_14 (fo_MO_122_12 rfl) (vA_s (by decide)) rfl (by first | rfl | (show Value.int _ = Value.int _; simp [wI, wL, wR, wC, up])) ?_
    refine A_iconst 5 (by decide) d_MO_signOf_17 ?_
    refine A_icmp_ne 26 d_MO_signOf_18 (by decide) (fun z => ?_) (fun z => ?_)
    · have H := H.1 z
      refine A_aload_n d_MO_signOf_26 rfl ?_
      refine A_get (v := .int (h.1 59 23)) d_MO_signOf_27 (fo_MO_122_12 rfl) (vA_s (by decide)) rfl (by first | rfl | (show Value.int _ = Value.int _; simp [wI, wL, wR, wC, up])) ?_
      refine A_bipush 60 (by decide) d_MO_signOf_30 ?_
      refine A_icmp_ne 40 d_MO_signOf_32 (by decide) (fun z => ?_) (fun z => ?_)
      · have H := H.1 z
        refine A_aload_n d_MO_signOf_40 rfl ?_
        refine A_get (v := .int (h.1 59 23)) d_MO_signOf_41 (fo_MO_122_12 rfl) (vA_s (by decide)) rfl (by first | rfl | (show Value.int _ = Value.int _; simp [wI, wL, wR, wC, up])) ?_
        refine A_bipush 61 (by decide) d_MO_signOf_44 ?_
        refine A_icmp_ne 54 d_MO_signOf_46 (by decide) (fun z => ?_) (fun z => ?_)
        · have H := H.1 z
          refine A_aload_n d_MO_signOf_54 rfl ?_
          refine A_get (v := .int (h.1 59 23)) d_MO_signOf_55 (fo_MO_122_12 rfl) (vA_s (by decide)) rfl (by first | rfl | (show Value.int _ = Value.int _; simp [wI, wL, wR, wC, up])) ?_
          refine A_bipush 43 (by decide) d_MO_signOf_58 ?_
          refine A_icmp_ne 68 d_MO_signOf_60 (by decide) (fun z => ?_) (fun z => ?_)
          · have H := H.1 z
            refine A_aload_n d_MO_signOf_68 rfl ?_
            refine A_get (v := .int (h.1 59 23)) d_MO_signOf_69 (fo_MO_122_12 rfl) (vA_s (by decide)) rfl (by first | rfl | (show Value.int _ = Value.int _; simp [wI, wL, wR, wC, up])) ?_
            refine A_bipush 45 (by decide) d_MO_signOf_72 ?_
            refine A_icmp_ne 82 d_MO_signOf_74 (by decide) (fun z => ?_) (fun z => ?_)
            · have H := H.1 z
              refine A_aload_n d_MO_signOf_82 rfl ?_
              refine A_get (v := .int (h.1 59 23)) d_MO_signOf_83 (fo_MO_122_12 rfl) (vA_s (by decide)) rfl (by first | rfl | (show Value.int _ = Value.int _; simp [wI, wL, wR, wC, up])) ?_
              refine A_bipush 42 (by decide) d_MO_signOf_86 ?_
              refine A_icmp_ne 96 d_MO_signOf_88 (by decide) (fun z => ?_) (fun z => ?_)
              · have H := H.1 z
                refine A_iconst (-1) (by decide) d_MO_signOf_96 ?_
                exact A_iret d_MO_signOf_97 rfl rfl H
              · have H := H.2 z
                refine A_bipush 18 (by decide) d_MO_signOf_91 ?_
                refine A_goto 97 d_MO_signOf_93 (by decide) ?_
                exact A_iret d_MO_signOf_97 rfl rfl H
            · have H := H.2 z
              refine A_bipush 17 (by decide) d_MO_signOf_77 ?_
              refine A_goto 97 d_MO_signOf_79 (by decide) ?_
              exact A_iret d_MO_signOf_97 rfl rfl H
          · have H := H.2 z
            refine A_bipush 16 (by decide) d_MO_signOf_63 ?_
            refine A_goto 97 d_MO_signOf_65 (by decide) ?_
            exact A_iret d_MO_signOf_97 rfl rfl H
        · have H := H.2 z
          refine A_bipush 15 (by decide) d_MO_signOf_49 ?_
          refine A_goto 97 d_MO_signOf_51 (by decide) ?_
          exact A_iret d_MO_signOf_97 rfl rfl H
      · have H := H.2 z
        refine A_bipush 14 (by decide) d_MO_signOf_35 ?_
        refine A_goto 97 d_MO_signOf_37 (by decide) ?_
        exact A_iret d_MO_signOf_97 rfl rfl H
    · have H := H.2 z
      refine A_bipush 12 (by decide) d_MO_signOf_21 ?_
      refine A_goto 97 d_MO_signOf_23 (by decide) ?_
      exact A_iret d_MO_signOf_97 rfl rfl H
  · have H := H.2 z
    refine A_bipush 11 (by decide) d_MO_signOf_8 ?_
    refine A_goto 97 d_MO_signOf_10 (by decide) ?_
    exact A_iret d_MO_signOf_97 rfl rfl H
set_option maxRecDepth 20000 in
theorem ok_MO_signOf {G : GG} {d : Nat} {Q : Int32 → AH → Prop} {h : AH} (H : p_MO_signOf Q h) : WP G T1 m_MO_signOf d [.ref 59] h 0 0 (iQ Q) := by
  exact WP.enter 0 (by decide) rfl rfl (r_MO_signOf_0 h H)
theorem d_MO_isLesser_0 : decode prog_14_method_6_code 0 = .ok (.aload_n 0, 1) := by decide +kernel
theorem d_MO_isLesser_1 : decode prog_14_method_6_code 1 = .ok (.getfield 25, 3) := by decide +kernel
theorem d_MO_isLesser_4 : decode prog_14_method_6_code 4 = .ok (.iload_n 1, 1) := by decide +kernel
theorem d_MO_isLesser_5 : decode prog_14_method_6_code 5 = .ok (.iaload, 1) := by decide +kernel
theorem d_MO_isLesser_6 : decode prog_14_method_6_code 6 = .ok (.iload_n 1, 1) := by decide +kernel
theorem d_MO_isLesser_7 : decode prog_14_method_6_code 7 = .ok (.if_icmp .le 7, 3) := by decide +kernel
theorem d_MO_isLesser_10 : decode prog_14_method_6_code 10 = .ok (.iconst 1, 1) := by decide +kernel
theorem d_MO_isLesser_11 : decode prog_14_method_6_code 11 = .ok (.goto 4, 3) := by decide +kernel
theorem d_MO_isLesser_14 : decode prog_14_method_6_code 14 = .ok (.iconst 0, 1) := by decide +kernel
theorem d_MO_isLesser_15 : decode prog_14_method_6_code 15 = .ok (.ireturn, 1) := by decide +kernel
def p_MO_isLesser (Q : Int32 → AH → Prop) (x1 : Int32) (h : AH) : Prop := inb x1 7 ∧ (((h.1 65 x1) ≤ x1 → Q 0 h) ∧ (¬ (h.1 65 x1) ≤ x1 → Q 1 h))
set_option maxRecDepth 20000 in
theorem r_MO_isLesser_0 {G : GG} {d : Nat} {Q : Int32 → AH → Prop} (x1 : Int32) (h : AH) (H : p_MO_isLesser Q x1 h) : Att G T1 m_MO_isLesser d 0 [some (.ref 59), some (.int x1)] [] h 0 0 (iQ Q) := by
  refine A_aload_n d_MO_isLesser_0 rfl ?_
  refine A_get (v := .ref 65) d_MO_isLesser_1 (fo_MO_25_12 rfl) (vA_s (by decide)) rfl (by first | rfl | (show Value.int _ = Value.int _; simp [wI, wL, wR, wC, up])) ?_
  refine A_iload_n d_MO_isLesser_4 rfl ?_
  obtain ⟨c1, H⟩ := H
  refine A_ialdv (n := 7) (v := (h.1 65 x1)) d_MO_isLesser_5 (vA_s (by decide)) rfl c1 rfl ?_
  refine A_iload_n d_MO_isLesser_6 rfl ?_
  refine A_icmp_le 14 d_MO_isLesser_7 (by decide) (fun z => ?_) (fun z => ?_)
  · have H := H.1 z
    refine A_iconst 0 (by decide) d_MO_isLesser_14 ?_
    exact A_iret d_MO_isLesser_15 rfl rfl H
  · have H := H.2 z
    refine A_iconst 1 (by decide) d_MO_isLesser_10 ?_
    refine A_goto 15 d_MO_isLesser_11 (by decide) ?_
    exact A_iret d_MO_isLesser_15 rfl rfl H
set_option maxRecDepth 20000 in
theorem ok_MO_isLesser {G : GG} {d : Nat} {Q : Int32 → AH → Prop} {x1 : Int32} {h : AH} (H : p_MO_isLesser Q x1 h) : WP G T1 m_MO_isLesser d [.ref 59, .int x1] h 0 0 (iQ Q) := by
  exact WP.enter 0 (by decide) rfl rfl (r_MO_isLesser_0 x1 h H)
