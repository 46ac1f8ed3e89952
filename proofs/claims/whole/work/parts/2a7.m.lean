theorem d_MO_weighs_0 : decode prog_14_method_35_code 0 = .ok (.aload_n 0, 1) := by decide +kernel
theorem d_MO_weighs_1 : decode prog_14_method_35_code 1 = .ok (.iconst 0, 1) := by decide +kernel
theorem d_MO_weighs_2 : decode prog_14_method_35_code 2 = .ok (.iload_n 1, 1) := by decide +kernel
theorem d_MO_weighs_3 : decode prog_14_method_35_code 3 = .ok (.aload_n 0, 1) := by decide +kernel
theorem d_MO_weighs_4 : decode prog_14_method_35_code 4 = .ok (.getfield 64, 3) := by decide +kernel
theorem d_MO_weighs_7 : decode prog_14_method_35_code 7 = .ok (.iload_n 1, 1) := by decide +kernel
theorem d_MO_weighs_8 : decode prog_14_method_35_code 8 = .ok (.iaload, 1) := by decide +kernel
theorem d_MO_weighs_9 : decode prog_14_method_35_code 9 = .ok (.iload_n 2, 1) := by decide +kernel
theorem d_MO_weighs_10 : decode prog_14_method_35_code 10 = .ok (.iconst 0, 1) := by decide +kernel
theorem d_MO_weighs_11 : decode prog_14_method_35_code 11 = .ok (.invokevirtual 188, 3) := by decide +kernel
theorem d_MO_weighs_14 : decode prog_14_method_35_code 14 = .ok (.istore_n 3, 1) := by decide +kernel
theorem d_MO_weighs_15 : decode prog_14_method_35_code 15 = .ok (.aload_n 0, 1) := by decide +kernel
theorem d_MO_weighs_16 : decode prog_14_method_35_code 16 = .ok (.getfield 7, 3) := by decide +kernel
theorem d_MO_weighs_19 : decode prog_14_method_35_code 19 = .ok (.iload_n 1, 1) := by decide +kernel
theorem d_MO_weighs_20 : decode prog_14_method_35_code 20 = .ok (.iaload, 1) := by decide +kernel
theorem d_MO_weighs_21 : decode prog_14_method_35_code 21 = .ok (.istore 4, 2) := by decide +kernel
theorem d_MO_weighs_23 : decode prog_14_method_35_code 23 = .ok (.iload_n 3, 1) := by decide +kernel
theorem d_MO_weighs_24 : decode prog_14_method_35_code 24 = .ok (.iconst 3, 1) := by decide +kernel
theorem d_MO_weighs_25 : decode prog_14_method_35_code 25 = .ok (.aload_n 0, 1) := by decide +kernel
theorem d_MO_weighs_26 : decode prog_14_method_35_code 26 = .ok (.getfield 16, 3) := by decide +kernel
theorem d_MO_weighs_29 : decode prog_14_method_35_code 29 = .ok (.iload_n 1, 1) := by decide +kernel
theorem d_MO_weighs_30 : decode prog_14_method_35_code 30 = .ok (.iaload, 1) := by decide +kernel
theorem d_MO_weighs_31 : decode prog_14_method_35_code 31 = .ok (.imul, 1) := by decide +kernel
theorem d_MO_weighs_32 : decode prog_14_method_35_code 32 = .ok (.iadd, 1) := by decide +kernel
theorem d_MO_weighs_33 : decode prog_14_method_35_code 33 = .ok (.istore 5, 2) := by decide +kernel
theorem d_MO_weighs_35 : decode prog_14_method_35_code 35 = .ok (.iload 4, 2) := by decide +kernel
theorem d_MO_weighs_37 : decode prog_14_method_35_code 37 = .ok (.iconst 1, 1) := by decide +kernel
theorem d_MO_weighs_38 : decode prog_14_method_35_code 38 = .ok (.if_icmp .ne 8, 3) := by decide +kernel
theorem d_MO_weighs_41 : decode prog_14_method_35_code 41 = .ok (.iload 5, 2) := by decide +kernel
theorem d_MO_weighs_43 : decode prog_14_method_35_code 43 = .ok (.goto 49, 3) := by decide +kernel
theorem d_MO_weighs_46 : decode prog_14_method_35_code 46 = .ok (.iload 4, 2) := by decide +kernel
theorem d_MO_weighs_48 : decode prog_14_method_35_code 48 = .ok (.iconst 3, 1) := by decide +kernel
theorem d_MO_weighs_49 : decode prog_14_method_35_code 49 = .ok (.if_icmp .ne 25, 3) := by decide +kernel
theorem d_MO_weighs_52 : decode prog_14_method_35_code 52 = .ok (.aload_n 0, 1) := by decide +kernel
theorem d_MO_weighs_53 : decode prog_14_method_35_code 53 = .ok (.getfield 64, 3) := by decide +kernel
theorem d_MO_weighs_56 : decode prog_14_method_35_code 56 = .ok (.iload_n 1, 1) := by decide +kernel
theorem d_MO_weighs_57 : decode prog_14_method_35_code 57 = .ok (.iaload, 1) := by decide +kernel
theorem d_MO_weighs_58 : decode prog_14_method_35_code 58 = .ok (.iconst 5, 1) := by decide +kernel
theorem d_MO_weighs_59 : decode prog_14_method_35_code 59 = .ok (.if_icmp .ge 10, 3) := by decide +kernel
theorem d_MO_weighs_62 : decode prog_14_method_35_code 62 = .ok (.iconst 2, 1) := by decide +kernel
theorem d_MO_weighs_63 : decode prog_14_method_35_code 63 = .ok (.iload 5, 2) := by decide +kernel
theorem d_MO_weighs_65 : decode prog_14_method_35_code 65 = .ok (.imul, 1) := by decide +kernel
theorem d_MO_weighs_66 : decode prog_14_method_35_code 66 = .ok (.goto 26, 3) := by decide +kernel
theorem d_MO_weighs_69 : decode prog_14_method_35_code 69 = .ok (.iload 5, 2) := by decide +kernel
theorem d_MO_weighs_71 : decode prog_14_method_35_code 71 = .ok (.goto 21, 3) := by decide +kernel
theorem d_MO_weighs_74 : decode prog_14_method_35_code 74 = .ok (.iload 4, 2) := by decide +kernel
theorem d_MO_weighs_76 : decode prog_14_method_35_code 76 = .ok (.iconst 5, 1) := by decide +kernel
theorem d_MO_weighs_77 : decode prog_14_method_35_code 77 = .ok (.if_icmp .ne 14, 3) := by decide +kernel
theorem d_MO_weighs_80 : decode prog_14_method_35_code 80 = .ok (.iload_n 3, 1) := by decide +kernel
theorem d_MO_weighs_81 : decode prog_14_method_35_code 81 = .ok (.aload_n 0, 1) := by decide +kernel
theorem d_MO_weighs_82 : decode prog_14_method_35_code 82 = .ok (.getfield 64, 3) := by decide +kernel
theorem d_MO_weighs_85 : decode prog_14_method_35_code 85 = .ok (.iload_n 1, 1) := by decide +kernel
theorem d_MO_weighs_86 : decode prog_14_method_35_code 86 = .ok (.iaload, 1) := by decide +kernel
theorem d_MO_weighs_87 : decode prog_14_method_35_code 87 = .ok (.iadd, 1) := by decide +kernel
theorem d_MO_weighs_88 : decode prog_14_method_35_code 88 = .ok (.goto 4, 3) := by decide +kernel
theorem d_MO_weighs_91 : decode prog_14_method_35_code 91 = .ok (.iload_n 3, 1) := by decide +kernel
theorem d_MO_weighs_92 : decode prog_14_method_35_code 92 = .ok (.ireturn, 1) := by decide +kernel
def p_MO_weighs (Q : Int32 → AH → Prop) (x1 : Int32) (x2 : Int32) (h : AH) : Prop := inb x1 7 ∧ p_MO_asksOf (fun r3 h2 => inb x1 7 ∧ ((¬ (h2.1 60 x1) = 1 → ((¬ (h2.1 60 x1) = 3 → ((¬ (h2.1 60 x1) = 5 → Q r3 h2) ∧ ((h2.1 60 x1) = 5 → Q (r3 + (h2.1 78 x1)) h2))) ∧ ((h2.1 60 x1) = 3 → ((5 ≤ (h2.1 78 x1) → Q (r3 + (3 * (h2.1 62 x1))) h2) ∧ (¬ 5 ≤ (h2.1 78 x1) → Q (2 * (r3 + (3 * (h2.1 62 x1)))) h2))))) ∧ ((h2.1 60 x1) = 1 → Q (r3 + (3 * (h2.1 62 x1))) h2))) 0 x1 (h.1 78 x1) x2 0 h
set_option maxRecDepth 20000 in
theorem r_MO_weighs_0 {G : GG} {d : Nat} {Q : Int32 → AH → Prop} (x1 : Int32) (x2 : Int32) (h : AH) (H : p_MO_weighs Q x1 x2 h) : Att G T1 m_MO_weighs (d + 3) 0 [some (.ref 59), some (.int x1), some (.int x2), none, none, none] [] h 0 0 (iQ Q) := by
  refine A_aload_n d_MO_weighs_0 rfl ?_
  refine A_iconst 0 (by decide) d_MO_weighs_1 ?_
  refine A_iload_n d_MO_weighs_2 rfl ?_
  refine A_aload_n d_MO_weighs_3 rfl ?_
  refine A_get (v := .ref 78) d_MO_weighs_4 (fo_MO_64_12 rfl) (vA_s (by decide)) rfl rfl ?_
  refine A_iload_n d_MO_weighs_7 rfl ?_
  obtain ⟨c1, H⟩ := H
  refine A_iald (n := 7) d_MO_weighs_8 (vA_s (by decide)) rfl c1 ?_
  refine A_iload_n d_MO_weighs_9 rfl ?_
  refine A_iconst 0 (by decide) d_MO_weighs_10 ?_
  refine A_cI [.ref 59, .int 0, .int x1, .int (h.1 78 x1), .int x2, .int 0] [] (ct_MO_188 rfl) d_MO_weighs_11 rfl rfl (by decide) (Nat.le_of_ble_eq_true rfl) (rcA_o (c := 12) rfl (vA_s (by decide)) rfl (by decide) rfl) (ok_MO_asksOf (d := d) H) (fun r3 h2 H => ?_)
  refine A_istore_n [some (.ref 59), some (.int x1), some (.int x2), some (.int r3), none, none] d_MO_weighs_14 (by decide) rfl rfl ?_
  refine A_aload_n d_MO_weighs_15 rfl ?_
  refine A_get (v := .ref 60) d_MO_weighs_16 (fo_MO_7_12 rfl) (vA_s (by decide)) rfl rfl ?_
  refine A_iload_n d_MO_weighs_19 rfl ?_
  obtain ⟨c4, H⟩ := H
  refine A_iald (n := 7) d_MO_weighs_20 (vA_s (by decide)) rfl c4 ?_
  refine A_istore [some (.ref 59), some (.int x1), some (.int x2), some (.int r3), some (.int (h2.1 60 x1)), none] d_MO_weighs_21 (by decide) rfl rfl ?_
  refine A_iload_n d_MO_weighs_23 rfl ?_
  refine A_iconst 3 (by decide) d_MO_weighs_24 ?_
  refine A_aload_n d_MO_weighs_25 rfl ?_
  refine A_get (v := .ref 62) d_MO_weighs_26 (fo_MO_16_12 rfl) (vA_s (by decide)) rfl rfl ?_
  refine A_iload_n d_MO_weighs_29 rfl ?_
  refine A_iald (n := 7) d_MO_weighs_30 (vA_s (by decide)) rfl c4 ?_
  refine A_imul d_MO_weighs_31 ?_
  refine A_iadd d_MO_weighs_32 ?_
  refine A_istore [some (.ref 59), some (.int x1), some (.int x2), some (.int r3), some (.int (h2.1 60 x1)), some (.int (r3 + (3 * (h2.1 62 x1))))] d_MO_weighs_33 (by decide) rfl rfl ?_
  refine A_iload d_MO_weighs_35 rfl ?_
  refine A_iconst 1 (by decide) d_MO_weighs_37 ?_
  refine A_icmp_ne 46 d_MO_weighs_38 (by decide) (fun z => ?_) (fun z => ?_)
  · have H := H.1 z
    refine A_iload d_MO_weighs_46 rfl ?_
    refine A_iconst 3 (by decide) d_MO_weighs_48 ?_
    refine A_icmp_ne 74 d_MO_weighs_49 (by decide) (fun z => ?_) (fun z => ?_)
    · have H := H.1 z
      refine A_iload d_MO_weighs_74 rfl ?_
      refine A_iconst 5 (by decide) d_MO_weighs_76 ?_
      refine A_icmp_ne 91 d_MO_weighs_77 (by decide) (fun z => ?_) (fun z => ?_)
      · have H := H.1 z
        refine A_iload_n d_MO_weighs_91 rfl ?_
        exact A_iret d_MO_weighs_92 rfl rfl H
      · have H := H.2 z
        refine A_iload_n d_MO_weighs_80 rfl ?_
        refine A_aload_n d_MO_weighs_81 rfl ?_
        refine A_get (v := .ref 78) d_MO_weighs_82 (fo_MO_64_12 rfl) (vA_s (by decide)) rfl rfl ?_
        refine A_iload_n d_MO_weighs_85 rfl ?_
        refine A_iald (n := 7) d_MO_weighs_86 (vA_s (by decide)) rfl c4 ?_
        refine A_iadd d_MO_weighs_87 ?_
        refine A_goto 92 d_MO_weighs_88 (by decide) ?_
        exact A_iret d_MO_weighs_92 rfl rfl H
    · have H := H.2 z
      refine A_aload_n d_MO_weighs_52 rfl ?_
      refine A_get (v := .ref 78) d_MO_weighs_53 (fo_MO_64_12 rfl) (vA_s (by decide)) rfl rfl ?_
      refine A_iload_n d_MO_weighs_56 rfl ?_
      refine A_iald (n := 7) d_MO_weighs_57 (vA_s (by decide)) rfl c4 ?_
      refine A_iconst 5 (by decide) d_MO_weighs_58 ?_
      refine A_icmp_ge 69 d_MO_weighs_59 (by decide) (fun z => ?_) (fun z => ?_)
      · have H := H.1 z
        refine A_iload d_MO_weighs_69 rfl ?_
        refine A_goto 92 d_MO_weighs_71 (by decide) ?_
        exact A_iret d_MO_weighs_92 rfl rfl H
      · have H := H.2 z
        refine A_iconst 2 (by decide) d_MO_weighs_62 ?_
        refine A_iload d_MO_weighs_63 rfl ?_
        refine A_imul d_MO_weighs_65 ?_
        refine A_goto 92 d_MO_weighs_66 (by decide) ?_
        exact A_iret d_MO_weighs_92 rfl rfl H
  · have H := H.2 z
    refine A_iload d_MO_weighs_41 rfl ?_
    refine A_goto 92 d_MO_weighs_43 (by decide) ?_
    exact A_iret d_MO_weighs_92 rfl rfl H
set_option maxRecDepth 20000 in
theorem ok_MO_weighs {G : GG} {d : Nat} {Q : Int32 → AH → Prop} {x1 : Int32} {x2 : Int32} {h : AH} (H : p_MO_weighs Q x1 x2 h) : WP G T1 m_MO_weighs (d + 3) [.ref 59, .int x1, .int x2] h 0 0 (iQ Q) := by
  exact WP.enter 3 (by decide) rfl rfl (r_MO_weighs_0 x1 x2 h H)
theorem d_MO_holdsIt_0 : decode prog_14_method_36_code 0 = .ok (.aload_n 0, 1) := by decide +kernel
theorem d_MO_holdsIt_1 : decode prog_14_method_36_code 1 = .ok (.iconst 1, 1) := by decide +kernel
theorem d_MO_holdsIt_2 : decode prog_14_method_36_code 2 = .ok (.iload_n 1, 1) := by decide +kernel
theorem d_MO_holdsIt_3 : decode prog_14_method_36_code 3 = .ok (.aload_n 0, 1) := by decide +kernel
theorem d_MO_holdsIt_4 : decode prog_14_method_36_code 4 = .ok (.getfield 64, 3) := by decide +kernel
theorem d_MO_holdsIt_7 : decode prog_14_method_36_code 7 = .ok (.iload_n 1, 1) := by decide +kernel
theorem d_MO_holdsIt_8 : decode prog_14_method_36_code 8 = .ok (.iaload, 1) := by decide +kernel
theorem d_MO_holdsIt_9 : decode prog_14_method_36_code 9 = .ok (.iload_n 2, 1) := by decide +kernel
theorem d_MO_holdsIt_10 : decode prog_14_method_36_code 10 = .ok (.iconst 0, 1) := by decide +kernel
theorem d_MO_holdsIt_11 : decode prog_14_method_36_code 11 = .ok (.invokevirtual 188, 3) := by decide +kernel
theorem d_MO_holdsIt_14 : decode prog_14_method_36_code 14 = .ok (.istore_n 3, 1) := by decide +kernel
theorem d_MO_holdsIt_15 : decode prog_14_method_36_code 15 = .ok (.aload_n 0, 1) := by decide +kernel
theorem d_MO_holdsIt_16 : decode prog_14_method_36_code 16 = .ok (.getfield 7, 3) := by decide +kernel
theorem d_MO_holdsIt_19 : decode prog_14_method_36_code 19 = .ok (.iload_n 1, 1) := by decide +kernel
theorem d_MO_holdsIt_20 : decode prog_14_method_36_code 20 = .ok (.iaload, 1) := by decide +kernel
theorem d_MO_holdsIt_21 : decode prog_14_method_36_code 21 = .ok (.iconst 2, 1) := by decide +kernel
theorem d_MO_holdsIt_22 : decode prog_14_method_36_code 22 = .ok (.if_icmp .eq 13, 3) := by decide +kernel
theorem d_MO_holdsIt_25 : decode prog_14_method_36_code 25 = .ok (.aload_n 0, 1) := by decide +kernel
theorem d_MO_holdsIt_26 : decode prog_14_method_36_code 26 = .ok (.getfield 7, 3) := by decide +kernel
theorem d_MO_holdsIt_29 : decode prog_14_method_36_code 29 = .ok (.iload_n 1, 1) := by decide +kernel
theorem d_MO_holdsIt_30 : decode prog_14_method_36_code 30 = .ok (.iaload, 1) := by decide +kernel
theorem d_MO_holdsIt_31 : decode prog_14_method_36_code 31 = .ok (.iconst 4, 1) := by decide +kernel
theorem d_MO_holdsIt_32 : decode prog_14_method_36_code 32 = .ok (.if_icmp .ne 14, 3) := by decide +kernel
theorem d_MO_holdsIt_35 : decode prog_14_method_36_code 35 = .ok (.iload_n 3, 1) := by decide +kernel
theorem d_MO_holdsIt_36 : decode prog_14_method_36_code 36 = .ok (.aload_n 0, 1) := by decide +kernel
theorem d_MO_holdsIt_37 : decode prog_14_method_36_code 37 = .ok (.getfield 16, 3) := by decide +kernel
theorem d_MO_holdsIt_40 : decode prog_14_method_36_code 40 = .ok (.iload_n 1, 1) := by decide +kernel
theorem d_MO_holdsIt_41 : decode prog_14_method_36_code 41 = .ok (.iaload, 1) := by decide +kernel
theorem d_MO_holdsIt_42 : decode prog_14_method_36_code 42 = .ok (.iadd, 1) := by decide +kernel
theorem d_MO_holdsIt_43 : decode prog_14_method_36_code 43 = .ok (.goto 4, 3) := by decide +kernel
theorem d_MO_holdsIt_46 : decode prog_14_method_36_code 46 = .ok (.iload_n 3, 1) := by decide +kernel
theorem d_MO_holdsIt_47 : decode prog_14_method_36_code 47 = .ok (.ireturn, 1) := by decide +kernel
def p_MO_holdsIt (Q : Int32 → AH → Prop) (x1 : Int32) (x2 : Int32) (h : AH) : Prop := inb x1 7 ∧ p_MO_asksOf (fun r3 h2 => inb x1 7 ∧ (((h2.1 60 x1) = 2 → Q (r3 + (h2.1 62 x1)) h2) ∧ (¬ (h2.1 60 x1) = 2 → ((¬ (h2.1 60 x1) = 4 → Q r3 h2) ∧ ((h2.1 60 x1) = 4 → Q (r3 + (h2.1 62 x1)) h2))))) 1 x1 (h.1 78 x1) x2 0 h
set_option maxRecDepth 20000 in
theorem r_MO_holdsIt_0 {G : GG} {d : Nat} {Q : Int32 → AH → Prop} (x1 : Int32) (x2 : Int32) (h : AH) (H : p_MO_holdsIt Q x1 x2 h) : Att G T1 m_MO_holdsIt (d + 3) 0 [some (.ref 59), some (.int x1), some (.int x2), none] [] h 0 0 (iQ Q) := by
  refine A_aload_n d_MO_holdsIt_0 rfl ?_
  refine A_iconst 1 (by decide) d_MO_holdsIt_1 ?_
  refine A_iload_n d_MO_holdsIt_2 rfl ?_
  refine A_aload_n d_MO_holdsIt_3 rfl ?_
  refine A_get (v := .ref 78) d_MO_holdsIt_4 (fo_MO_64_12 rfl) (vA_s (by decide)) rfl rfl ?_
  refine A_iload_n d_MO_holdsIt_7 rfl ?_
  obtain ⟨c1, H⟩ := H
  refine A_iald (n := 7) d_MO_holdsIt_8 (vA_s (by decide)) rfl c1 ?_
  refine A_iload_n d_MO_holdsIt_9 rfl ?_
  refine A_iconst 0 (by decide) d_MO_holdsIt_10 ?_
  refine A_cI [.ref 59, .int 1, .int x1, .int (h.1 78 x1), .int x2, .int 0] [] (ct_MO_188 rfl) d_MO_holdsIt_11 rfl rfl (by decide) (Nat.le_of_ble_eq_true rfl) (rcA_o (c := 12) rfl (vA_s (by decide)) rfl (by decide) rfl) (ok_MO_asksOf (d := d) H) (fun r3 h2 H => ?_)
  refine A_istore_n [some (.ref 59), some (.int x1), some (.int x2), some (.int r3)] d_MO_holdsIt_14 (by decide) rfl rfl ?_
  refine A_aload_n d_MO_holdsIt_15 rfl ?_
  refine A_get (v := .ref 60) d_MO_holdsIt_16 (fo_MO_7_12 rfl) (vA_s (by decide)) rfl rfl ?_
  refine A_iload_n d_MO_holdsIt_19 rfl ?_
  obtain ⟨c4, H⟩ := H
  refine A_iald (n := 7) d_MO_holdsIt_20 (vA_s (by decide)) rfl c4 ?_
  refine A_iconst 2 (by decide) d_MO_holdsIt_21 ?_
  refine A_icmp_eq 35 d_MO_holdsIt_22 (by decide) (fun z => ?_) (fun z => ?_)
  · have H := H.1 z
    refine A_iload_n d_MO_holdsIt_35 rfl ?_
    refine A_aload_n d_MO_holdsIt_36 rfl ?_
    refine A_get (v := .ref 62) d_MO_holdsIt_37 (fo_MO_16_12 rfl) (vA_s (by decide)) rfl rfl ?_
    refine A_iload_n d_MO_holdsIt_40 rfl ?_
    refine A_iald (n := 7) d_MO_holdsIt_41 (vA_s (by decide)) rfl c4 ?_
    refine A_iadd d_MO_holdsIt_42 ?_
    refine A_goto 47 d_MO_holdsIt_43 (by decide) ?_
    exact A_iret d_MO_holdsIt_47 rfl rfl H
  · have H := H.2 z
    refine A_aload_n d_MO_holdsIt_25 rfl ?_
    refine A_get (v := .ref 60) d_MO_holdsIt_26 (fo_MO_7_12 rfl) (vA_s (by decide)) rfl rfl ?_
    refine A_iload_n d_MO_holdsIt_29 rfl ?_
    refine A_iald (n := 7) d_MO_holdsIt_30 (vA_s (by decide)) rfl c4 ?_
    refine A_iconst 4 (by decide) d_MO_holdsIt_31 ?_
    refine A_icmp_ne 46 d_MO_holdsIt_32 (by decide) (fun z => ?_) (fun z => ?_)
    · have H := H.1 z
      refine A_iload_n d_MO_holdsIt_46 rfl ?_
      exact A_iret d_MO_holdsIt_47 rfl rfl H
    · have H := H.2 z
      refine A_iload_n d_MO_holdsIt_35 rfl ?_
      refine A_aload_n d_MO_holdsIt_36 rfl ?_
      refine A_get (v := .ref 62) d_MO_holdsIt_37 (fo_MO_16_12 rfl) (vA_s (by decide)) rfl rfl ?_
      refine A_iload_n d_MO_holdsIt_40 rfl ?_
      refine A_iald (n := 7) d_MO_holdsIt_41 (vA_s (by decide)) rfl c4 ?_
      refine A_iadd d_MO_holdsIt_42 ?_
      refine A_goto 47 d_MO_holdsIt_43 (by decide) ?_
      exact A_iret d_MO_holdsIt_47 rfl rfl H
set_option maxRecDepth 20000 in
theorem ok_MO_holdsIt {G : GG} {d : Nat} {Q : Int32 → AH → Prop} {x1 : Int32} {x2 : Int32} {h : AH} (H : p_MO_holdsIt Q x1 x2 h) : WP G T1 m_MO_holdsIt (d + 3) [.ref 59, .int x1, .int x2] h 0 0 (iQ Q) := by
  exact WP.enter 1 (by decide) rfl rfl (r_MO_holdsIt_0 x1 x2 h H)
theorem d_MO_goesDown_0 : decode prog_14_method_38_code 0 = .ok (.aload_n 0, 1) := by decide +kernel
theorem d_MO_goesDown_1 : decode prog_14_method_38_code 1 = .ok (.getfield 64, 3) := by decide +kernel
theorem d_MO_goesDown_4 : decode prog_14_method_38_code 4 = .ok (.iload_n 1, 1) := by decide +kernel
theorem d_MO_goesDown_5 : decode prog_14_method_38_code 5 = .ok (.dup2, 1) := by decide +kernel
theorem d_MO_goesDown_6 : decode prog_14_method_38_code 6 = .ok (.iaload, 1) := by decide +kernel
theorem d_MO_goesDown_7 : decode prog_14_method_38_code 7 = .ok (.iconst 1, 1) := by decide +kernel
theorem d_MO_goesDown_8 : decode prog_14_method_38_code 8 = .ok (.isub, 1) := by decide +kernel
theorem d_MO_goesDown_9 : decode prog_14_method_38_code 9 = .ok (.iastore, 1) := by decide +kernel
theorem d_MO_goesDown_10 : decode prog_14_method_38_code 10 = .ok (.aload_n 0, 1) := by decide +kernel
theorem d_MO_goesDown_11 : decode prog_14_method_38_code 11 = .ok (.getfield 67, 3) := by decide +kernel
theorem d_MO_goesDown_14 : decode prog_14_method_38_code 14 = .ok (.iload_n 1, 1) := by decide +kernel
theorem d_MO_goesDown_15 : decode prog_14_method_38_code 15 = .ok (.dup2, 1) := by decide +kernel
theorem d_MO_goesDown_16 : decode prog_14_method_38_code 16 = .ok (.iaload, 1) := by decide +kernel
theorem d_MO_goesDown_17 : decode prog_14_method_38_code 17 = .ok (.iconst 1, 1) := by decide +kernel
theorem d_MO_goesDown_18 : decode prog_14_method_38_code 18 = .ok (.iadd, 1) := by decide +kernel
theorem d_MO_goesDown_19 : decode prog_14_method_38_code 19 = .ok (.iastore, 1) := by decide +kernel
theorem d_MO_goesDown_20 : decode prog_14_method_38_code 20 = .ok (.aload_n 0, 1) := by decide +kernel
theorem d_MO_goesDown_21 : decode prog_14_method_38_code 21 = .ok (.getfield 70, 3) := by decide +kernel
theorem d_MO_goesDown_24 : decode prog_14_method_38_code 24 = .ok (.iload_n 1, 1) := by decide +kernel
theorem d_MO_goesDown_25 : decode prog_14_method_38_code 25 = .ok (.dup2, 1) := by decide +kernel
theorem d_MO_goesDown_26 : decode prog_14_method_38_code 26 = .ok (.iaload, 1) := by decide +kernel
theorem d_MO_goesDown_27 : decode prog_14_method_38_code 27 = .ok (.iconst 1, 1) := by decide +kernel
theorem d_MO_goesDown_28 : decode prog_14_method_38_code 28 = .ok (.iadd, 1) := by decide +kernel
theorem d_MO_goesDown_29 : decode prog_14_method_38_code 29 = .ok (.iastore, 1) := by decide +kernel
theorem d_MO_goesDown_30 : decode prog_14_method_38_code 30 = .ok (.aload_n 0, 1) := by decide +kernel
theorem d_MO_goesDown_31 : decode prog_14_method_38_code 31 = .ok (.getfield 64, 3) := by decide +kernel
theorem d_MO_goesDown_34 : decode prog_14_method_38_code 34 = .ok (.iload_n 1, 1) := by decide +kernel
theorem d_MO_goesDown_35 : decode prog_14_method_38_code 35 = .ok (.iaload, 1) := by decide +kernel
theorem d_MO_goesDown_36 : decode prog_14_method_38_code 36 = .ok (.ifCond .ne 40, 3) := by decide +kernel
theorem d_MO_goesDown_39 : decode prog_14_method_38_code 39 = .ok (.aload_n 0, 1) := by decide +kernel
theorem d_MO_goesDown_40 : decode prog_14_method_38_code 40 = .ok (.getfield 76, 3) := by decide +kernel
theorem d_MO_goesDown_43 : decode prog_14_method_38_code 43 = .ok (.iload_n 1, 1) := by decide +kernel
theorem d_MO_goesDown_44 : decode prog_14_method_38_code 44 = .ok (.dup2, 1) := by decide +kernel
theorem d_MO_goesDown_45 : decode prog_14_method_38_code 45 = .ok (.iaload, 1) := by decide +kernel
theorem d_MO_goesDown_46 : decode prog_14_method_38_code 46 = .ok (.aload_n 0, 1) := by decide +kernel
theorem d_MO_goesDown_47 : decode prog_14_method_38_code 47 = .ok (.iconst 2, 1) := by decide +kernel
theorem d_MO_goesDown_48 : decode prog_14_method_38_code 48 = .ok (.iload_n 1, 1) := by decide +kernel
theorem d_MO_goesDown_49 : decode prog_14_method_38_code 49 = .ok (.iconst 0, 1) := by decide +kernel
theorem d_MO_goesDown_50 : decode prog_14_method_38_code 50 = .ok (.iload_n 2, 1) := by decide +kernel
theorem d_MO_goesDown_51 : decode prog_14_method_38_code 51 = .ok (.aload_n 0, 1) := by decide +kernel
theorem d_MO_goesDown_52 : decode prog_14_method_38_code 52 = .ok (.getfield 70, 3) := by decide +kernel
theorem d_MO_goesDown_55 : decode prog_14_method_38_code 55 = .ok (.iload_n 1, 1) := by decide +kernel
theorem d_MO_goesDown_56 : decode prog_14_method_38_code 56 = .ok (.iaload, 1) := by decide +kernel
theorem d_MO_goesDown_57 : decode prog_14_method_38_code 57 = .ok (.invokevirtual 188, 3) := by decide +kernel
theorem d_MO_goesDown_60 : decode prog_14_method_38_code 60 = .ok (.iadd, 1) := by decide +kernel
theorem d_MO_goesDown_61 : decode prog_14_method_38_code 61 = .ok (.iastore, 1) := by decide +kernel
theorem d_MO_goesDown_62 : decode prog_14_method_38_code 62 = .ok (.aload_n 0, 1) := by decide +kernel
theorem d_MO_goesDown_63 : decode prog_14_method_38_code 63 = .ok (.getfield 73, 3) := by decide +kernel
theorem d_MO_goesDown_66 : decode prog_14_method_38_code 66 = .ok (.iload_n 1, 1) := by decide +kernel
theorem d_MO_goesDown_67 : decode prog_14_method_38_code 67 = .ok (.iload_n 2, 1) := by decide +kernel
theorem d_MO_goesDown_68 : decode prog_14_method_38_code 68 = .ok (.iastore, 1) := by decide +kernel
theorem d_MO_goesDown_69 : decode prog_14_method_38_code 69 = .ok (.aload_n 0, 1) := by decide +kernel
theorem d_MO_goesDown_70 : decode prog_14_method_38_code 70 = .ok (.getfield 70, 3) := by decide +kernel
theorem d_MO_goesDown_73 : decode prog_14_method_38_code 73 = .ok (.iload_n 1, 1) := by decide +kernel
theorem d_MO_goesDown_74 : decode prog_14_method_38_code 74 = .ok (.iconst 0, 1) := by decide +kernel
theorem d_MO_goesDown_75 : decode prog_14_method_38_code 75 = .ok (.iastore, 1) := by decide +kernel
theorem d_MO_goesDown_76 : decode prog_14_method_38_code 76 = .ok (.return_, 1) := by decide +kernel
def p_MO_goesDown (Q : AH → Prop) (x1 : Int32) (x2 : Int32) (h : AH) : Prop := inb x1 7 ∧ ((¬ ((wI (wI (wI h 78 x1 ((h.1 78 x1) - 1)) 79 x1 (((wI h 78 x1 ((h.1 78 x1) - 1)).1 79 x1) + 1)) 80 x1 (((wI (wI h 78 x1 ((h.1 78 x1) - 1)) 79 x1 (((wI h 78 x1 ((h.1 78 x1) - 1)).1 79 x1) + 1)).1 80 x1) + 1)).1 78 x1) = 0 → Q (wI (wI (wI h 78 x1 ((h.1 78 x1) - 1)) 79 x1 (((wI h 78 x1 ((h.1 78 x1) - 1)).1 79 x1) + 1)) 80 x1 (((wI (wI h 78 x1 ((h.1 78 x1) - 1)) 79 x1 (((wI h 78 x1 ((h.1 78 x1) - 1)).1 79 x1) + 1)).1 80 x1) + 1))) ∧ (((wI (wI (wI h 78 x1 ((h.1 78 x1) - 1)) 79 x1 (((wI h 78 x1 ((h.1 78 x1) - 1)).1 79 x1) + 1)) 80 x1 (((wI (wI h 78 x1 ((h.1 78 x1) - 1)) 79 x1 (((wI h 78 x1 ((h.1 78 x1) - 1)).1 79 x1) + 1)).1 80 x1) + 1)).1 78 x1) = 0 → p_MO_asksOf (fun r3 h2 => inb x1 7 ∧ Q (wI (wI (wI h2 82 x1 (((wI (wI (wI h 78 x1 ((h.1 78 x1) - 1)) 79 x1 (((wI h 78 x1 ((h.1 78 x1) - 1)).1 79 x1) + 1)) 80 x1 (((wI (wI h 78 x1 ((h.1 78 x1) - 1)) 79 x1 (((wI h 78 x1 ((h.1 78 x1) - 1)).1 79 x1) + 1)).1 80 x1) + 1)).1 82 x1) + r3)) 81 x1 x2) 80 x1 0)) 2 x1 0 x2 ((wI (wI (wI h 78 x1 ((h.1 78 x1) - 1)) 79 x1 (((wI h 78 x1 ((h.1 78 x1) - 1)).1 79 x1) + 1)) 80 x1 (((wI (wI h 78 x1 ((h.1 78 x1) - 1)) 79 x1 (((wI h 78 x1 ((h.1 78 x1) - 1)).1 79 x1) + 1)).1 80 x1) + 1)).1 80 x1) (wI (wI (wI h 78 x1 ((h.1 78 x1) - 1)) 79 x1 (((wI h 78 x1 ((h.1 78 x1) - 1)).1 79 x1) + 1)) 80 x1 (((wI (wI h 78 x1 ((h.1 78 x1) - 1)) 79 x1 (((wI h 78 x1 ((h.1 78 x1) - 1)).1 79 x1) + 1)).1 80 x1) + 1))))
set_option maxRecDepth 20000 in
theorem r_MO_goesDown_0 {G : GG} {d : Nat} {Q : AH → Prop} (x1 : Int32) (x2 : Int32) (h : AH) (H : p_MO_goesDown Q x1 x2 h) : Att G T1 m_MO_goesDown (d + 3) 0 [some (.ref 59), some (.int x1), some (.int x2)] [] h 0 0 (vQ Q) := by
  refine A_aload_n d_MO_goesDown_0 rfl ?_
  refine A_get (v := .ref 78) d_MO_goesDown_1 (fo_MO_64_12 rfl) (vA_s (by decide)) rfl rfl ?_
  refine A_iload_n d_MO_goesDown_4 rfl ?_
  refine A_dup2 rfl rfl d_MO_goesDown_5 ?_
  obtain ⟨c1, H⟩ := H
  refine A_iald (n := 7) d_MO_goesDown_6 (vA_s (by decide)) rfl c1 ?_
  refine A_iconst 1 (by decide) d_MO_goesDown_7 ?_
  refine A_isub d_MO_goesDown_8 ?_
  refine A_iast (n := 7) d_MO_goesDown_9 (vA_s (by decide)) rfl c1 ?_
  refine A_aload_n d_MO_goesDown_10 rfl ?_
  refine A_get (v := .ref 79) d_MO_goesDown_11 (fo_MO_67_12 rfl) (vA_s (by decide)) rfl rfl ?_
  refine A_iload_n d_MO_goesDown_14 rfl ?_
  refine A_dup2 rfl rfl d_MO_goesDown_15 ?_
  refine A_iald (n := 7) d_MO_goesDown_16 (vA_s (by decide)) rfl c1 ?_
  refine A_iconst 1 (by decide) d_MO_goesDown_17 ?_
  refine A_iadd d_MO_goesDown_18 ?_
  refine A_iast (n := 7) d_MO_goesDown_19 (vA_s (by decide)) rfl c1 ?_
  refine A_aload_n d_MO_goesDown_20 rfl ?_
  refine A_get (v := .ref 80) d_MO_goesDown_21 (fo_MO_70_12 rfl) (vA_s (by decide)) rfl rfl ?_
  refine A_iload_n d_MO_goesDown_24 rfl ?_
  refine A_dup2 rfl rfl d_MO_goesDown_25 ?_
  refine A_iald (n := 7) d_MO_goesDown_26 (vA_s (by decide)) rfl c1 ?_
  refine A_iconst 1 (by decide) d_MO_goesDown_27 ?_
  refine A_iadd d_MO_goesDown_28 ?_
  refine A_iast (n := 7) d_MO_goesDown_29 (vA_s (by decide)) rfl c1 ?_
  refine A_aload_n d_MO_goesDown_30 rfl ?_
  refine A_get (v := .ref 78) d_MO_goesDown_31 (fo_MO_64_12 rfl) (vA_s (by decide)) rfl rfl ?_
  refine A_iload_n d_MO_goesDown_34 rfl ?_
  refine A_iald (n := 7) d_MO_goesDown_35 (vA_s (by decide)) rfl c1 ?_
  refine A_if_ne 76 d_MO_goesDown_36 (by decide) (fun z => ?_) (fun z => ?_)
  · have H := H.1 z
    exact A_ret d_MO_goesDown_76 rfl H
  · have H := H.2 z
    refine A_aload_n d_MO_goesDown_39 rfl ?_
    refine A_get (v := .ref 82) d_MO_goesDown_40 (fo_MO_76_12 rfl) (vA_s (by decide)) rfl rfl ?_
    refine A_iload_n d_MO_goesDown_43 rfl ?_
    refine A_dup2 rfl rfl d_MO_goesDown_44 ?_
    refine A_iald (n := 7) d_MO_goesDown_45 (vA_s (by decide)) rfl c1 ?_
    refine A_aload_n d_MO_goesDown_46 rfl ?_
    refine A_iconst 2 (by decide) d_MO_goesDown_47 ?_
    refine A_iload_n d_MO_goesDown_48 rfl ?_
    refine A_iconst 0 (by decide) d_MO_goesDown_49 ?_
    refine A_iload_n d_MO_goesDown_50 rfl ?_
    refine A_aload_n d_MO_goesDown_51 rfl ?_
    refine A_get (v := .ref 80) d_MO_goesDown_52 (fo_MO_70_12 rfl) (vA_s (by decide)) rfl rfl ?_
    refine A_iload_n d_MO_goesDown_55 rfl ?_
    refine A_iald (n := 7) d_MO_goesDown_56 (vA_s (by decide)) rfl c1 ?_
    refine A_cI [.ref 59, .int 2, .int x1, .int 0, .int x2, .int ((wI (wI (wI h 78 x1 ((h.1 78 x1) - 1)) 79 x1 (((wI h 78 x1 ((h.1 78 x1) - 1)).1 79 x1) + 1)) 80 x1 (((wI (wI h 78 x1 ((h.1 78 x1) - 1)) 79 x1 (((wI h 78 x1 ((h.1 78 x1) - 1)).1 79 x1) + 1)).1 80 x1) + 1)).1 80 x1)] [.int ((wI (wI (wI h 78 x1 ((h.1 78 x1) - 1)) 79 x1 (((wI h 78 x1 ((h.1 78 x1) - 1)).1 79 x1) + 1)) 80 x1 (((wI (wI h 78 x1 ((h.1 78 x1) - 1)) 79 x1 (((wI h 78 x1 ((h.1 78 x1) - 1)).1 79 x1) + 1)).1 80 x1) + 1)).1 82 x1), .int x1, .ref 82] (ct_MO_188 rfl) d_MO_goesDown_57 rfl rfl (by decide) (Nat.le_of_ble_eq_true rfl) (rcA_o (c := 12) rfl (vA_s (by decide)) rfl (by decide) rfl) (ok_MO_asksOf (d := d) H) (fun r3 h2 H => ?_)
    refine A_iadd d_MO_goesDown_60 ?_
    obtain ⟨c4, H⟩ := H
    refine A_iast (n := 7) d_MO_goesDown_61 (vA_s (by decide)) rfl c4 ?_
    refine A_aload_n d_MO_goesDown_62 rfl ?_
    refine A_get (v := .ref 81) d_MO_goesDown_63 (fo_MO_73_12 rfl) (vA_s (by decide)) rfl rfl ?_
    refine A_iload_n d_MO_goesDown_66 rfl ?_
    refine A_iload_n d_MO_goesDown_67 rfl ?_
    refine A_iast (n := 7) d_MO_goesDown_68 (vA_s (by decide)) rfl c4 ?_
    refine A_aload_n d_MO_goesDown_69 rfl ?_
    refine A_get (v := .ref 80) d_MO_goesDown_70 (fo_MO_70_12 rfl) (vA_s (by decide)) rfl rfl ?_
    refine A_iload_n d_MO_goesDown_73 rfl ?_
    refine A_iconst 0 (by decide) d_MO_goesDown_74 ?_
    refine A_iast (n := 7) d_MO_goesDown_75 (vA_s (by decide)) rfl c4 ?_
    exact A_ret d_MO_goesDown_76 rfl H
set_option maxRecDepth 20000 in
theorem ok_MO_goesDown {G : GG} {d : Nat} {Q : AH → Prop} {x1 : Int32} {x2 : Int32} {h : AH} (H : p_MO_goesDown Q x1 x2 h) : WP G T1 m_MO_goesDown (d + 3) [.ref 59, .int x1, .int x2] h 0 0 (vQ Q) := by
  exact WP.enter 0 (by decide) rfl rfl (r_MO_goesDown_0 x1 x2 h H)
theorem d_Reader_isWord_0 : decode prog_9_method_14_code 0 = .ok (.aload_n 0, 1) := by decide +kernel
theorem d_Reader_isWord_1 : decode prog_9_method_14_code 1 = .ok (.getfield 34, 3) := by decide +kernel
theorem d_Reader_isWord_4 : decode prog_9_method_14_code 4 = .ok (.aload_n 0, 1) := by decide +kernel
theorem d_Reader_isWord_5 : decode prog_9_method_14_code 5 = .ok (.getfield 50, 3) := by decide +kernel
theorem d_Reader_isWord_8 : decode prog_9_method_14_code 8 = .ok (.isub, 1) := by decide +kernel
theorem d_Reader_isWord_9 : decode prog_9_method_14_code 9 = .ok (.aload_n 1, 1) := by decide +kernel
theorem d_Reader_isWord_10 : decode prog_9_method_14_code 10 = .ok (.invokevirtual 131, 3) := by decide +kernel
theorem d_Reader_isWord_13 : decode prog_9_method_14_code 13 = .ok (.if_icmp .eq 5, 3) := by decide +kernel
theorem d_Reader_isWord_16 : decode prog_9_method_14_code 16 = .ok (.iconst 0, 1) := by decide +kernel
theorem d_Reader_isWord_17 : decode prog_9_method_14_code 17 = .ok (.ireturn, 1) := by decide +kernel
theorem d_Reader_isWord_18 : decode prog_9_method_14_code 18 = .ok (.aload_n 0, 1) := by decide +kernel
theorem d_Reader_isWord_19 : decode prog_9_method_14_code 19 = .ok (.getfield 50, 3) := by decide +kernel
theorem d_Reader_isWord_22 : decode prog_9_method_14_code 22 = .ok (.istore_n 2, 1) := by decide +kernel
theorem d_Reader_isWord_23 : decode prog_9_method_14_code 23 = .ok (.iload_n 2, 1) := by decide +kernel
theorem d_Reader_isWord_24 : decode prog_9_method_14_code 24 = .ok (.aload_n 0, 1) := by decide +kernel
theorem d_Reader_isWord_25 : decode prog_9_method_14_code 25 = .ok (.getfield 34, 3) := by decide +kernel
theorem d_Reader_isWord_28 : decode prog_9_method_14_code 28 = .ok (.if_icmp .ge 30, 3) := by decide +kernel
theorem d_Reader_isWord_31 : decode prog_9_method_14_code 31 = .ok (.aload_n 0, 1) := by decide +kernel
theorem d_Reader_isWord_32 : decode prog_9_method_14_code 32 = .ok (.getfield 9, 3) := by decide +kernel
theorem d_Reader_isWord_35 : decode prog_9_method_14_code 35 = .ok (.iload_n 2, 1) := by decide +kernel
theorem d_Reader_isWord_36 : decode prog_9_method_14_code 36 = .ok (.iaload, 1) := by decide +kernel
theorem d_Reader_isWord_37 : decode prog_9_method_14_code 37 = .ok (.aload_n 1, 1) := by decide +kernel
theorem d_Reader_isWord_38 : decode prog_9_method_14_code 38 = .ok (.iload_n 2, 1) := by decide +kernel
theorem d_Reader_isWord_39 : decode prog_9_method_14_code 39 = .ok (.aload_n 0, 1) := by decide +kernel
theorem d_Reader_isWord_40 : decode prog_9_method_14_code 40 = .ok (.getfield 50, 3) := by decide +kernel
theorem d_Reader_isWord_43 : decode prog_9_method_14_code 43 = .ok (.isub, 1) := by decide +kernel
theorem d_Reader_isWord_44 : decode prog_9_method_14_code 44 = .ok (.invokevirtual 136, 3) := by decide +kernel
theorem d_Reader_isWord_47 : decode prog_9_method_14_code 47 = .ok (.if_icmp .eq 5, 3) := by decide +kernel
theorem d_Reader_isWord_50 : decode prog_9_method_14_code 50 = .ok (.iconst 0, 1) := by decide +kernel
theorem d_Reader_isWord_51 : decode prog_9_method_14_code 51 = .ok (.ireturn, 1) := by decide +kernel
theorem d_Reader_isWord_52 : decode prog_9_method_14_code 52 = .ok (.iinc 2 1, 3) := by decide +kernel
theorem d_Reader_isWord_55 : decode prog_9_method_14_code 55 = .ok (.goto (-32), 3) := by decide +kernel
theorem d_Reader_isWord_58 : decode prog_9_method_14_code 58 = .ok (.iconst 1, 1) := by decide +kernel
theorem d_Reader_isWord_59 : decode prog_9_method_14_code 59 = .ok (.ireturn, 1) := by decide +kernel
def p_Reader_isWord_23 (Q : Int32 → AH → Prop) : Nat → Nat → Int32 → AH → Prop
  | 0 => fun _ _ _ => False
  | n + 1 => fun a1 x2 h => let K23 := p_Reader_isWord_23 Q n; (((h.1 25 3) ≤ x2 → Q 1 h) ∧ (¬ (h.1 25 3) ≤ x2 → 0 < rR T1 h 25 0 ∧ vA T1 h (rR T1 h 25 0 - 1) ∧ (rS T1 h (rR T1 h 25 0 - 1)).1 = 100 ∧ inb x2 ((rS T1 h (rR T1 h 25 0 - 1)).2) ∧ p_Str_charAt (fun r6 h5 => (((h.1 (rR T1 h 25 0 - 1) x2) = r6 → K23 a1 (x2 + 1) h5) ∧ (¬ (h.1 (rR T1 h 25 0 - 1) x2) = r6 → Q 0 h5))) a1 (x2 - (h.1 25 4)) h))
def p_Reader_isWord (Q : Int32 → AH → Prop) (a1 : Nat) (h : AH) : Prop := p_Str_length (fun r2 h1 => ((((h.1 25 3) - (h.1 25 4)) = r2 → ∃ n, p_Reader_isWord_23 Q   n a1 (h1.1 25 4) h1) ∧ (¬ ((h.1 25 3) - (h.1 25 4)) = r2 → Q 0 h1))) a1 h
set_option maxRecDepth 20000 in
theorem r_Reader_isWord_23 {G : GG} {d : Nat} {Q : Int32 → AH → Prop} : ∀ (n : Nat) (a1 : Nat) (x2 : Int32) (h : AH), p_Reader_isWord_23 Q n a1 x2 h → Att G T1 m_Reader_isWord (d + 4) 23 [some (.ref 25), some (.ref a1), some (.int x2)] [] h 0 0 (iQ Q) := by
  intro n
  induction n with
  | zero => intro a1 x2 h H; exact H.elim
  | succ n k23 =>
    intro a1 x2 h H
    refine A_iload_n d_Reader_isWord_23 rfl ?_
    refine A_aload_n d_Reader_isWord_24 rfl ?_
    refine A_get (v := .int (h.1 25 3)) d_Reader_isWord_25 (fo_Reader_34_7 rfl) (vA_s (by decide)) rfl rfl ?_
    refine A_icmp_ge 58 d_Reader_isWord_28 (by decide) (fun z => ?_) (fun z => ?_)
    · have H := H.1 z
      refine A_iconst 1 (by decide) d_Reader_isWord_58 ?_
      exact A_iret d_Reader_isWord_59 rfl rfl H
    · have H := H.2 z
      refine A_aload_n d_Reader_isWord_31 rfl ?_
      obtain ⟨c1, H⟩ := H
      refine A_get (v := .ref (rR T1 h 25 0 - 1)) d_Reader_isWord_32 (fo_Reader_9_7 rfl) (vA_s (by decide)) rfl (vR_pos c1) ?_
      refine A_iload_n d_Reader_isWord_35 rfl ?_
      obtain ⟨c2, H⟩ := H
      obtain ⟨c3, H⟩ := H
      obtain ⟨c4, H⟩ := H
      refine A_iald (n := _) d_Reader_isWord_36 c2 (rS_ex c3) c4 ?_
      refine A_aload_n d_Reader_isWord_37 rfl ?_
      refine A_iload_n d_Reader_isWord_38 rfl ?_
      refine A_aload_n d_Reader_isWord_39 rfl ?_
      refine A_get (v := .int (h.1 25 4)) d_Reader_isWord_40 (fo_Reader_50_7 rfl) (vA_s (by decide)) rfl rfl ?_
      refine A_isub d_Reader_isWord_43 ?_
      refine A_cI [.ref a1, .int (x2 - (h.1 25 4))] [.int (h.1 (rR T1 h 25 0 - 1) x2)] (ct_Reader_136 rfl) d_Reader_isWord_44 rfl rfl (by decide) (Nat.le_of_ble_eq_true rfl) (by obtain ⟨i9, e9, hi9, -⟩ := H; exact rcA_s (by rw [e9]) hi9) (ok_Str_charAt (d := d) H) (fun r6 h5 H => ?_)
      refine A_icmp_eq 52 d_Reader_isWord_47 (by decide) (fun z => ?_) (fun z => ?_)
      · have H := H.1 z
        refine A_iinc 1 [some (.ref 25), some (.ref a1), some (.int (x2 + 1))] d_Reader_isWord_52 rfl (by decide) (by decide) rfl rfl ?_
        refine A_goto 23 d_Reader_isWord_55 (by decide) ?_
        exact k23 _ _ _ H
      · have H := H.2 z
        refine A_iconst 0 (by decide) d_Reader_isWord_50 ?_
        exact A_iret d_Reader_isWord_51 rfl rfl H
set_option maxRecDepth 20000 in
theorem r_Reader_isWord_0 {G : GG} {d : Nat} {Q : Int32 → AH → Prop} (a1 : Nat) (h : AH) (H : p_Reader_isWord Q a1 h) : Att G T1 m_Reader_isWord (d + 4) 0 [some (.ref 25), some (.ref a1), none] [] h 0 0 (iQ Q) := by
  refine A_aload_n d_Reader_isWord_0 rfl ?_
  refine A_get (v := .int (h.1 25 3)) d_Reader_isWord_1 (fo_Reader_34_7 rfl) (vA_s (by decide)) rfl rfl ?_
  refine A_aload_n d_Reader_isWord_4 rfl ?_
  refine A_get (v := .int (h.1 25 4)) d_Reader_isWord_5 (fo_Reader_50_7 rfl) (vA_s (by decide)) rfl rfl ?_
  refine A_isub d_Reader_isWord_8 ?_
  refine A_aload_n d_Reader_isWord_9 rfl ?_
  refine A_cI [.ref a1] [.int ((h.1 25 3) - (h.1 25 4))] (ct_Reader_131 rfl) d_Reader_isWord_10 rfl rfl (by decide) (Nat.le_of_ble_eq_true rfl) (by obtain ⟨i9, e9, hi9, -⟩ := H; exact rcA_s (by rw [e9]) hi9) (ok_Str_length (d := d + 2) H) (fun r2 h1 H => ?_)
  refine A_icmp_eq 18 d_Reader_isWord_13 (by decide) (fun z => ?_) (fun z => ?_)
  · have H := H.1 z
    refine A_aload_n d_Reader_isWord_18 rfl ?_
    refine A_get (v := .int (h1.1 25 4)) d_Reader_isWord_19 (fo_Reader_50_7 rfl) (vA_s (by decide)) rfl rfl ?_
    refine A_istore_n [some (.ref 25), some (.ref a1), some (.int (h1.1 25 4))] d_Reader_isWord_22 (by decide) rfl rfl ?_
    obtain ⟨n9, H⟩ := H
    exact r_Reader_isWord_23   n9 _ _ _ H
  · have H := H.2 z
    refine A_iconst 0 (by decide) d_Reader_isWord_16 ?_
    exact A_iret d_Reader_isWord_17 rfl rfl H
set_option maxRecDepth 20000 in
theorem ok_Reader_isWord {G : GG} {d : Nat} {Q : Int32 → AH → Prop} {a1 : Nat} {h : AH} (H : p_Reader_isWord Q a1 h) : WP G T1 m_Reader_isWord (d + 4) [.ref 25, .ref a1] h 0 0 (iQ Q) := by
  exact WP.enter 1 (by decide) rfl rfl (r_Reader_isWord_0 a1 h H)
theorem d_UF_text_0 : decode prog_1_method_4_code 0 = .ok (.aload_n 0, 1) := by decide +kernel
theorem d_UF_text_1 : decode prog_1_method_4_code 1 = .ok (.getfield 76, 3) := by decide +kernel
theorem d_UF_text_4 : decode prog_1_method_4_code 4 = .ok (.bipush 6, 2) := by decide +kernel
theorem d_UF_text_6 : decode prog_1_method_4_code 6 = .ok (.if_icmp .lt 6, 3) := by decide +kernel
theorem d_UF_text_9 : decode prog_1_method_4_code 9 = .ok (.bipush (-4), 2) := by decide +kernel
theorem d_UF_text_11 : decode prog_1_method_4_code 11 = .ok (.ireturn, 1) := by decide +kernel
theorem d_UF_text_12 : decode prog_1_method_4_code 12 = .ok (.aload_n 0, 1) := by decide +kernel
theorem d_UF_text_13 : decode prog_1_method_4_code 13 = .ok (.getfield 51, 3) := by decide +kernel
theorem d_UF_text_16 : decode prog_1_method_4_code 16 = .ok (.aload_n 0, 1) := by decide +kernel
theorem d_UF_text_17 : decode prog_1_method_4_code 17 = .ok (.getfield 27, 3) := by decide +kernel
theorem d_UF_text_20 : decode prog_1_method_4_code 20 = .ok (.aload_n 0, 1) := by decide +kernel
theorem d_UF_text_21 : decode prog_1_method_4_code 21 = .ok (.getfield 92, 3) := by decide +kernel
theorem d_UF_text_24 : decode prog_1_method_4_code 24 = .ok (.aload_n 0, 1) := by decide +kernel
theorem d_UF_text_25 : decode prog_1_method_4_code 25 = .ok (.getfield 17, 3) := by decide +kernel
theorem d_UF_text_28 : decode prog_1_method_4_code 28 = .ok (.aload_n 0, 1) := by decide +kernel
theorem d_UF_text_29 : decode prog_1_method_4_code 29 = .ok (.getfield 76, 3) := by decide +kernel
theorem d_UF_text_32 : decode prog_1_method_4_code 32 = .ok (.aaload, 1) := by decide +kernel
theorem d_UF_text_33 : decode prog_1_method_4_code 33 = .ok (.invokevirtual 72, 3) := by decide +kernel
theorem d_UF_text_36 : decode prog_1_method_4_code 36 = .ok (.istore_n 1, 1) := by decide +kernel
theorem d_UF_text_37 : decode prog_1_method_4_code 37 = .ok (.aload_n 0, 1) := by decide +kernel
theorem d_UF_text_38 : decode prog_1_method_4_code 38 = .ok (.iconst 0, 1) := by decide +kernel
theorem d_UF_text_39 : decode prog_1_method_4_code 39 = .ok (.putfield 92, 3) := by decide +kernel
theorem d_UF_text_42 : decode prog_1_method_4_code 42 = .ok (.iload_n 1, 1) := by decide +kernel
theorem d_UF_text_43 : decode prog_1_method_4_code 43 = .ok (.ifCond .lt 8, 3) := by decide +kernel
theorem d_UF_text_46 : decode prog_1_method_4_code 46 = .ok (.bipush (-100), 2) := by decide +kernel
theorem d_UF_text_48 : decode prog_1_method_4_code 48 = .ok (.iload_n 1, 1) := by decide +kernel
theorem d_UF_text_49 : decode prog_1_method_4_code 49 = .ok (.isub, 1) := by decide +kernel
theorem d_UF_text_50 : decode prog_1_method_4_code 50 = .ok (.ireturn, 1) := by decide +kernel
theorem d_UF_text_51 : decode prog_1_method_4_code 51 = .ok (.aload_n 0, 1) := by decide +kernel
theorem d_UF_text_52 : decode prog_1_method_4_code 52 = .ok (.dup, 1) := by decide +kernel
theorem d_UF_text_53 : decode prog_1_method_4_code 53 = .ok (.getfield 76, 3) := by decide +kernel
theorem d_UF_text_56 : decode prog_1_method_4_code 56 = .ok (.iconst 1, 1) := by decide +kernel
theorem d_UF_text_57 : decode prog_1_method_4_code 57 = .ok (.iadd, 1) := by decide +kernel
theorem d_UF_text_58 : decode prog_1_method_4_code 58 = .ok (.putfield 76, 3) := by decide +kernel
theorem d_UF_text_61 : decode prog_1_method_4_code 61 = .ok (.aload_n 0, 1) := by decide +kernel
theorem d_UF_text_62 : decode prog_1_method_4_code 62 = .ok (.getfield 76, 3) := by decide +kernel
theorem d_UF_text_65 : decode prog_1_method_4_code 65 = .ok (.iconst 1, 1) := by decide +kernel
theorem d_UF_text_66 : decode prog_1_method_4_code 66 = .ok (.isub, 1) := by decide +kernel
theorem d_UF_text_67 : decode prog_1_method_4_code 67 = .ok (.ireturn, 1) := by decide +kernel
def p_UF_text (Q : Int32 → AH → Prop) (P_Reader_read : (Int32 → AH → Prop) → Nat → Int32 → Nat → AH → Prop) (h : AH) : Prop := (((h.1 0 8) < 6 → inb (h.1 0 8) 6 ∧ 0 < rR T1 h 2 (h.1 0 8).toNatClampNeg ∧ P_Reader_read (fun r4 h3 => ((r4 < 0 → Q (((wI (wI h3 0 9 0) 0 8 (((wI h3 0 9 0).1 0 8) + 1)).1 0 8) - 1) (wI (wI h3 0 9 0) 0 8 (((wI h3 0 9 0).1 0 8) + 1))) ∧ (¬ r4 < 0 → Q ((-100) - r4) (wI h3 0 9 0)))) 4 (h.1 0 9) (rR T1 h 2 (h.1 0 8).toNatClampNeg - 1) h) ∧ (¬ (h.1 0 8) < 6 → Q (-4) h))
set_option maxRecDepth 20000 in
theorem r_UF_text_0 {G : GG} {d : Nat} {Q : Int32 → AH → Prop} {P_Reader_read : (Int32 → AH → Prop) → Nat → Int32 → Nat → AH → Prop} (hP_Reader_read : ∀ Q a1 x2 a3 h, P_Reader_read Q a1 x2 a3 h → WP G T1 m_Reader_read (d + 3) [.ref 25, .ref a1, .int x2, .ref a3] h 0 0 (iQ Q)) (h : AH) (H : p_UF_text Q P_Reader_read h) : Att G T1 m_UF_text (d + 4) 0 [some (.ref 0), none] [] h 0 0 (iQ Q) := by
  refine A_aload_n d_UF_text_0 rfl ?_
  refine A_get (v := .int (h.1 0 8)) d_UF_text_1 (fo_UF_76_11 rfl) (vA_s (by decide)) rfl rfl ?_
  refine A_bipush 6 (by decide) d_UF_text_4 ?_
  refine A_icmp_lt 12 d_UF_text_6 (by decide) (fun z => ?_) (fun z => ?_)
  · have H := H.1 z
    refine A_aload_n d_UF_text_12 rfl ?_
    refine A_get (v := .ref 25) d_UF_text_13 (fo_UF_51_11 rfl) (vA_s (by decide)) rfl rfl ?_
    refine A_aload_n d_UF_text_16 rfl ?_
    refine A_get (v := .ref 4) d_UF_text_17 (fo_UF_27_11 rfl) (vA_s (by decide)) rfl rfl ?_
    refine A_aload_n d_UF_text_20 rfl ?_
    refine A_get (v := .int (h.1 0 9)) d_UF_text_21 (fo_UF_92_11 rfl) (vA_s (by decide)) rfl rfl ?_
    refine A_aload_n d_UF_text_24 rfl ?_
    refine A_get (v := .ref 2) d_UF_text_25 (fo_UF_17_11 rfl) (vA_s (by decide)) rfl rfl ?_
    refine A_aload_n d_UF_text_28 rfl ?_
    refine A_get (v := .int (h.1 0 8)) d_UF_text_29 (fo_UF_76_11 rfl) (vA_s (by decide)) rfl rfl ?_
    obtain ⟨c1, H⟩ := H
    obtain ⟨c2, H⟩ := H
    refine A_aald (t := 1) (n := 6) d_UF_text_32 (by decide) (vA_s (by decide)) rfl c1 (pos_sub c2) ?_
    refine A_cI [.ref 25, .ref 4, .int (h.1 0 9), .ref (rR T1 h 2 (h.1 0 8).toNatClampNeg - 1)] [] (ct_UF_72 rfl) d_UF_text_33 rfl rfl (by decide) (Nat.le_of_ble_eq_true rfl) (rcA_o (c := 7) rfl (vA_s (by decide)) rfl (by decide) rfl) (hP_Reader_read _ _ _ _ _ H) (fun r4 h3 H => ?_)
    refine A_istore_n [some (.ref 0), some (.int r4)] d_UF_text_36 (by decide) rfl rfl ?_
    refine A_aload_n d_UF_text_37 rfl ?_
    refine A_iconst 0 (by decide) d_UF_text_38 ?_
    refine A_putI (k := 9) d_UF_text_39 (fo_UF_92_11 rfl) (Or.inr ⟨rfl, _, ft_11_9⟩) (fun z => by cases z) rfl (vA_s (by decide)) rfl rfl rfl ?_
    refine A_iload_n d_UF_text_42 rfl ?_
    refine A_if_lt 51 d_UF_text_43 (by decide) (fun z => ?_) (fun z => ?_)
    · have H := H.1 z
      refine A_aload_n d_UF_text_51 rfl ?_
      refine A_dup rfl d_UF_text_52 ?_
      refine A_get (v := .int ((wI h3 0 9 0).1 0 8)) d_UF_text_53 (fo_UF_76_11 rfl) (vA_s (by decide)) rfl rfl ?_
      refine A_iconst 1 (by decide) d_UF_text_56 ?_
      refine A_iadd d_UF_text_57 ?_
      refine A_putI (k := 8) d_UF_text_58 (fo_UF_76_11 rfl) (Or.inr ⟨rfl, _, ft_11_8⟩) (fun z => by cases z) rfl (vA_s (by decide)) rfl rfl rfl ?_
      refine A_aload_n d_UF_text_61 rfl ?_
      refine A_get (v := .int ((wI (wI h3 0 9 0) 0 8 (((wI h3 0 9 0).1 0 8) + 1)).1 0 8)) d_UF_text_62 (fo_UF_76_11 rfl) (vA_s (by decide)) rfl rfl ?_
      refine A_iconst 1 (by decide) d_UF_text_65 ?_
      refine A_isub d_UF_text_66 ?_
      exact A_iret d_UF_text_67 rfl rfl H
    · have H := H.2 z
      refine A_bipush (-100) (by decide) d_UF_text_46 ?_
      refine A_iload_n d_UF_text_48 rfl ?_
      refine A_isub d_UF_text_49 ?_
      exact A_iret d_UF_text_50 rfl rfl H
  · have H := H.2 z
    refine A_bipush (-4) (by decide) d_UF_text_9 ?_
    exact A_iret d_UF_text_11 rfl rfl H
set_option maxRecDepth 20000 in
theorem ok_UF_text {G : GG} {d : Nat} {Q : Int32 → AH → Prop} {P_Reader_read : (Int32 → AH → Prop) → Nat → Int32 → Nat → AH → Prop} (hP_Reader_read : ∀ Q a1 x2 a3 h, P_Reader_read Q a1 x2 a3 h → WP G T1 m_Reader_read (d + 3) [.ref 25, .ref a1, .int x2, .ref a3] h 0 0 (iQ Q)) {h : AH} (H : p_UF_text Q P_Reader_read h) : WP G T1 m_UF_text (d + 4) [.ref 0] h 0 0 (iQ Q) := by
  exact WP.enter 1 (by decide) rfl rfl (r_UF_text_0 hP_Reader_read h H)
theorem d_UF_asks_0 : decode prog_1_method_6_code 0 = .ok (.aload_n 0, 1) := by decide +kernel
theorem d_UF_asks_1 : decode prog_1_method_6_code 1 = .ok (.iload_n 2, 1) := by decide +kernel
theorem d_UF_asks_2 : decode prog_1_method_6_code 2 = .ok (.invokevirtual 107, 3) := by decide +kernel
theorem d_UF_asks_5 : decode prog_1_method_6_code 5 = .ok (.ifCond .ne 6, 3) := by decide +kernel
theorem d_UF_asks_8 : decode prog_1_method_6_code 8 = .ok (.bipush (-5), 2) := by decide +kernel
theorem d_UF_asks_10 : decode prog_1_method_6_code 10 = .ok (.ireturn, 1) := by decide +kernel
theorem d_UF_asks_11 : decode prog_1_method_6_code 11 = .ok (.iload_n 1, 1) := by decide +kernel
theorem d_UF_asks_12 : decode prog_1_method_6_code 12 = .ok (.iconst 0, 1) := by decide +kernel
theorem d_UF_asks_13 : decode prog_1_method_6_code 13 = .ok (.iconst 2, 1) := by decide +kernel
theorem d_UF_asks_14 : decode prog_1_method_6_code 14 = .ok (.invokestatic 95, 3) := by decide +kernel
theorem d_UF_asks_17 : decode prog_1_method_6_code 17 = .ok (.ifCond .eq 13, 3) := by decide +kernel
theorem d_UF_asks_20 : decode prog_1_method_6_code 20 = .ok (.iload_n 3, 1) := by decide +kernel
theorem d_UF_asks_21 : decode prog_1_method_6_code 21 = .ok (.iconst 0, 1) := by decide +kernel
theorem d_UF_asks_22 : decode prog_1_method_6_code 22 = .ok (.bipush 24, 2) := by decide +kernel
theorem d_UF_asks_24 : decode prog_1_method_6_code 24 = .ok (.invokestatic 95, 3) := by decide +kernel
theorem d_UF_asks_27 : decode prog_1_method_6_code 27 = .ok (.ifCond .ne 6, 3) := by decide +kernel
theorem d_UF_asks_30 : decode prog_1_method_6_code 30 = .ok (.bipush (-7), 2) := by decide +kernel
theorem d_UF_asks_32 : decode prog_1_method_6_code 32 = .ok (.ireturn, 1) := by decide +kernel
theorem d_UF_asks_33 : decode prog_1_method_6_code 33 = .ok (.aload_n 0, 1) := by decide +kernel
theorem d_UF_asks_34 : decode prog_1_method_6_code 34 = .ok (.invokevirtual 110, 3) := by decide +kernel
theorem d_UF_asks_37 : decode prog_1_method_6_code 37 = .ok (.aload_n 0, 1) := by decide +kernel
theorem d_UF_asks_38 : decode prog_1_method_6_code 38 = .ok (.getfield 44, 3) := by decide +kernel
theorem d_UF_asks_41 : decode prog_1_method_6_code 41 = .ok (.iload_n 1, 1) := by decide +kernel
theorem d_UF_asks_42 : decode prog_1_method_6_code 42 = .ok (.iload_n 2, 1) := by decide +kernel
theorem d_UF_asks_43 : decode prog_1_method_6_code 43 = .ok (.iload_n 3, 1) := by decide +kernel
theorem d_UF_asks_44 : decode prog_1_method_6_code 44 = .ok (.iconst 0, 1) := by decide +kernel
theorem d_UF_asks_45 : decode prog_1_method_6_code 45 = .ok (.invokevirtual 113, 3) := by decide +kernel
theorem d_UF_asks_48 : decode prog_1_method_6_code 48 = .ok (.ireturn, 1) := by decide +kernel
def p_UF_asks (Q : Int32 → AH → Prop) (x1 : Int32) (x2 : Int32) (x3 : Int32) (h : AH) : Prop := p_UF_isHouse (fun r2 h1 => ((¬ r2 = 0 → p_UF_within (fun r4 h3 => ((r4 = 0 → Q (-7) h3) ∧ (¬ r4 = 0 → p_UF_within (fun r6 h5 => ((¬ r6 = 0 → p_UF_ready (fun h7 => p_Dusk_says (fun r9 h8 => Q r9 h8) x1 x2 x3 0 h7) h5) ∧ (r6 = 0 → Q (-7) h5))) x3 0 24 h3))) x1 0 2 h1) ∧ (r2 = 0 → Q (-5) h1))) x2 h
set_option maxRecDepth 20000 in
theorem r_UF_asks_0 {G : GG} {d : Nat} {Q : Int32 → AH → Prop} (x1 : Int32) (x2 : Int32) (x3 : Int32) (h : AH) (H : p_UF_asks Q x1 x2 x3 h) : Att G T1 m_UF_asks (d + 4) 0 [some (.ref 0), some (.int x1), some (.int x2), some (.int x3)] [] h 0 0 (iQ Q) := by
  refine A_aload_n d_UF_asks_0 rfl ?_
  refine A_iload_n d_UF_asks_1 rfl ?_
  refine A_cI [.ref 0, .int x2] [] (ct_UF_107 rfl) d_UF_asks_2 rfl rfl (by decide) (Nat.le_of_ble_eq_true rfl) (rcA_o (c := 11) rfl (vA_s (by decide)) rfl (by decide) rfl) (ok_UF_isHouse (d := d + 2) H) (fun r2 h1 H => ?_)
  refine A_if_ne 11 d_UF_asks_5 (by decide) (fun z => ?_) (fun z => ?_)
  · have H := H.1 z
    refine A_iload_n d_UF_asks_11 rfl ?_
    refine A_iconst 0 (by decide) d_UF_asks_12 ?_
    refine A_iconst 2 (by decide) d_UF_asks_13 ?_
    refine A_cI [.int x1, .int 0, .int 2] [] (ct_UF_95 rfl) d_UF_asks_14 rfl rfl (by decide) (Nat.le_of_ble_eq_true rfl) trivial (ok_UF_within (d := d + 3) H) (fun r4 h3 H => ?_)
    refine A_if_eq 30 d_UF_asks_17 (by decide) (fun z => ?_) (fun z => ?_)
    · have H := H.1 z
      refine A_bipush (-7) (by decide) d_UF_asks_30 ?_
      exact A_iret d_UF_asks_32 rfl rfl H
    · have H := H.2 z
      refine A_iload_n d_UF_asks_20 rfl ?_
      refine A_iconst 0 (by decide) d_UF_asks_21 ?_
      refine A_bipush 24 (by decide) d_UF_asks_22 ?_
      refine A_cI [.int x3, .int 0, .int 24] [] (ct_UF_95 rfl) d_UF_asks_24 rfl rfl (by decide) (Nat.le_of_ble_eq_true rfl) trivial (ok_UF_within (d := d + 3) H) (fun r6 h5 H => ?_)
      refine A_if_ne 33 d_UF_asks_27 (by decide) (fun z => ?_) (fun z => ?_)
      · have H := H.1 z
        refine A_aload_n d_UF_asks_33 rfl ?_
        refine A_cV [.ref 0] [] (ct_UF_110 rfl) d_UF_asks_34 rfl rfl (by decide) (Nat.le_of_ble_eq_true rfl) (rcA_o (c := 11) rfl (vA_s (by decide)) rfl (by decide) rfl) (ok_UF_ready (d := d) H) (fun h7 H => ?_)
        refine A_aload_n d_UF_asks_37 rfl ?_
        refine A_get (v := .ref 13) d_UF_asks_38 (fo_UF_44_11 rfl) (vA_s (by decide)) rfl rfl ?_
        refine A_iload_n d_UF_asks_41 rfl ?_
        refine A_iload_n d_UF_asks_42 rfl ?_
        refine A_iload_n d_UF_asks_43 rfl ?_
        refine A_iconst 0 (by decide) d_UF_asks_44 ?_
        refine A_cI [.ref 13, .int x1, .int x2, .int x3, .int 0] [] (ct_UF_113 rfl) d_UF_asks_45 rfl rfl (by decide) (Nat.le_of_ble_eq_true rfl) (rcA_o (c := 2) rfl (vA_s (by decide)) rfl (by decide) rfl) (ok_Dusk_says (d := d + 1) H) (fun r9 h8 H => ?_)
        exact A_iret d_UF_asks_48 rfl rfl H
      · have H := H.2 z
        refine A_bipush (-7) (by decide) d_UF_asks_30 ?_
        exact A_iret d_UF_asks_32 rfl rfl H
  · have H := H.2 z
    refine A_bipush (-5) (by decide) d_UF_asks_8 ?_
    exact A_iret d_UF_asks_10 rfl rfl H
set_option maxRecDepth 20000 in
theorem ok_UF_asks {G : GG} {d : Nat} {Q : Int32 → AH → Prop} {x1 : Int32} {x2 : Int32} {x3 : Int32} {h : AH} (H : p_UF_asks Q x1 x2 x3 h) : WP G T1 m_UF_asks (d + 4) [.ref 0, .int x1, .int x2, .int x3] h 0 0 (iQ Q) := by
  exact WP.enter 0 (by decide) rfl rfl (r_UF_asks_0 x1 x2 x3 h H)
theorem d_Dusk_alone_0 : decode prog_4_method_6_code 0 = .ok (.aload_n 0, 1) := by decide +kernel
theorem d_Dusk_alone_1 : decode prog_4_method_6_code 1 = .ok (.getfield 12, 3) := by decide +kernel
theorem d_Dusk_alone_4 : decode prog_4_method_6_code 4 = .ok (.getfield 78, 3) := by decide +kernel
theorem d_Dusk_alone_7 : decode prog_4_method_6_code 7 = .ok (.iload_n 1, 1) := by decide +kernel
theorem d_Dusk_alone_8 : decode prog_4_method_6_code 8 = .ok (.iaload, 1) := by decide +kernel
theorem d_Dusk_alone_9 : decode prog_4_method_6_code 9 = .ok (.ifCond .le 44, 3) := by decide +kernel
theorem d_Dusk_alone_12 : decode prog_4_method_6_code 12 = .ok (.aload_n 0, 1) := by decide +kernel
theorem d_Dusk_alone_13 : decode prog_4_method_6_code 13 = .ok (.getfield 20, 3) := by decide +kernel
theorem d_Dusk_alone_16 : decode prog_4_method_6_code 16 = .ok (.iload_n 1, 1) := by decide +kernel
theorem d_Dusk_alone_17 : decode prog_4_method_6_code 17 = .ok (.aaload, 1) := by decide +kernel
theorem d_Dusk_alone_18 : decode prog_4_method_6_code 18 = .ok (.aload_n 0, 1) := by decide +kernel
theorem d_Dusk_alone_19 : decode prog_4_method_6_code 19 = .ok (.getfield 12, 3) := by decide +kernel
theorem d_Dusk_alone_22 : decode prog_4_method_6_code 22 = .ok (.getfield 78, 3) := by decide +kernel
theorem d_Dusk_alone_25 : decode prog_4_method_6_code 25 = .ok (.iload_n 1, 1) := by decide +kernel
theorem d_Dusk_alone_26 : decode prog_4_method_6_code 26 = .ok (.iaload, 1) := by decide +kernel
theorem d_Dusk_alone_27 : decode prog_4_method_6_code 27 = .ok (.iload_n 2, 1) := by decide +kernel
theorem d_Dusk_alone_28 : decode prog_4_method_6_code 28 = .ok (.invokevirtual 81, 3) := by decide +kernel
theorem d_Dusk_alone_31 : decode prog_4_method_6_code 31 = .ok (.ifCond .eq 22, 3) := by decide +kernel
theorem d_Dusk_alone_34 : decode prog_4_method_6_code 34 = .ok (.aload_n 0, 1) := by decide +kernel
theorem d_Dusk_alone_35 : decode prog_4_method_6_code 35 = .ok (.iload_n 1, 1) := by decide +kernel
theorem d_Dusk_alone_36 : decode prog_4_method_6_code 36 = .ok (.iload_n 2, 1) := by decide +kernel
theorem d_Dusk_alone_37 : decode prog_4_method_6_code 37 = .ok (.invokevirtual 85, 3) := by decide +kernel
theorem d_Dusk_alone_40 : decode prog_4_method_6_code 40 = .ok (.aload_n 0, 1) := by decide +kernel
theorem d_Dusk_alone_41 : decode prog_4_method_6_code 41 = .ok (.iload_n 1, 1) := by decide +kernel
theorem d_Dusk_alone_42 : decode prog_4_method_6_code 42 = .ok (.iload_n 2, 1) := by decide +kernel
theorem d_Dusk_alone_43 : decode prog_4_method_6_code 43 = .ok (.invokevirtual 89, 3) := by decide +kernel
theorem d_Dusk_alone_46 : decode prog_4_method_6_code 46 = .ok (.if_icmp .le 7, 3) := by decide +kernel
theorem d_Dusk_alone_49 : decode prog_4_method_6_code 49 = .ok (.iconst 1, 1) := by decide +kernel
theorem d_Dusk_alone_50 : decode prog_4_method_6_code 50 = .ok (.goto 4, 3) := by decide +kernel
theorem d_Dusk_alone_53 : decode prog_4_method_6_code 53 = .ok (.iconst 0, 1) := by decide +kernel
theorem d_Dusk_alone_54 : decode prog_4_method_6_code 54 = .ok (.istore_n 3, 1) := by decide +kernel
theorem d_Dusk_alone_55 : decode prog_4_method_6_code 55 = .ok (.iload_n 3, 1) := by decide +kernel
theorem d_Dusk_alone_56 : decode prog_4_method_6_code 56 = .ok (.ifCond .eq 12, 3) := by decide +kernel
theorem d_Dusk_alone_59 : decode prog_4_method_6_code 59 = .ok (.aload_n 0, 1) := by decide +kernel
theorem d_Dusk_alone_60 : decode prog_4_method_6_code 60 = .ok (.iload_n 1, 1) := by decide +kernel
theorem d_Dusk_alone_61 : decode prog_4_method_6_code 61 = .ok (.iload_n 2, 1) := by decide +kernel
theorem d_Dusk_alone_62 : decode prog_4_method_6_code 62 = .ok (.invokevirtual 92, 3) := by decide +kernel
theorem d_Dusk_alone_65 : decode prog_4_method_6_code 65 = .ok (.goto 10, 3) := by decide +kernel
theorem d_Dusk_alone_68 : decode prog_4_method_6_code 68 = .ok (.aload_n 0, 1) := by decide +kernel
theorem d_Dusk_alone_69 : decode prog_4_method_6_code 69 = .ok (.getfield 24, 3) := by decide +kernel
theorem d_Dusk_alone_72 : decode prog_4_method_6_code 72 = .ok (.iload_n 1, 1) := by decide +kernel
theorem d_Dusk_alone_73 : decode prog_4_method_6_code 73 = .ok (.iconst 0, 1) := by decide +kernel
theorem d_Dusk_alone_74 : decode prog_4_method_6_code 74 = .ok (.iastore, 1) := by decide +kernel
theorem d_Dusk_alone_75 : decode prog_4_method_6_code 75 = .ok (.return_, 1) := by decide +kernel
def p_Dusk_alone_54 (Q : AH → Prop) (x1 : Int32) (x2 : Int32) (s0 : Int32) (h : AH) : Prop := ((s0 = 0 → inb x1 7 ∧ Q (wI h 19 x1 0)) ∧ (¬ s0 = 0 → p_Dusk_sink (fun h2 => Q h2) x1 x2 h))
def p_Dusk_alone_53 (Q : AH → Prop) (x1 : Int32) (x2 : Int32) (h : AH) : Prop := p_Dusk_alone_54 Q   x1 x2 0 h
def p_Dusk_alone (Q : AH → Prop) (x1 : Int32) (x2 : Int32) (h : AH) : Prop := inb x1 7 ∧ (((h.1 15 x1) ≤ 0 → p_Dusk_alone_53 Q   x1 x2 h) ∧ (¬ (h.1 15 x1) ≤ 0 → 0 < rR T1 h 18 x1.toNatClampNeg ∧ pv_isFree (fun r3 h4 => ((r3 = 0 → p_Dusk_alone_53 Q   x1 x2 h4) ∧ (¬ r3 = 0 → p_Dusk_weighs (fun r6 h5 => p_Dusk_holds (fun r8 h7 => ((r6 ≤ r8 → p_Dusk_alone_53 Q   x1 x2 h7) ∧ (¬ r6 ≤ r8 → p_Dusk_alone_54 Q   x1 x2 1 h7))) x1 x2 h5) x1 x2 h4))) (rR T1 h 18 x1.toNatClampNeg - 1) (h.1 15 x1) x2 h))
set_option maxRecDepth 20000 in
theorem r_Dusk_alone_54 {G : GG} {d : Nat} {Q : AH → Prop} (x1 : Int32) (x2 : Int32) (s0 : Int32) (h : AH) (H : p_Dusk_alone_54 Q x1 x2 s0 h) : Att G T1 m_Dusk_alone (d + 4) 54 [some (.ref 13), some (.int x1), some (.int x2), none] [.int s0] h 0 0 (vQ Q) := by
  refine A_istore_n [some (.ref 13), some (.int x1), some (.int x2), some (.int s0)] d_Dusk_alone_54 (by decide) rfl rfl ?_
  refine A_iload_n d_Dusk_alone_55 rfl ?_
  refine A_if_eq 68 d_Dusk_alone_56 (by decide) (fun z => ?_) (fun z => ?_)
  · have H := H.1 z
    refine A_aload_n d_Dusk_alone_68 rfl ?_
    refine A_get (v := .ref 19) d_Dusk_alone_69 (fo_Dusk_24_2 rfl) (vA_s (by decide)) rfl rfl ?_
    refine A_iload_n d_Dusk_alone_72 rfl ?_
    refine A_iconst 0 (by decide) d_Dusk_alone_73 ?_
    obtain ⟨c1, H⟩ := H
    refine A_iast (n := 7) d_Dusk_alone_74 (vA_s (by decide)) rfl c1 ?_
    exact A_ret d_Dusk_alone_75 rfl H
  · have H := H.2 z
    refine A_aload_n d_Dusk_alone_59 rfl ?_
    refine A_iload_n d_Dusk_alone_60 rfl ?_
    refine A_iload_n d_Dusk_alone_61 rfl ?_
    refine A_cV [.ref 13, .int x1, .int x2] [] (ct_Dusk_92 rfl) d_Dusk_alone_62 rfl rfl (by decide) (Nat.le_of_ble_eq_true rfl) (rcA_o (c := 2) rfl (vA_s (by decide)) rfl (by decide) rfl) (ok_Dusk_sink (d := d) H) (fun h2 H => ?_)
    refine A_goto 75 d_Dusk_alone_65 (by decide) ?_
    exact A_ret d_Dusk_alone_75 rfl H
set_option maxRecDepth 20000 in
theorem r_Dusk_alone_53 {G : GG} {d : Nat} {Q : AH → Prop} (x1 : Int32) (x2 : Int32) (h : AH) (H : p_Dusk_alone_53 Q x1 x2 h) : Att G T1 m_Dusk_alone (d + 4) 53 [some (.ref 13), some (.int x1), some (.int x2), none] [] h 0 0 (vQ Q) := by
  refine A_iconst 0 (by decide) d_Dusk_alone_53 ?_
  exact r_Dusk_alone_54   _ _ _ _ H
set_option maxRecDepth 20000 in
theorem r_Dusk_alone_0 {G : GG} {d : Nat} {Q : AH → Prop} (x1 : Int32) (x2 : Int32) (h : AH) (H : p_Dusk_alone Q x1 x2 h) : Att G T1 m_Dusk_alone (d + 4) 0 [some (.ref 13), some (.int x1), some (.int x2), none] [] h 0 0 (vQ Q) := by
  refine A_aload_n d_Dusk_alone_0 rfl ?_
  refine A_get (v := .ref 14) d_Dusk_alone_1 (fo_Dusk_12_2 rfl) (vA_s (by decide)) rfl rfl ?_
  refine A_get (v := .ref 15) d_Dusk_alone_4 (fo_Dusk_78_10 rfl) (vA_s (by decide)) rfl rfl ?_
  refine A_iload_n d_Dusk_alone_7 rfl ?_
  obtain ⟨c1, H⟩ := H
  refine A_iald (n := 7) d_Dusk_alone_8 (vA_s (by decide)) rfl c1 ?_
  refine A_if_le 53 d_Dusk_alone_9 (by decide) (fun z => ?_) (fun z => ?_)
  · have H := H.1 z
    exact r_Dusk_alone_53   _ _ _ H
  · have H := H.2 z
    refine A_aload_n d_Dusk_alone_12 rfl ?_
    refine A_get (v := .ref 18) d_Dusk_alone_13 (fo_Dusk_20_2 rfl) (vA_s (by decide)) rfl rfl ?_
    refine A_iload_n d_Dusk_alone_16 rfl ?_
    obtain ⟨c2, H⟩ := H
    refine A_aald (t := 0) (n := 7) d_Dusk_alone_17 (by decide) (vA_s (by decide)) rfl c1 (pos_sub c2) ?_
    refine A_aload_n d_Dusk_alone_18 rfl ?_
    refine A_get (v := .ref 14) d_Dusk_alone_19 (fo_Dusk_12_2 rfl) (vA_s (by decide)) rfl rfl ?_
    refine A_get (v := .ref 15) d_Dusk_alone_22 (fo_Dusk_78_10 rfl) (vA_s (by decide)) rfl rfl ?_
    refine A_iload_n d_Dusk_alone_25 rfl ?_
    refine A_iald (n := 7) d_Dusk_alone_26 (vA_s (by decide)) rfl c1 ?_
    refine A_iload_n d_Dusk_alone_27 rfl ?_
    refine A_pv_isFree (d := d + 1) d_Dusk_alone_28 H (fun r3 h4 H => ?_)
    refine A_if_eq 53 d_Dusk_alone_31 (by decide) (fun z => ?_) (fun z => ?_)
    · have H := H.1 z
      exact r_Dusk_alone_53   _ _ _ H
    · have H := H.2 z
      refine A_aload_n d_Dusk_alone_34 rfl ?_
      refine A_iload_n d_Dusk_alone_35 rfl ?_
      refine A_iload_n d_Dusk_alone_36 rfl ?_
      refine A_cI [.ref 13, .int x1, .int x2] [] (ct_Dusk_85 rfl) d_Dusk_alone_37 rfl rfl (by decide) (Nat.le_of_ble_eq_true rfl) (rcA_o (c := 2) rfl (vA_s (by decide)) rfl (by decide) rfl) (ok_Dusk_weighs (d := d) H) (fun r6 h5 H => ?_)
      refine A_aload_n d_Dusk_alone_40 rfl ?_
      refine A_iload_n d_Dusk_alone_41 rfl ?_
      refine A_iload_n d_Dusk_alone_42 rfl ?_
      refine A_cI [.ref 13, .int x1, .int x2] [.int r6] (ct_Dusk_89 rfl) d_Dusk_alone_43 rfl rfl (by decide) (Nat.le_of_ble_eq_true rfl) (rcA_o (c := 2) rfl (vA_s (by decide)) rfl (by decide) rfl) (ok_Dusk_holds (d := d) H) (fun r8 h7 H => ?_)
      refine A_icmp_le 53 d_Dusk_alone_46 (by decide) (fun z => ?_) (fun z => ?_)
      · have H := H.1 z
        exact r_Dusk_alone_53   _ _ _ H
      · have H := H.2 z
        refine A_iconst 1 (by decide) d_Dusk_alone_49 ?_
        refine A_goto 54 d_Dusk_alone_50 (by decide) ?_
        exact r_Dusk_alone_54   _ _ _ _ H
set_option maxRecDepth 20000 in
theorem ok_Dusk_alone {G : GG} {d : Nat} {Q : AH → Prop} {x1 : Int32} {x2 : Int32} {h : AH} (H : p_Dusk_alone Q x1 x2 h) : WP G T1 m_Dusk_alone (d + 4) [.ref 13, .int x1, .int x2] h 0 0 (vQ Q) := by
  exact WP.enter 1 (by decide) rfl rfl (r_Dusk_alone_0 x1 x2 h H)
theorem d_Dusk_pair_0 : decode prog_4_method_7_code 0 = .ok (.aload_n 0, 1) := by decide +kernel
theorem d_Dusk_pair_1 : decode prog_4_method_7_code 1 = .ok (.getfield 12, 3) := by decide +kernel
theorem d_Dusk_pair_4 : decode prog_4_method_7_code 4 = .ok (.getfield 65, 3) := by decide +kernel
theorem d_Dusk_pair_7 : decode prog_4_method_7_code 7 = .ok (.iload_n 1, 1) := by decide +kernel
theorem d_Dusk_pair_8 : decode prog_4_method_7_code 8 = .ok (.iaload, 1) := by decide +kernel
theorem d_Dusk_pair_9 : decode prog_4_method_7_code 9 = .ok (.istore 4, 2) := by decide +kernel
theorem d_Dusk_pair_11 : decode prog_4_method_7_code 11 = .ok (.aload_n 0, 1) := by decide +kernel
theorem d_Dusk_pair_12 : decode prog_4_method_7_code 12 = .ok (.iload_n 1, 1) := by decide +kernel
theorem d_Dusk_pair_13 : decode prog_4_method_7_code 13 = .ok (.iload_n 2, 1) := by decide +kernel
theorem d_Dusk_pair_14 : decode prog_4_method_7_code 14 = .ok (.invokevirtual 85, 3) := by decide +kernel
theorem d_Dusk_pair_17 : decode prog_4_method_7_code 17 = .ok (.aload_n 0, 1) := by decide +kernel
theorem d_Dusk_pair_18 : decode prog_4_method_7_code 18 = .ok (.iload 4, 2) := by decide +kernel
theorem d_Dusk_pair_20 : decode prog_4_method_7_code 20 = .ok (.iload_n 2, 1) := by decide +kernel
theorem d_Dusk_pair_21 : decode prog_4_method_7_code 21 = .ok (.invokevirtual 85, 3) := by decide +kernel
theorem d_Dusk_pair_24 : decode prog_4_method_7_code 24 = .ok (.isub, 1) := by decide +kernel
theorem d_Dusk_pair_25 : decode prog_4_method_7_code 25 = .ok (.istore 5, 2) := by decide +kernel
theorem d_Dusk_pair_27 : decode prog_4_method_7_code 27 = .ok (.iload 5, 2) := by decide +kernel
theorem d_Dusk_pair_29 : decode prog_4_method_7_code 29 = .ok (.ifCond .le 7, 3) := by decide +kernel
theorem d_Dusk_pair_32 : decode prog_4_method_7_code 32 = .ok (.iload_n 1, 1) := by decide +kernel
theorem d_Dusk_pair_33 : decode prog_4_method_7_code 33 = .ok (.goto 5, 3) := by decide +kernel
theorem d_Dusk_pair_36 : decode prog_4_method_7_code 36 = .ok (.iload 4, 2) := by decide +kernel
theorem d_Dusk_pair_38 : decode prog_4_method_7_code 38 = .ok (.istore 6, 2) := by decide +kernel
theorem d_Dusk_pair_40 : decode prog_4_method_7_code 40 = .ok (.iload 5, 2) := by decide +kernel
theorem d_Dusk_pair_42 : decode prog_4_method_7_code 42 = .ok (.ifCond .le 8, 3) := by decide +kernel
theorem d_Dusk_pair_45 : decode prog_4_method_7_code 45 = .ok (.iload 4, 2) := by decide +kernel
theorem d_Dusk_pair_47 : decode prog_4_method_7_code 47 = .ok (.goto 4, 3) := by decide +kernel
theorem d_Dusk_pair_50 : decode prog_4_method_7_code 50 = .ok (.iload_n 1, 1) := by decide +kernel
theorem d_Dusk_pair_51 : decode prog_4_method_7_code 51 = .ok (.istore 7, 2) := by decide +kernel
theorem d_Dusk_pair_53 : decode prog_4_method_7_code 53 = .ok (.iload_n 3, 1) := by decide +kernel
theorem d_Dusk_pair_54 : decode prog_4_method_7_code 54 = .ok (.ifCond .ne 105, 3) := by decide +kernel
theorem d_Dusk_pair_57 : decode prog_4_method_7_code 57 = .ok (.aload_n 0, 1) := by decide +kernel
theorem d_Dusk_pair_58 : decode prog_4_method_7_code 58 = .ok (.getfield 12, 3) := by decide +kernel
theorem d_Dusk_pair_61 : decode prog_4_method_7_code 61 = .ok (.getfield 78, 3) := by decide +kernel
theorem d_Dusk_pair_64 : decode prog_4_method_7_code 64 = .ok (.iload 6, 2) := by decide +kernel
theorem d_Dusk_pair_66 : decode prog_4_method_7_code 66 = .ok (.iaload, 1) := by decide +kernel
theorem d_Dusk_pair_67 : decode prog_4_method_7_code 67 = .ok (.ifCond .le 92, 3) := by decide +kernel
theorem d_Dusk_pair_70 : decode prog_4_method_7_code 70 = .ok (.aload_n 0, 1) := by decide +kernel
theorem d_Dusk_pair_71 : decode prog_4_method_7_code 71 = .ok (.getfield 12, 3) := by decide +kernel
theorem d_Dusk_pair_74 : decode prog_4_method_7_code 74 = .ok (.getfield 78, 3) := by decide +kernel
theorem d_Dusk_pair_77 : decode prog_4_method_7_code 77 = .ok (.iload 7, 2) := by decide +kernel
theorem d_Dusk_pair_79 : decode prog_4_method_7_code 79 = .ok (.iaload, 1) := by decide +kernel
theorem d_Dusk_pair_80 : decode prog_4_method_7_code 80 = .ok (.bipush 9, 2) := by decide +kernel
theorem d_Dusk_pair_82 : decode prog_4_method_7_code 82 = .ok (.if_icmp .ge 77, 3) := by decide +kernel
theorem d_Dusk_pair_85 : decode prog_4_method_7_code 85 = .ok (.aload_n 0, 1) := by decide +kernel
theorem d_Dusk_pair_86 : decode prog_4_method_7_code 86 = .ok (.getfield 20, 3) := by decide +kernel
theorem d_Dusk_pair_89 : decode prog_4_method_7_code 89 = .ok (.iload 6, 2) := by decide +kernel
theorem d_Dusk_pair_91 : decode prog_4_method_7_code 91 = .ok (.aaload, 1) := by decide +kernel
theorem d_Dusk_pair_92 : decode prog_4_method_7_code 92 = .ok (.aload_n 0, 1) := by decide +kernel
theorem d_Dusk_pair_93 : decode prog_4_method_7_code 93 = .ok (.getfield 12, 3) := by decide +kernel
theorem d_Dusk_pair_96 : decode prog_4_method_7_code 96 = .ok (.getfield 78, 3) := by decide +kernel
theorem d_Dusk_pair_99 : decode prog_4_method_7_code 99 = .ok (.iload 6, 2) := by decide +kernel
theorem d_Dusk_pair_101 : decode prog_4_method_7_code 101 = .ok (.iaload, 1) := by decide +kernel
theorem d_Dusk_pair_102 : decode prog_4_method_7_code 102 = .ok (.iload_n 2, 1) := by decide +kernel
theorem d_Dusk_pair_103 : decode prog_4_method_7_code 103 = .ok (.invokevirtual 81, 3) := by decide +kernel
theorem d_Dusk_pair_106 : decode prog_4_method_7_code 106 = .ok (.ifCond .eq 53, 3) := by decide +kernel
theorem d_Dusk_pair_109 : decode prog_4_method_7_code 109 = .ok (.aload_n 0, 1) := by decide +kernel
theorem d_Dusk_pair_110 : decode prog_4_method_7_code 110 = .ok (.getfield 20, 3) := by decide +kernel
theorem d_Dusk_pair_113 : decode prog_4_method_7_code 113 = .ok (.iload 7, 2) := by decide +kernel
theorem d_Dusk_pair_115 : decode prog_4_method_7_code 115 = .ok (.aaload, 1) := by decide +kernel
theorem d_Dusk_pair_116 : decode prog_4_method_7_code 116 = .ok (.aload_n 0, 1) := by decide +kernel
theorem d_Dusk_pair_117 : decode prog_4_method_7_code 117 = .ok (.getfield 12, 3) := by decide +kernel
theorem d_Dusk_pair_120 : decode prog_4_method_7_code 120 = .ok (.getfield 78, 3) := by decide +kernel
theorem d_Dusk_pair_123 : decode prog_4_method_7_code 123 = .ok (.iload 7, 2) := by decide +kernel
theorem d_Dusk_pair_125 : decode prog_4_method_7_code 125 = .ok (.iaload, 1) := by decide +kernel
theorem d_Dusk_pair_126 : decode prog_4_method_7_code 126 = .ok (.iload_n 2, 1) := by decide +kernel
theorem d_Dusk_pair_127 : decode prog_4_method_7_code 127 = .ok (.invokevirtual 81, 3) := by decide +kernel
theorem d_Dusk_pair_130 : decode prog_4_method_7_code 130 = .ok (.ifCond .eq 29, 3) := by decide +kernel
theorem d_Dusk_pair_133 : decode prog_4_method_7_code 133 = .ok (.iload 5, 2) := by decide +kernel
theorem d_Dusk_pair_135 : decode prog_4_method_7_code 135 = .ok (.invokestatic 95, 3) := by decide +kernel
theorem d_Dusk_pair_138 : decode prog_4_method_7_code 138 = .ok (.aload_n 0, 1) := by decide +kernel
theorem d_Dusk_pair_139 : decode prog_4_method_7_code 139 = .ok (.iload_n 1, 1) := by decide +kernel
theorem d_Dusk_pair_140 : decode prog_4_method_7_code 140 = .ok (.iload_n 2, 1) := by decide +kernel
theorem d_Dusk_pair_141 : decode prog_4_method_7_code 141 = .ok (.invokevirtual 89, 3) := by decide +kernel
theorem d_Dusk_pair_144 : decode prog_4_method_7_code 144 = .ok (.aload_n 0, 1) := by decide +kernel
theorem d_Dusk_pair_145 : decode prog_4_method_7_code 145 = .ok (.iload 4, 2) := by decide +kernel
theorem d_Dusk_pair_147 : decode prog_4_method_7_code 147 = .ok (.iload_n 2, 1) := by decide +kernel
theorem d_Dusk_pair_148 : decode prog_4_method_7_code 148 = .ok (.invokevirtual 89, 3) := by decide +kernel
theorem d_Dusk_pair_151 : decode prog_4_method_7_code 151 = .ok (.iadd, 1) := by decide +kernel
theorem d_Dusk_pair_152 : decode prog_4_method_7_code 152 = .ok (.if_icmp .le 7, 3) := by decide +kernel
theorem d_Dusk_pair_155 : decode prog_4_method_7_code 155 = .ok (.iconst 1, 1) := by decide +kernel
theorem d_Dusk_pair_156 : decode prog_4_method_7_code 156 = .ok (.goto 4, 3) := by decide +kernel
theorem d_Dusk_pair_159 : decode prog_4_method_7_code 159 = .ok (.iconst 0, 1) := by decide +kernel
theorem d_Dusk_pair_160 : decode prog_4_method_7_code 160 = .ok (.istore 8, 2) := by decide +kernel
theorem d_Dusk_pair_162 : decode prog_4_method_7_code 162 = .ok (.iload 8, 2) := by decide +kernel
theorem d_Dusk_pair_164 : decode prog_4_method_7_code 164 = .ok (.ifCond .eq 19, 3) := by decide +kernel
theorem d_Dusk_pair_167 : decode prog_4_method_7_code 167 = .ok (.aload_n 0, 1) := by decide +kernel
theorem d_Dusk_pair_168 : decode prog_4_method_7_code 168 = .ok (.iload 6, 2) := by decide +kernel
theorem d_Dusk_pair_170 : decode prog_4_method_7_code 170 = .ok (.iload_n 2, 1) := by decide +kernel
theorem d_Dusk_pair_171 : decode prog_4_method_7_code 171 = .ok (.invokevirtual 92, 3) := by decide +kernel
theorem d_Dusk_pair_174 : decode prog_4_method_7_code 174 = .ok (.aload_n 0, 1) := by decide +kernel
theorem d_Dusk_pair_175 : decode prog_4_method_7_code 175 = .ok (.iload 7, 2) := by decide +kernel
theorem d_Dusk_pair_177 : decode prog_4_method_7_code 177 = .ok (.invokevirtual 101, 3) := by decide +kernel
theorem d_Dusk_pair_180 : decode prog_4_method_7_code 180 = .ok (.goto 18, 3) := by decide +kernel
theorem d_Dusk_pair_183 : decode prog_4_method_7_code 183 = .ok (.aload_n 0, 1) := by decide +kernel
theorem d_Dusk_pair_184 : decode prog_4_method_7_code 184 = .ok (.getfield 24, 3) := by decide +kernel
theorem d_Dusk_pair_187 : decode prog_4_method_7_code 187 = .ok (.iload_n 1, 1) := by decide +kernel
theorem d_Dusk_pair_188 : decode prog_4_method_7_code 188 = .ok (.iconst 0, 1) := by decide +kernel
theorem d_Dusk_pair_189 : decode prog_4_method_7_code 189 = .ok (.iastore, 1) := by decide +kernel
theorem d_Dusk_pair_190 : decode prog_4_method_7_code 190 = .ok (.aload_n 0, 1) := by decide +kernel
theorem d_Dusk_pair_191 : decode prog_4_method_7_code 191 = .ok (.getfield 24, 3) := by decide +kernel
theorem d_Dusk_pair_194 : decode prog_4_method_7_code 194 = .ok (.iload 4, 2) := by decide +kernel
theorem d_Dusk_pair_196 : decode prog_4_method_7_code 196 = .ok (.iconst 0, 1) := by decide +kernel
theorem d_Dusk_pair_197 : decode prog_4_method_7_code 197 = .ok (.iastore, 1) := by decide +kernel
theorem d_Dusk_pair_198 : decode prog_4_method_7_code 198 = .ok (.return_, 1) := by decide +kernel
def p_Dusk_pair_160 (Q : AH → Prop) (x1 : Int32) (x2 : Int32) (x4 : Int32) (x6 : Int32) (x7 : Int32) (s0 : Int32) (h : AH) : Prop := ((s0 = 0 → inb x1 7 ∧ inb x4 7 ∧ Q (wI (wI h 19 x1 0) 19 x4 0)) ∧ (¬ s0 = 0 → p_Dusk_sink (fun h3 => p_Dusk_rise (fun h4 => Q h4) x7 h3) x6 x2 h))
def p_Dusk_pair_159 (Q : AH → Prop) (x1 : Int32) (x2 : Int32) (x4 : Int32) (x6 : Int32) (x7 : Int32) (h : AH) : Prop := p_Dusk_pair_160 Q   x1 x2 x4 x6 x7 0 h
def p_Dusk_pair_51 (Q : AH → Prop) (x1 : Int32) (x2 : Int32) (x3 : Int32) (x4 : Int32) (x5 : Int32) (x6 : Int32) (s0 : Int32) (h : AH) : Prop := ((¬ x3 = 0 → p_Dusk_pair_159 Q   x1 x2 x4 x6 s0 h) ∧ (x3 = 0 → inb x6 7 ∧ (((h.1 15 x6) ≤ 0 → p_Dusk_pair_159 Q   x1 x2 x4 x6 s0 h) ∧ (¬ (h.1 15 x6) ≤ 0 → inb s0 7 ∧ ((9 ≤ (h.1 15 s0) → p_Dusk_pair_159 Q   x1 x2 x4 x6 s0 h) ∧ (¬ 9 ≤ (h.1 15 s0) → 0 < rR T1 h 18 x6.toNatClampNeg ∧ pv_isFree (fun r4 h5 => ((r4 = 0 → p_Dusk_pair_159 Q   x1 x2 x4 x6 s0 h5) ∧ (¬ r4 = 0 → inb s0 7 ∧ 0 < rR T1 h5 18 s0.toNatClampNeg ∧ pv_isFree (fun r8 h9 => ((r8 = 0 → p_Dusk_pair_159 Q   x1 x2 x4 x6 s0 h9) ∧ (¬ r8 = 0 → p_Math_abs (fun r11 h10 => p_Dusk_holds (fun r13 h12 => p_Dusk_holds (fun r15 h14 => ((r11 ≤ (r13 + r15) → p_Dusk_pair_159 Q   x1 x2 x4 x6 s0 h14) ∧ (¬ r11 ≤ (r13 + r15) → p_Dusk_pair_160 Q   x1 x2 x4 x6 s0 1 h14))) x4 x2 h12) x1 x2 h10) x5 h9))) (rR T1 h5 18 s0.toNatClampNeg - 1) (h5.1 15 s0) x2 h5))) (rR T1 h 18 x6.toNatClampNeg - 1) (h.1 15 x6) x2 h))))))
def p_Dusk_pair_38 (Q : AH → Prop) (x1 : Int32) (x2 : Int32) (x3 : Int32) (x4 : Int32) (x5 : Int32) (s0 : Int32) (h : AH) : Prop := ((x5 ≤ 0 → p_Dusk_pair_51 Q   x1 x2 x3 x4 x5 s0 x1 h) ∧ (¬ x5 ≤ 0 → p_Dusk_pair_51 Q   x1 x2 x3 x4 x5 s0 x4 h))
def p_Dusk_pair (Q : AH → Prop) (x1 : Int32) (x2 : Int32) (x3 : Int32) (h : AH) : Prop := inb x1 7 ∧ p_Dusk_weighs (fun r3 h2 => p_Dusk_weighs (fun r5 h4 => (((r3 - r5) ≤ 0 → p_Dusk_pair_38 Q   x1 x2 x3 (h.1 17 x1) (r3 - r5) (h.1 17 x1) h4) ∧ (¬ (r3 - r5) ≤ 0 → p_Dusk_pair_38 Q   x1 x2 x3 (h.1 17 x1) (r3 - r5) x1 h4))) (h.1 17 x1) x2 h2) x1 x2 h
set_option maxRecDepth 20000 in
theorem r_Dusk_pair_160 {G : GG} {d : Nat} {Q : AH → Prop} (x1 : Int32) (x2 : Int32) (x4 : Int32) (x6 : Int32) (x7 : Int32) (s0 : Int32) (h : AH) (H : p_Dusk_pair_160 Q x1 x2 x4 x6 x7 s0 h) : Att G T1 m_Dusk_pair (d + 4) 160 [some (.ref 13), some (.int x1), some (.int x2), none, some (.int x4), none, some (.int x6), some (.int x7), none] [.int s0] h 0 0 (vQ Q) := by
  refine A_istore [some (.ref 13), some (.int x1), some (.int x2), none, some (.int x4), none, some (.int x6), some (.int x7), some (.int s0)] d_Dusk_pair_160 (by decide) rfl rfl ?_
  refine A_iload d_Dusk_pair_162 rfl ?_
  refine A_if_eq 183 d_Dusk_pair_164 (by decide) (fun z => ?_) (fun z => ?_)
  · have H := H.1 z
    refine A_aload_n d_Dusk_pair_183 rfl ?_
    refine A_get (v := .ref 19) d_Dusk_pair_184 (fo_Dusk_24_2 rfl) (vA_s (by decide)) rfl rfl ?_
    refine A_iload_n d_Dusk_pair_187 rfl ?_
    refine A_iconst 0 (by decide) d_Dusk_pair_188 ?_
    obtain ⟨c1, H⟩ := H
    refine A_iast (n := 7) d_Dusk_pair_189 (vA_s (by decide)) rfl c1 ?_
    refine A_aload_n d_Dusk_pair_190 rfl ?_
    refine A_get (v := .ref 19) d_Dusk_pair_191 (fo_Dusk_24_2 rfl) (vA_s (by decide)) rfl rfl ?_
    refine A_iload d_Dusk_pair_194 rfl ?_
    refine A_iconst 0 (by decide) d_Dusk_pair_196 ?_
    obtain ⟨c2, H⟩ := H
    refine A_iast (n := 7) d_Dusk_pair_197 (vA_s (by decide)) rfl c2 ?_
    exact A_ret d_Dusk_pair_198 rfl H
  · have H := H.2 z
    refine A_aload_n d_Dusk_pair_167 rfl ?_
    refine A_iload d_Dusk_pair_168 rfl ?_
    refine A_iload_n d_Dusk_pair_170 rfl ?_
    refine A_cV [.ref 13, .int x6, .int x2] [] (ct_Dusk_92 rfl) d_Dusk_pair_171 rfl rfl (by decide) (Nat.le_of_ble_eq_true rfl) (rcA_o (c := 2) rfl (vA_s (by decide)) rfl (by decide) rfl) (ok_Dusk_sink (d := d) H) (fun h3 H => ?_)
    refine A_aload_n d_Dusk_pair_174 rfl ?_
    refine A_iload d_Dusk_pair_175 rfl ?_
    refine A_cV [.ref 13, .int x7] [] (ct_Dusk_101 rfl) d_Dusk_pair_177 rfl rfl (by decide) (Nat.le_of_ble_eq_true rfl) (rcA_o (c := 2) rfl (vA_s (by decide)) rfl (by decide) rfl) (ok_Dusk_rise (d := d + 3) H) (fun h4 H => ?_)
    refine A_goto 198 d_Dusk_pair_180 (by decide) ?_
    exact A_ret d_Dusk_pair_198 rfl H
set_option maxRecDepth 20000 in
theorem r_Dusk_pair_159 {G : GG} {d : Nat} {Q : AH → Prop} (x1 : Int32) (x2 : Int32) (x4 : Int32) (x6 : Int32) (x7 : Int32) (h : AH) (H : p_Dusk_pair_159 Q x1 x2 x4 x6 x7 h) : Att G T1 m_Dusk_pair (d + 4) 159 [some (.ref 13), some (.int x1), some (.int x2), none, some (.int x4), none, some (.int x6), some (.int x7), none] [] h 0 0 (vQ Q) := by
  refine A_iconst 0 (by decide) d_Dusk_pair_159 ?_
  exact r_Dusk_pair_160   _ _ _ _ _ _ _ H
set_option maxRecDepth 20000 in
theorem r_Dusk_pair_51 {G : GG} {d : Nat} {Q : AH → Prop} (x1 : Int32) (x2 : Int32) (x3 : Int32) (x4 : Int32) (x5 : Int32) (x6 : Int32) (s0 : Int32) (h : AH) (H : p_Dusk_pair_51 Q x1 x2 x3 x4 x5 x6 s0 h) : Att G T1 m_Dusk_pair (d + 4) 51 [some (.ref 13), some (.int x1), some (.int x2), some (.int x3), some (.int x4), some (.int x5), some (.int x6), none, none] [.int s0] h 0 0 (vQ Q) := by
  refine A_istore [some (.ref 13), some (.int x1), some (.int x2), some (.int x3), some (.int x4), some (.int x5), some (.int x6), some (.int s0), none] d_Dusk_pair_51 (by decide) rfl rfl ?_
  refine A_iload_n d_Dusk_pair_53 rfl ?_
  refine A_if_ne 159 d_Dusk_pair_54 (by decide) (fun z => ?_) (fun z => ?_)
  · have H := H.1 z
    refine A_sub (L' := [some (.ref 13), some (.int x1), some (.int x2), none, some (.int x4), none, some (.int x6), some (.int s0), none]) ⟨rfl, rfl, rfl, rfl, rfl, rfl, trivial⟩ ?_
    exact r_Dusk_pair_159   _ _ _ _ _ _ H
  · have H := H.2 z
    refine A_aload_n d_Dusk_pair_57 rfl ?_
    refine A_get (v := .ref 14) d_Dusk_pair_58 (fo_Dusk_12_2 rfl) (vA_s (by decide)) rfl rfl ?_
    refine A_get (v := .ref 15) d_Dusk_pair_61 (fo_Dusk_78_10 rfl) (vA_s (by decide)) rfl rfl ?_
    refine A_iload d_Dusk_pair_64 rfl ?_
    obtain ⟨c1, H⟩ := H
    refine A_iald (n := 7) d_Dusk_pair_66 (vA_s (by decide)) rfl c1 ?_
    refine A_if_le 159 d_Dusk_pair_67 (by decide) (fun z => ?_) (fun z => ?_)
    · have H := H.1 z
      refine A_sub (L' := [some (.ref 13), some (.int x1), some (.int x2), none, some (.int x4), none, some (.int x6), some (.int s0), none]) ⟨rfl, rfl, rfl, rfl, rfl, rfl, trivial⟩ ?_
      exact r_Dusk_pair_159   _ _ _ _ _ _ H
    · have H := H.2 z
      refine A_aload_n d_Dusk_pair_70 rfl ?_
      refine A_get (v := .ref 14) d_Dusk_pair_71 (fo_Dusk_12_2 rfl) (vA_s (by decide)) rfl rfl ?_
      refine A_get (v := .ref 15) d_Dusk_pair_74 (fo_Dusk_78_10 rfl) (vA_s (by decide)) rfl rfl ?_
      refine A_iload d_Dusk_pair_77 rfl ?_
      obtain ⟨c2, H⟩ := H
      refine A_iald (n := 7) d_Dusk_pair_79 (vA_s (by decide)) rfl c2 ?_
      refine A_bipush 9 (by decide) d_Dusk_pair_80 ?_
      refine A_icmp_ge 159 d_Dusk_pair_82 (by decide) (fun z => ?_) (fun z => ?_)
      · have H := H.1 z
        refine A_sub (L' := [some (.ref 13), some (.int x1), some (.int x2), none, some (.int x4), none, some (.int x6), some (.int s0), none]) ⟨rfl, rfl, rfl, rfl, rfl, rfl, trivial⟩ ?_
        exact r_Dusk_pair_159   _ _ _ _ _ _ H
      · have H := H.2 z
        refine A_aload_n d_Dusk_pair_85 rfl ?_
        refine A_get (v := .ref 18) d_Dusk_pair_86 (fo_Dusk_20_2 rfl) (vA_s (by decide)) rfl rfl ?_
        refine A_iload d_Dusk_pair_89 rfl ?_
        obtain ⟨c3, H⟩ := H
        refine A_aald (t := 0) (n := 7) d_Dusk_pair_91 (by decide) (vA_s (by decide)) rfl c1 (pos_sub c3) ?_
        refine A_aload_n d_Dusk_pair_92 rfl ?_
        refine A_get (v := .ref 14) d_Dusk_pair_93 (fo_Dusk_12_2 rfl) (vA_s (by decide)) rfl rfl ?_
        refine A_get (v := .ref 15) d_Dusk_pair_96 (fo_Dusk_78_10 rfl) (vA_s (by decide)) rfl rfl ?_
        refine A_iload d_Dusk_pair_99 rfl ?_
        refine A_iald (n := 7) d_Dusk_pair_101 (vA_s (by decide)) rfl c1 ?_
        refine A_iload_n d_Dusk_pair_102 rfl ?_
        refine A_pv_isFree (d := d + 1) d_Dusk_pair_103 H (fun r4 h5 H => ?_)
        refine A_if_eq 159 d_Dusk_pair_106 (by decide) (fun z => ?_) (fun z => ?_)
        · have H := H.1 z
          refine A_sub (L' := [some (.ref 13), some (.int x1), some (.int x2), none, some (.int x4), none, some (.int x6), some (.int s0), none]) ⟨rfl, rfl, rfl, rfl, rfl, rfl, trivial⟩ ?_
          exact r_Dusk_pair_159   _ _ _ _ _ _ H
        · have H := H.2 z
          refine A_aload_n d_Dusk_pair_109 rfl ?_
          refine A_get (v := .ref 18) d_Dusk_pair_110 (fo_Dusk_20_2 rfl) (vA_s (by decide)) rfl rfl ?_
          refine A_iload d_Dusk_pair_113 rfl ?_
          obtain ⟨c6, H⟩ := H
          obtain ⟨c7, H⟩ := H
          refine A_aald (t := 0) (n := 7) d_Dusk_pair_115 (by decide) (vA_s (by decide)) rfl c6 (pos_sub c7) ?_
          refine A_aload_n d_Dusk_pair_116 rfl ?_
          refine A_get (v := .ref 14) d_Dusk_pair_117 (fo_Dusk_12_2 rfl) (vA_s (by decide)) rfl rfl ?_
          refine A_get (v := .ref 15) d_Dusk_pair_120 (fo_Dusk_78_10 rfl) (vA_s (by decide)) rfl rfl ?_
          refine A_iload d_Dusk_pair_123 rfl ?_
          refine A_iald (n := 7) d_Dusk_pair_125 (vA_s (by decide)) rfl c6 ?_
          refine A_iload_n d_Dusk_pair_126 rfl ?_
          refine A_pv_isFree (d := d + 1) d_Dusk_pair_127 H (fun r8 h9 H => ?_)
          refine A_if_eq 159 d_Dusk_pair_130 (by decide) (fun z => ?_) (fun z => ?_)
          · have H := H.1 z
            refine A_sub (L' := [some (.ref 13), some (.int x1), some (.int x2), none, some (.int x4), none, some (.int x6), some (.int s0), none]) ⟨rfl, rfl, rfl, rfl, rfl, rfl, trivial⟩ ?_
            exact r_Dusk_pair_159   _ _ _ _ _ _ H
          · have H := H.2 z
            refine A_iload d_Dusk_pair_133 rfl ?_
            refine A_cI [.int x5] [] (ct_Dusk_95 rfl) d_Dusk_pair_135 rfl rfl (by decide) (Nat.le_of_ble_eq_true rfl) trivial (ok_Math_abs (d := d + 3) H) (fun r11 h10 H => ?_)
            refine A_aload_n d_Dusk_pair_138 rfl ?_
            refine A_iload_n d_Dusk_pair_139 rfl ?_
            refine A_iload_n d_Dusk_pair_140 rfl ?_
            refine A_cI [.ref 13, .int x1, .int x2] [.int r11] (ct_Dusk_89 rfl) d_Dusk_pair_141 rfl rfl (by decide) (Nat.le_of_ble_eq_true rfl) (rcA_o (c := 2) rfl (vA_s (by decide)) rfl (by decide) rfl) (ok_Dusk_holds (d := d) H) (fun r13 h12 H => ?_)
            refine A_aload_n d_Dusk_pair_144 rfl ?_
            refine A_iload d_Dusk_pair_145 rfl ?_
            refine A_iload_n d_Dusk_pair_147 rfl ?_
            refine A_cI [.ref 13, .int x4, .int x2] [.int r13, .int r11] (ct_Dusk_89 rfl) d_Dusk_pair_148 rfl rfl (by decide) (Nat.le_of_ble_eq_true rfl) (rcA_o (c := 2) rfl (vA_s (by decide)) rfl (by decide) rfl) (ok_Dusk_holds (d := d) H) (fun r15 h14 H => ?_)
            refine A_iadd d_Dusk_pair_151 ?_
            refine A_icmp_le 159 d_Dusk_pair_152 (by decide) (fun z => ?_) (fun z => ?_)
            · have H := H.1 z
              refine A_sub (L' := [some (.ref 13), some (.int x1), some (.int x2), none, some (.int x4), none, some (.int x6), some (.int s0), none]) ⟨rfl, rfl, rfl, rfl, rfl, rfl, trivial⟩ ?_
              exact r_Dusk_pair_159   _ _ _ _ _ _ H
            · have H := H.2 z
              refine A_iconst 1 (by decide) d_Dusk_pair_155 ?_
              refine A_goto 160 d_Dusk_pair_156 (by decide) ?_
              refine A_sub (L' := [some (.ref 13), some (.int x1), some (.int x2), none, some (.int x4), none, some (.int x6), some (.int s0), none]) ⟨rfl, rfl, rfl, rfl, rfl, rfl, trivial⟩ ?_
              exact r_Dusk_pair_160   _ _ _ _ _ _ _ H
set_option maxRecDepth 20000 in
theorem r_Dusk_pair_38 {G : GG} {d : Nat} {Q : AH → Prop} (x1 : Int32) (x2 : Int32) (x3 : Int32) (x4 : Int32) (x5 : Int32) (s0 : Int32) (h : AH) (H : p_Dusk_pair_38 Q x1 x2 x3 x4 x5 s0 h) : Att G T1 m_Dusk_pair (d + 4) 38 [some (.ref 13), some (.int x1), some (.int x2), some (.int x3), some (.int x4), some (.int x5), none, none, none] [.int s0] h 0 0 (vQ Q) := by
  refine A_istore [some (.ref 13), some (.int x1), some (.int x2), some (.int x3), some (.int x4), some (.int x5), some (.int s0), none, none] d_Dusk_pair_38 (by decide) rfl rfl ?_
  refine A_iload d_Dusk_pair_40 rfl ?_
  refine A_if_le 50 d_Dusk_pair_42 (by decide) (fun z => ?_) (fun z => ?_)
  · have H := H.1 z
    refine A_iload_n d_Dusk_pair_50 rfl ?_
    exact r_Dusk_pair_51   _ _ _ _ _ _ _ _ H
  · have H := H.2 z
    refine A_iload d_Dusk_pair_45 rfl ?_
    refine A_goto 51 d_Dusk_pair_47 (by decide) ?_
    exact r_Dusk_pair_51   _ _ _ _ _ _ _ _ H
set_option maxRecDepth 20000 in
theorem r_Dusk_pair_0 {G : GG} {d : Nat} {Q : AH → Prop} (x1 : Int32) (x2 : Int32) (x3 : Int32) (h : AH) (H : p_Dusk_pair Q x1 x2 x3 h) : Att G T1 m_Dusk_pair (d + 4) 0 [some (.ref 13), some (.int x1), some (.int x2), some (.int x3), none, none, none, none, none] [] h 0 0 (vQ Q) := by
  refine A_aload_n d_Dusk_pair_0 rfl ?_
  refine A_get (v := .ref 14) d_Dusk_pair_1 (fo_Dusk_12_2 rfl) (vA_s (by decide)) rfl rfl ?_
  refine A_get (v := .ref 17) d_Dusk_pair_4 (fo_Dusk_65_10 rfl) (vA_s (by decide)) rfl rfl ?_
  refine A_iload_n d_Dusk_pair_7 rfl ?_
  obtain ⟨c1, H⟩ := H
  refine A_iald (n := 7) d_Dusk_pair_8 (vA_s (by decide)) rfl c1 ?_
  refine A_istore [some (.ref 13), some (.int x1), some (.int x2), some (.int x3), some (.int (h.1 17 x1)), none, none, none, none] d_Dusk_pair_9 (by decide) rfl rfl ?_
  refine A_aload_n d_Dusk_pair_11 rfl ?_
  refine A_iload_n d_Dusk_pair_12 rfl ?_
  refine A_iload_n d_Dusk_pair_13 rfl ?_
  refine A_cI [.ref 13, .int x1, .int x2] [] (ct_Dusk_85 rfl) d_Dusk_pair_14 rfl rfl (by decide) (Nat.le_of_ble_eq_true rfl) (rcA_o (c := 2) rfl (vA_s (by decide)) rfl (by decide) rfl) (ok_Dusk_weighs (d := d) H) (fun r3 h2 H => ?_)
  refine A_aload_n d_Dusk_pair_17 rfl ?_
  refine A_iload d_Dusk_pair_18 rfl ?_
  refine A_iload_n d_Dusk_pair_20 rfl ?_
  refine A_cI [.ref 13, .int (h.1 17 x1), .int x2] [.int r3] (ct_Dusk_85 rfl) d_Dusk_pair_21 rfl rfl (by decide) (Nat.le_of_ble_eq_true rfl) (rcA_o (c := 2) rfl (vA_s (by decide)) rfl (by decide) rfl) (ok_Dusk_weighs (d := d) H) (fun r5 h4 H => ?_)
  refine A_isub d_Dusk_pair_24 ?_
  refine A_istore [some (.ref 13), some (.int x1), some (.int x2), some (.int x3), some (.int (h.1 17 x1)), some (.int (r3 - r5)), none, none, none] d_Dusk_pair_25 (by decide) rfl rfl ?_
  refine A_iload d_Dusk_pair_27 rfl ?_
  refine A_if_le 36 d_Dusk_pair_29 (by decide) (fun z => ?_) (fun z => ?_)
  · have H := H.1 z
    refine A_iload d_Dusk_pair_36 rfl ?_
    exact r_Dusk_pair_38   _ _ _ _ _ _ _ H
  · have H := H.2 z
    refine A_iload_n d_Dusk_pair_32 rfl ?_
    refine A_goto 38 d_Dusk_pair_33 (by decide) ?_
    exact r_Dusk_pair_38   _ _ _ _ _ _ _ H
set_option maxRecDepth 20000 in
theorem ok_Dusk_pair {G : GG} {d : Nat} {Q : AH → Prop} {x1 : Int32} {x2 : Int32} {x3 : Int32} {h : AH} (H : p_Dusk_pair Q x1 x2 x3 h) : WP G T1 m_Dusk_pair (d + 4) [.ref 13, .int x1, .int x2, .int x3] h 0 0 (vQ Q) := by
  exact WP.enter 5 (by decide) rfl rfl (r_Dusk_pair_0 x1 x2 x3 h H)
theorem d_MO_text_0 : decode prog_14_method_22_code 0 = .ok (.aload_n 0, 1) := by decide +kernel
theorem d_MO_text_1 : decode prog_14_method_22_code 1 = .ok (.getfield 107, 3) := by decide +kernel
theorem d_MO_text_4 : decode prog_14_method_22_code 4 = .ok (.bipush 6, 2) := by decide +kernel
theorem d_MO_text_6 : decode prog_14_method_22_code 6 = .ok (.if_icmp .ne 6, 3) := by decide +kernel
theorem d_MO_text_9 : decode prog_14_method_22_code 9 = .ok (.bipush (-4), 2) := by decide +kernel
theorem d_MO_text_11 : decode prog_14_method_22_code 11 = .ok (.ireturn, 1) := by decide +kernel
theorem d_MO_text_12 : decode prog_14_method_22_code 12 = .ok (.aload_n 0, 1) := by decide +kernel
theorem d_MO_text_13 : decode prog_14_method_22_code 13 = .ok (.iconst 0, 1) := by decide +kernel
theorem d_MO_text_14 : decode prog_14_method_22_code 14 = .ok (.putfield 116, 3) := by decide +kernel
theorem d_MO_text_17 : decode prog_14_method_22_code 17 = .ok (.aload_n 0, 1) := by decide +kernel
theorem d_MO_text_18 : decode prog_14_method_22_code 18 = .ok (.iconst 0, 1) := by decide +kernel
theorem d_MO_text_19 : decode prog_14_method_22_code 19 = .ok (.putfield 132, 3) := by decide +kernel
theorem d_MO_text_22 : decode prog_14_method_22_code 22 = .ok (.iconst 1, 1) := by decide +kernel
theorem d_MO_text_23 : decode prog_14_method_22_code 23 = .ok (.istore_n 1, 1) := by decide +kernel
theorem d_MO_text_24 : decode prog_14_method_22_code 24 = .ok (.iconst 0, 1) := by decide +kernel
theorem d_MO_text_25 : decode prog_14_method_22_code 25 = .ok (.istore_n 2, 1) := by decide +kernel
theorem d_MO_text_26 : decode prog_14_method_22_code 26 = .ok (.iload_n 2, 1) := by decide +kernel
theorem d_MO_text_27 : decode prog_14_method_22_code 27 = .ok (.iconst 3, 1) := by decide +kernel
theorem d_MO_text_28 : decode prog_14_method_22_code 28 = .ok (.if_icmp .ge 73, 3) := by decide +kernel
theorem d_MO_text_31 : decode prog_14_method_22_code 31 = .ok (.iload_n 1, 1) := by decide +kernel
theorem d_MO_text_32 : decode prog_14_method_22_code 32 = .ok (.ifCond .eq 69, 3) := by decide +kernel
theorem d_MO_text_35 : decode prog_14_method_22_code 35 = .ok (.aload_n 0, 1) := by decide +kernel
theorem d_MO_text_36 : decode prog_14_method_22_code 36 = .ok (.invokevirtual 155, 3) := by decide +kernel
theorem d_MO_text_39 : decode prog_14_method_22_code 39 = .ok (.aload_n 0, 1) := by decide +kernel
theorem d_MO_text_40 : decode prog_14_method_22_code 40 = .ok (.getfield 122, 3) := by decide +kernel
theorem d_MO_text_43 : decode prog_14_method_22_code 43 = .ok (.iconst 3, 1) := by decide +kernel
theorem d_MO_text_44 : decode prog_14_method_22_code 44 = .ok (.if_icmp .ne 15, 3) := by decide +kernel
theorem d_MO_text_47 : decode prog_14_method_22_code 47 = .ok (.aload_n 0, 1) := by decide +kernel
theorem d_MO_text_48 : decode prog_14_method_22_code 48 = .ok (.getfield 125, 3) := by decide +kernel
theorem d_MO_text_51 : decode prog_14_method_22_code 51 = .ok (.iload_n 2, 1) := by decide +kernel
theorem d_MO_text_52 : decode prog_14_method_22_code 52 = .ok (.if_icmp .ne 7, 3) := by decide +kernel
theorem d_MO_text_55 : decode prog_14_method_22_code 55 = .ok (.iconst 1, 1) := by decide +kernel
theorem d_MO_text_56 : decode prog_14_method_22_code 56 = .ok (.goto 4, 3) := by decide +kernel
theorem d_MO_text_59 : decode prog_14_method_22_code 59 = .ok (.iconst 0, 1) := by decide +kernel
theorem d_MO_text_60 : decode prog_14_method_22_code 60 = .ok (.istore_n 1, 1) := by decide +kernel
theorem d_MO_text_61 : decode prog_14_method_22_code 61 = .ok (.aload_n 0, 1) := by decide +kernel
theorem d_MO_text_62 : decode prog_14_method_22_code 62 = .ok (.getfield 34, 3) := by decide +kernel
theorem d_MO_text_65 : decode prog_14_method_22_code 65 = .ok (.iconst 4, 1) := by decide +kernel
theorem d_MO_text_66 : decode prog_14_method_22_code 66 = .ok (.aload_n 0, 1) := by decide +kernel
theorem d_MO_text_67 : decode prog_14_method_22_code 67 = .ok (.getfield 107, 3) := by decide +kernel
theorem d_MO_text_70 : decode prog_14_method_22_code 70 = .ok (.imul, 1) := by decide +kernel
theorem d_MO_text_71 : decode prog_14_method_22_code 71 = .ok (.iload_n 2, 1) := by decide +kernel
theorem d_MO_text_72 : decode prog_14_method_22_code 72 = .ok (.iadd, 1) := by decide +kernel
theorem d_MO_text_73 : decode prog_14_method_22_code 73 = .ok (.aload_n 0, 1) := by decide +kernel
theorem d_MO_text_74 : decode prog_14_method_22_code 74 = .ok (.getfield 132, 3) := by decide +kernel
theorem d_MO_text_77 : decode prog_14_method_22_code 77 = .ok (.iastore, 1) := by decide +kernel
theorem d_MO_text_78 : decode prog_14_method_22_code 78 = .ok (.iload_n 1, 1) := by decide +kernel
theorem d_MO_text_79 : decode prog_14_method_22_code 79 = .ok (.ifCond .eq 14, 3) := by decide +kernel
theorem d_MO_text_82 : decode prog_14_method_22_code 82 = .ok (.aload_n 0, 1) := by decide +kernel
theorem d_MO_text_83 : decode prog_14_method_22_code 83 = .ok (.invokevirtual 168, 3) := by decide +kernel
theorem d_MO_text_86 : decode prog_14_method_22_code 86 = .ok (.ifCond .eq 7, 3) := by decide +kernel
theorem d_MO_text_89 : decode prog_14_method_22_code 89 = .ok (.iconst 1, 1) := by decide +kernel
theorem d_MO_text_90 : decode prog_14_method_22_code 90 = .ok (.goto 4, 3) := by decide +kernel
theorem d_MO_text_93 : decode prog_14_method_22_code 93 = .ok (.iconst 0, 1) := by decide +kernel
theorem d_MO_text_94 : decode prog_14_method_22_code 94 = .ok (.istore_n 1, 1) := by decide +kernel
theorem d_MO_text_95 : decode prog_14_method_22_code 95 = .ok (.iinc 2 1, 3) := by decide +kernel
theorem d_MO_text_98 : decode prog_14_method_22_code 98 = .ok (.goto (-72), 3) := by decide +kernel
theorem d_MO_text_101 : decode prog_14_method_22_code 101 = .ok (.iload_n 1, 1) := by decide +kernel
theorem d_MO_text_102 : decode prog_14_method_22_code 102 = .ok (.ifCond .eq 20, 3) := by decide +kernel
theorem d_MO_text_105 : decode prog_14_method_22_code 105 = .ok (.aload_n 0, 1) := by decide +kernel
theorem d_MO_text_106 : decode prog_14_method_22_code 106 = .ok (.invokevirtual 155, 3) := by decide +kernel
theorem d_MO_text_109 : decode prog_14_method_22_code 109 = .ok (.aload_n 0, 1) := by decide +kernel
theorem d_MO_text_110 : decode prog_14_method_22_code 110 = .ok (.getfield 122, 3) := by decide +kernel
theorem d_MO_text_113 : decode prog_14_method_22_code 113 = .ok (.ifCond .ne 7, 3) := by decide +kernel
theorem d_MO_text_116 : decode prog_14_method_22_code 116 = .ok (.iconst 1, 1) := by decide +kernel
theorem d_MO_text_117 : decode prog_14_method_22_code 117 = .ok (.goto 4, 3) := by decide +kernel
theorem d_MO_text_120 : decode prog_14_method_22_code 120 = .ok (.iconst 0, 1) := by decide +kernel
theorem d_MO_text_121 : decode prog_14_method_22_code 121 = .ok (.istore_n 1, 1) := by decide +kernel
theorem d_MO_text_122 : decode prog_14_method_22_code 122 = .ok (.aload_n 0, 1) := by decide +kernel
theorem d_MO_text_123 : decode prog_14_method_22_code 123 = .ok (.getfield 34, 3) := by decide +kernel
theorem d_MO_text_126 : decode prog_14_method_22_code 126 = .ok (.iconst 4, 1) := by decide +kernel
theorem d_MO_text_127 : decode prog_14_method_22_code 127 = .ok (.aload_n 0, 1) := by decide +kernel
theorem d_MO_text_128 : decode prog_14_method_22_code 128 = .ok (.getfield 107, 3) := by decide +kernel
theorem d_MO_text_131 : decode prog_14_method_22_code 131 = .ok (.imul, 1) := by decide +kernel
theorem d_MO_text_132 : decode prog_14_method_22_code 132 = .ok (.iconst 3, 1) := by decide +kernel
theorem d_MO_text_133 : decode prog_14_method_22_code 133 = .ok (.iadd, 1) := by decide +kernel
theorem d_MO_text_134 : decode prog_14_method_22_code 134 = .ok (.aload_n 0, 1) := by decide +kernel
theorem d_MO_text_135 : decode prog_14_method_22_code 135 = .ok (.getfield 132, 3) := by decide +kernel
theorem d_MO_text_138 : decode prog_14_method_22_code 138 = .ok (.iastore, 1) := by decide +kernel
theorem d_MO_text_139 : decode prog_14_method_22_code 139 = .ok (.aload_n 0, 1) := by decide +kernel
theorem d_MO_text_140 : decode prog_14_method_22_code 140 = .ok (.iconst 0, 1) := by decide +kernel
theorem d_MO_text_141 : decode prog_14_method_22_code 141 = .ok (.putfield 82, 3) := by decide +kernel
theorem d_MO_text_144 : decode prog_14_method_22_code 144 = .ok (.iload_n 1, 1) := by decide +kernel
theorem d_MO_text_145 : decode prog_14_method_22_code 145 = .ok (.ifCond .ne 11, 3) := by decide +kernel
theorem d_MO_text_148 : decode prog_14_method_22_code 148 = .ok (.bipush (-100), 2) := by decide +kernel
theorem d_MO_text_150 : decode prog_14_method_22_code 150 = .ok (.aload_n 0, 1) := by decide +kernel
theorem d_MO_text_151 : decode prog_14_method_22_code 151 = .ok (.getfield 119, 3) := by decide +kernel
theorem d_MO_text_154 : decode prog_14_method_22_code 154 = .ok (.isub, 1) := by decide +kernel
theorem d_MO_text_155 : decode prog_14_method_22_code 155 = .ok (.ireturn, 1) := by decide +kernel
theorem d_MO_text_156 : decode prog_14_method_22_code 156 = .ok (.aload_n 0, 1) := by decide +kernel
theorem d_MO_text_157 : decode prog_14_method_22_code 157 = .ok (.dup, 1) := by decide +kernel
theorem d_MO_text_158 : decode prog_14_method_22_code 158 = .ok (.getfield 107, 3) := by decide +kernel
theorem d_MO_text_161 : decode prog_14_method_22_code 161 = .ok (.iconst 1, 1) := by decide +kernel
theorem d_MO_text_162 : decode prog_14_method_22_code 162 = .ok (.iadd, 1) := by decide +kernel
theorem d_MO_text_163 : decode prog_14_method_22_code 163 = .ok (.putfield 107, 3) := by decide +kernel
theorem d_MO_text_166 : decode prog_14_method_22_code 166 = .ok (.aload_n 0, 1) := by decide +kernel
theorem d_MO_text_167 : decode prog_14_method_22_code 167 = .ok (.getfield 107, 3) := by decide +kernel
theorem d_MO_text_170 : decode prog_14_method_22_code 170 = .ok (.iconst 1, 1) := by decide +kernel
theorem d_MO_text_171 : decode prog_14_method_22_code 171 = .ok (.isub, 1) := by decide +kernel
theorem d_MO_text_172 : decode prog_14_method_22_code 172 = .ok (.ireturn, 1) := by decide +kernel
def p_MO_text_122 (Q : Int32 → AH → Prop) (x1 : Int32) (h : AH) : Prop := inb ((4 * (h.1 59 11)) + 3) 24 ∧ ((¬ x1 = 0 → Q (((wI (wI (wI h 68 ((4 * (h.1 59 11)) + 3) (h.1 59 29)) 59 8 0) 59 11 (((wI (wI h 68 ((4 * (h.1 59 11)) + 3) (h.1 59 29)) 59 8 0).1 59 11) + 1)).1 59 11) - 1) (wI (wI (wI h 68 ((4 * (h.1 59 11)) + 3) (h.1 59 29)) 59 8 0) 59 11 (((wI (wI h 68 ((4 * (h.1 59 11)) + 3) (h.1 59 29)) 59 8 0).1 59 11) + 1))) ∧ (x1 = 0 → Q ((-100) - ((wI (wI h 68 ((4 * (h.1 59 11)) + 3) (h.1 59 29)) 59 8 0).1 59 22)) (wI (wI h 68 ((4 * (h.1 59 11)) + 3) (h.1 59 29)) 59 8 0)))
def p_MO_text_121 (Q : Int32 → AH → Prop) (s0 : Int32) (h : AH) : Prop := p_MO_text_122 Q   s0 h
def p_MO_text_101 (Q : Int32 → AH → Prop) (x1 : Int32) (h : AH) : Prop := ((x1 = 0 → p_MO_text_122 Q   x1 h) ∧ (¬ x1 = 0 → p_MO_next (fun h1 => ((¬ (h1.1 59 23) = 0 → p_MO_text_121 Q   0 h1) ∧ ((h1.1 59 23) = 0 → p_MO_text_121 Q   1 h1))) h))
def p_MO_text_94 (Q : Int32 → AH → Prop) (K26 : Int32 → Int32 → AH → Prop) (x2 : Int32) (s0 : Int32) (h : AH) : Prop := K26 s0 (x2 + 1) h
def p_MO_text_93 (Q : Int32 → AH → Prop) (K26 : Int32 → Int32 → AH → Prop) (x2 : Int32) (h : AH) : Prop := p_MO_text_94 Q  K26 x2 0 h
def p_MO_text_60 (Q : Int32 → AH → Prop) (K26 : Int32 → Int32 → AH → Prop) (x2 : Int32) (s0 : Int32) (h : AH) : Prop := inb ((4 * (h.1 59 11)) + x2) 24 ∧ ((s0 = 0 → p_MO_text_93 Q  K26 x2 (wI h 68 ((4 * (h.1 59 11)) + x2) (h.1 59 29))) ∧ (¬ s0 = 0 → p_MO_eRead (fun r3 h2 => ((r3 = 0 → p_MO_text_93 Q  K26 x2 h2) ∧ (¬ r3 = 0 → p_MO_text_94 Q  K26 x2 1 h2))) (wI h 68 ((4 * (h.1 59 11)) + x2) (h.1 59 29))))
def p_MO_text_59 (Q : Int32 → AH → Prop) (K26 : Int32 → Int32 → AH → Prop) (x2 : Int32) (h : AH) : Prop := p_MO_text_60 Q  K26 x2 0 h
def p_MO_text_26 (Q : Int32 → AH → Prop) : Nat → Int32 → Int32 → AH → Prop
  | 0 => fun _ _ _ => False
  | n + 1 => fun x1 x2 h => let K26 := p_MO_text_26 Q n; ((3 ≤ x2 → p_MO_text_101 Q   x1 h) ∧ (¬ 3 ≤ x2 → ((x1 = 0 → p_MO_text_101 Q   x1 h) ∧ (¬ x1 = 0 → p_MO_next (fun h1 => ((¬ (h1.1 59 23) = 3 → p_MO_text_59 Q  K26 x2 h1) ∧ ((h1.1 59 23) = 3 → ((¬ (h1.1 59 24) = x2 → p_MO_text_59 Q  K26 x2 h1) ∧ ((h1.1 59 24) = x2 → p_MO_text_60 Q  K26 x2 1 h1))))) h))))
def p_MO_text (Q : Int32 → AH → Prop) (h : AH) : Prop := ((¬ (h.1 59 11) = 6 → ∃ n, p_MO_text_26 Q   n 1 0 (wI (wI h 59 21 0) 59 29 0)) ∧ ((h.1 59 11) = 6 → Q (-4) h))
set_option maxRecDepth 20000 in
theorem r_MO_text_122 {G : GG} {d : Nat} {Q : Int32 → AH → Prop} (x1 : Int32) (h : AH) (H : p_MO_text_122 Q x1 h) : Att G T1 m_MO_text (d + 4) 122 [some (.ref 59), some (.int x1), none] [] h 0 0 (iQ Q) := by
  refine A_aload_n d_MO_text_122 rfl ?_
  refine A_get (v := .ref 68) d_MO_text_123 (fo_MO_34_12 rfl) (vA_s (by decide)) rfl rfl ?_
  refine A_iconst 4 (by decide) d_MO_text_126 ?_
  refine A_aload_n d_MO_text_127 rfl ?_
  refine A_get (v := .int (h.1 59 11)) d_MO_text_128 (fo_MO_107_12 rfl) (vA_s (by decide)) rfl rfl ?_
  refine A_imul d_MO_text_131 ?_
  refine A_iconst 3 (by decide) d_MO_text_132 ?_
  refine A_iadd d_MO_text_133 ?_
  refine A_aload_n d_MO_text_134 rfl ?_
  refine A_get (v := .int (h.1 59 29)) d_MO_text_135 (fo_MO_132_12 rfl) (vA_s (by decide)) rfl rfl ?_
  obtain ⟨c1, H⟩ := H
  refine A_iast (n := 24) d_MO_text_138 (vA_s (by decide)) rfl c1 ?_
  refine A_aload_n d_MO_text_139 rfl ?_
  refine A_iconst 0 (by decide) d_MO_text_140 ?_
  refine A_putI (k := 8) d_MO_text_141 (fo_MO_82_12 rfl) (Or.inr ⟨rfl, _, ft_12_8⟩) (fun z => by cases z) rfl (vA_s (by decide)) rfl rfl rfl ?_
  refine A_iload_n d_MO_text_144 rfl ?_
  refine A_if_ne 156 d_MO_text_145 (by decide) (fun z => ?_) (fun z => ?_)
  · have H := H.1 z
    refine A_aload_n d_MO_text_156 rfl ?_
    refine A_dup rfl d_MO_text_157 ?_
    refine A_get (v := .int ((wI (wI h 68 ((4 * (h.1 59 11)) + 3) (h.1 59 29)) 59 8 0).1 59 11)) d_MO_text_158 (fo_MO_107_12 rfl) (vA_s (by decide)) rfl rfl ?_
    refine A_iconst 1 (by decide) d_MO_text_161 ?_
    refine A_iadd d_MO_text_162 ?_
    refine A_putI (k := 11) d_MO_text_163 (fo_MO_107_12 rfl) (Or.inr ⟨rfl, _, ft_12_11⟩) (fun z => by cases z) rfl (vA_s (by decide)) rfl rfl rfl ?_
    refine A_aload_n d_MO_text_166 rfl ?_
    refine A_get (v := .int ((wI (wI (wI h 68 ((4 * (h.1 59 11)) + 3) (h.1 59 29)) 59 8 0) 59 11 (((wI (wI h 68 ((4 * (h.1 59 11)) + 3) (h.1 59 29)) 59 8 0).1 59 11) + 1)).1 59 11)) d_MO_text_167 (fo_MO_107_12 rfl) (vA_s (by decide)) rfl rfl ?_
    refine A_iconst 1 (by decide) d_MO_text_170 ?_
    refine A_isub d_MO_text_171 ?_
    exact A_iret d_MO_text_172 rfl rfl H
  · have H := H.2 z
    refine A_bipush (-100) (by decide) d_MO_text_148 ?_
    refine A_aload_n d_MO_text_150 rfl ?_
    refine A_get (v := .int ((wI (wI h 68 ((4 * (h.1 59 11)) + 3) (h.1 59 29)) 59 8 0).1 59 22)) d_MO_text_151 (fo_MO_119_12 rfl) (vA_s (by decide)) rfl rfl ?_
    refine A_isub d_MO_text_154 ?_
    exact A_iret d_MO_text_155 rfl rfl H
set_option maxRecDepth 20000 in
theorem r_MO_text_121 {G : GG} {d : Nat} {Q : Int32 → AH → Prop} (s0 : Int32) (h : AH) (H : p_MO_text_121 Q s0 h) : Att G T1 m_MO_text (d + 4) 121 [some (.ref 59), none, none] [.int s0] h 0 0 (iQ Q) := by
  refine A_istore_n [some (.ref 59), some (.int s0), none] d_MO_text_121 (by decide) rfl rfl ?_
  exact r_MO_text_122   _ _ H
set_option maxRecDepth 20000 in
theorem r_MO_text_101 {G : GG} {d : Nat} {Q : Int32 → AH → Prop} (x1 : Int32) (h : AH) (H : p_MO_text_101 Q x1 h) : Att G T1 m_MO_text (d + 4) 101 [some (.ref 59), some (.int x1), none] [] h 0 0 (iQ Q) := by
  refine A_iload_n d_MO_text_101 rfl ?_
  refine A_if_eq 122 d_MO_text_102 (by decide) (fun z => ?_) (fun z => ?_)
  · have H := H.1 z
    exact r_MO_text_122   _ _ H
  · have H := H.2 z
    refine A_aload_n d_MO_text_105 rfl ?_
    refine A_cV [.ref 59] [] (ct_MO_155 rfl) d_MO_text_106 rfl rfl (by decide) (Nat.le_of_ble_eq_true rfl) (rcA_o (c := 12) rfl (vA_s (by decide)) rfl (by decide) rfl) (ok_MO_next (d := d + 2) H) (fun h1 H => ?_)
    refine A_aload_n d_MO_text_109 rfl ?_
    refine A_get (v := .int (h1.1 59 23)) d_MO_text_110 (fo_MO_122_12 rfl) (vA_s (by decide)) rfl rfl ?_
    refine A_if_ne 120 d_MO_text_113 (by decide) (fun z => ?_) (fun z => ?_)
    · have H := H.1 z
      refine A_iconst 0 (by decide) d_MO_text_120 ?_
      refine A_sub (L' := [some (.ref 59), none, none]) ⟨rfl, trivial⟩ ?_
      exact r_MO_text_121   _ _ H
    · have H := H.2 z
      refine A_iconst 1 (by decide) d_MO_text_116 ?_
      refine A_goto 121 d_MO_text_117 (by decide) ?_
      refine A_sub (L' := [some (.ref 59), none, none]) ⟨rfl, trivial⟩ ?_
      exact r_MO_text_121   _ _ H
set_option maxRecDepth 20000 in
theorem r_MO_text_94 {G : GG} {d : Nat} {Q : Int32 → AH → Prop} {K26 : Int32 → Int32 → AH → Prop} (k26 : ∀ x1 x2 h, K26 x1 x2 h → Att G T1 m_MO_text (d + 4) 26 [some (.ref 59), some (.int x1), some (.int x2)] [] h 0 0 (iQ Q)) (x2 : Int32) (s0 : Int32) (h : AH) (H : p_MO_text_94 Q K26 x2 s0 h) : Att G T1 m_MO_text (d + 4) 94 [some (.ref 59), none, some (.int x2)] [.int s0] h 0 0 (iQ Q) := by
  refine A_istore_n [some (.ref 59), some (.int s0), some (.int x2)] d_MO_text_94 (by decide) rfl rfl ?_
  refine A_iinc 1 [some (.ref 59), some (.int s0), some (.int (x2 + 1))] d_MO_text_95 rfl (by decide) (by decide) rfl rfl ?_
  refine A_goto 26 d_MO_text_98 (by decide) ?_
  exact k26 _ _ _ H
set_option maxRecDepth 20000 in
theorem r_MO_text_93 {G : GG} {d : Nat} {Q : Int32 → AH → Prop} {K26 : Int32 → Int32 → AH → Prop} (k26 : ∀ x1 x2 h, K26 x1 x2 h → Att G T1 m_MO_text (d + 4) 26 [some (.ref 59), some (.int x1), some (.int x2)] [] h 0 0 (iQ Q)) (x2 : Int32) (h : AH) (H : p_MO_text_93 Q K26 x2 h) : Att G T1 m_MO_text (d + 4) 93 [some (.ref 59), none, some (.int x2)] [] h 0 0 (iQ Q) := by
  refine A_iconst 0 (by decide) d_MO_text_93 ?_
  exact r_MO_text_94  k26 _ _ _ H
set_option maxRecDepth 20000 in
theorem r_MO_text_60 {G : GG} {d : Nat} {Q : Int32 → AH → Prop} {K26 : Int32 → Int32 → AH → Prop} (k26 : ∀ x1 x2 h, K26 x1 x2 h → Att G T1 m_MO_text (d + 4) 26 [some (.ref 59), some (.int x1), some (.int x2)] [] h 0 0 (iQ Q)) (x2 : Int32) (s0 : Int32) (h : AH) (H : p_MO_text_60 Q K26 x2 s0 h) : Att G T1 m_MO_text (d + 4) 60 [some (.ref 59), none, some (.int x2)] [.int s0] h 0 0 (iQ Q) := by
  refine A_istore_n [some (.ref 59), some (.int s0), some (.int x2)] d_MO_text_60 (by decide) rfl rfl ?_
  refine A_aload_n d_MO_text_61 rfl ?_
  refine A_get (v := .ref 68) d_MO_text_62 (fo_MO_34_12 rfl) (vA_s (by decide)) rfl rfl ?_
  refine A_iconst 4 (by decide) d_MO_text_65 ?_
  refine A_aload_n d_MO_text_66 rfl ?_
  refine A_get (v := .int (h.1 59 11)) d_MO_text_67 (fo_MO_107_12 rfl) (vA_s (by decide)) rfl rfl ?_
  refine A_imul d_MO_text_70 ?_
  refine A_iload_n d_MO_text_71 rfl ?_
  refine A_iadd d_MO_text_72 ?_
  refine A_aload_n d_MO_text_73 rfl ?_
  refine A_get (v := .int (h.1 59 29)) d_MO_text_74 (fo_MO_132_12 rfl) (vA_s (by decide)) rfl rfl ?_
  obtain ⟨c1, H⟩ := H
  refine A_iast (n := 24) d_MO_text_77 (vA_s (by decide)) rfl c1 ?_
  refine A_iload_n d_MO_text_78 rfl ?_
  refine A_if_eq 93 d_MO_text_79 (by decide) (fun z => ?_) (fun z => ?_)
  · have H := H.1 z
    refine A_sub (L' := [some (.ref 59), none, some (.int x2)]) ⟨rfl, rfl, trivial⟩ ?_
    exact r_MO_text_93  k26 _ _ H
  · have H := H.2 z
    refine A_aload_n d_MO_text_82 rfl ?_
    refine A_cI [.ref 59] [] (ct_MO_168 rfl) d_MO_text_83 rfl rfl (by decide) (Nat.le_of_ble_eq_true rfl) (rcA_o (c := 12) rfl (vA_s (by decide)) rfl (by decide) rfl) (ok_MO_eRead (d := d) H) (fun r3 h2 H => ?_)
    refine A_if_eq 93 d_MO_text_86 (by decide) (fun z => ?_) (fun z => ?_)
    · have H := H.1 z
      refine A_sub (L' := [some (.ref 59), none, some (.int x2)]) ⟨rfl, rfl, trivial⟩ ?_
      exact r_MO_text_93  k26 _ _ H
    · have H := H.2 z
      refine A_iconst 1 (by decide) d_MO_text_89 ?_
      refine A_goto 94 d_MO_text_90 (by decide) ?_
      refine A_sub (L' := [some (.ref 59), none, some (.int x2)]) ⟨rfl, rfl, trivial⟩ ?_
      exact r_MO_text_94  k26 _ _ _ H
set_option maxRecDepth 20000 in
theorem r_MO_text_59 {G : GG} {d : Nat} {Q : Int32 → AH → Prop} {K26 : Int32 → Int32 → AH → Prop} (k26 : ∀ x1 x2 h, K26 x1 x2 h → Att G T1 m_MO_text (d + 4) 26 [some (.ref 59), some (.int x1), some (.int x2)] [] h 0 0 (iQ Q)) (x2 : Int32) (h : AH) (H : p_MO_text_59 Q K26 x2 h) : Att G T1 m_MO_text (d + 4) 59 [some (.ref 59), none, some (.int x2)] [] h 0 0 (iQ Q) := by
  refine A_iconst 0 (by decide) d_MO_text_59 ?_
  exact r_MO_text_60  k26 _ _ _ H
set_option maxRecDepth 20000 in
theorem r_MO_text_26 {G : GG} {d : Nat} {Q : Int32 → AH → Prop} : ∀ (n : Nat) (x1 : Int32) (x2 : Int32) (h : AH), p_MO_text_26 Q n x1 x2 h → Att G T1 m_MO_text (d + 4) 26 [some (.ref 59), some (.int x1), some (.int x2)] [] h 0 0 (iQ Q) := by
  intro n
  induction n with
  | zero => intro x1 x2 h H; exact H.elim
  | succ n k26 =>
    intro x1 x2 h H
    refine A_iload_n d_MO_text_26 rfl ?_
    refine A_iconst 3 (by decide) d_MO_text_27 ?_
    refine A_icmp_ge 101 d_MO_text_28 (by decide) (fun z => ?_) (fun z => ?_)
    · have H := H.1 z
      refine A_sub (L' := [some (.ref 59), some (.int x1), none]) ⟨rfl, rfl, trivial⟩ ?_
      exact r_MO_text_101   _ _ H
    · have H := H.2 z
      refine A_iload_n d_MO_text_31 rfl ?_
      refine A_if_eq 101 d_MO_text_32 (by decide) (fun z => ?_) (fun z => ?_)
      · have H := H.1 z
        refine A_sub (L' := [some (.ref 59), some (.int x1), none]) ⟨rfl, rfl, trivial⟩ ?_
        exact r_MO_text_101   _ _ H
      · have H := H.2 z
        refine A_aload_n d_MO_text_35 rfl ?_
        refine A_cV [.ref 59] [] (ct_MO_155 rfl) d_MO_text_36 rfl rfl (by decide) (Nat.le_of_ble_eq_true rfl) (rcA_o (c := 12) rfl (vA_s (by decide)) rfl (by decide) rfl) (ok_MO_next (d := d + 2) H) (fun h1 H => ?_)
        refine A_aload_n d_MO_text_39 rfl ?_
        refine A_get (v := .int (h1.1 59 23)) d_MO_text_40 (fo_MO_122_12 rfl) (vA_s (by decide)) rfl rfl ?_
        refine A_iconst 3 (by decide) d_MO_text_43 ?_
        refine A_icmp_ne 59 d_MO_text_44 (by decide) (fun z => ?_) (fun z => ?_)
        · have H := H.1 z
          refine A_sub (L' := [some (.ref 59), none, some (.int x2)]) ⟨rfl, rfl, trivial⟩ ?_
          exact r_MO_text_59  k26 _ _ H
        · have H := H.2 z
          refine A_aload_n d_MO_text_47 rfl ?_
          refine A_get (v := .int (h1.1 59 24)) d_MO_text_48 (fo_MO_125_12 rfl) (vA_s (by decide)) rfl rfl ?_
          refine A_iload_n d_MO_text_51 rfl ?_
          refine A_icmp_ne 59 d_MO_text_52 (by decide) (fun z => ?_) (fun z => ?_)
          · have H := H.1 z
            refine A_sub (L' := [some (.ref 59), none, some (.int x2)]) ⟨rfl, rfl, trivial⟩ ?_
            exact r_MO_text_59  k26 _ _ H
          · have H := H.2 z
            refine A_iconst 1 (by decide) d_MO_text_55 ?_
            refine A_goto 60 d_MO_text_56 (by decide) ?_
            refine A_sub (L' := [some (.ref 59), none, some (.int x2)]) ⟨rfl, rfl, trivial⟩ ?_
            exact r_MO_text_60  k26 _ _ _ H
set_option maxRecDepth 20000 in
theorem r_MO_text_0 {G : GG} {d : Nat} {Q : Int32 → AH → Prop} (h : AH) (H : p_MO_text Q h) : Att G T1 m_MO_text (d + 4) 0 [some (.ref 59), none, none] [] h 0 0 (iQ Q) := by
  refine A_aload_n d_MO_text_0 rfl ?_
  refine A_get (v := .int (h.1 59 11)) d_MO_text_1 (fo_MO_107_12 rfl) (vA_s (by decide)) rfl rfl ?_
  refine A_bipush 6 (by decide) d_MO_text_4 ?_
  refine A_icmp_ne 12 d_MO_text_6 (by decide) (fun z => ?_) (fun z => ?_)
  · have H := H.1 z
    refine A_aload_n d_MO_text_12 rfl ?_
    refine A_iconst 0 (by decide) d_MO_text_13 ?_
    refine A_putI (k := 21) d_MO_text_14 (fo_MO_116_12 rfl) (Or.inr ⟨rfl, _, ft_12_21⟩) (fun z => by cases z) rfl (vA_s (by decide)) rfl rfl rfl ?_
    refine A_aload_n d_MO_text_17 rfl ?_
    refine A_iconst 0 (by decide) d_MO_text_18 ?_
    refine A_putI (k := 29) d_MO_text_19 (fo_MO_132_12 rfl) (Or.inr ⟨rfl, _, ft_12_29⟩) (fun z => by cases z) rfl (vA_s (by decide)) rfl rfl rfl ?_
    refine A_iconst 1 (by decide) d_MO_text_22 ?_
    refine A_istore_n [some (.ref 59), some (.int 1), none] d_MO_text_23 (by decide) rfl rfl ?_
    refine A_iconst 0 (by decide) d_MO_text_24 ?_
    refine A_istore_n [some (.ref 59), some (.int 1), some (.int 0)] d_MO_text_25 (by decide) rfl rfl ?_
    obtain ⟨n9, H⟩ := H
    exact r_MO_text_26   n9 _ _ _ H
  · have H := H.2 z
    refine A_bipush (-4) (by decide) d_MO_text_9 ?_
    exact A_iret d_MO_text_11 rfl rfl H
set_option maxRecDepth 20000 in
theorem ok_MO_text {G : GG} {d : Nat} {Q : Int32 → AH → Prop} {h : AH} (H : p_MO_text Q h) : WP G T1 m_MO_text (d + 4) [.ref 59] h 0 0 (iQ Q) := by
  exact WP.enter 2 (by decide) rfl rfl (r_MO_text_0 h H)
theorem d_MO_alone_0 : decode prog_14_method_39_code 0 = .ok (.aload_n 0, 1) := by decide +kernel
theorem d_MO_alone_1 : decode prog_14_method_39_code 1 = .ok (.getfield 64, 3) := by decide +kernel
theorem d_MO_alone_4 : decode prog_14_method_39_code 4 = .ok (.iload_n 1, 1) := by decide +kernel
theorem d_MO_alone_5 : decode prog_14_method_39_code 5 = .ok (.iaload, 1) := by decide +kernel
theorem d_MO_alone_6 : decode prog_14_method_39_code 6 = .ok (.ifCond .le 36, 3) := by decide +kernel
theorem d_MO_alone_9 : decode prog_14_method_39_code 9 = .ok (.aload_n 0, 1) := by decide +kernel
theorem d_MO_alone_10 : decode prog_14_method_39_code 10 = .ok (.iload_n 1, 1) := by decide +kernel
theorem d_MO_alone_11 : decode prog_14_method_39_code 11 = .ok (.iload_n 2, 1) := by decide +kernel
theorem d_MO_alone_12 : decode prog_14_method_39_code 12 = .ok (.invokevirtual 199, 3) := by decide +kernel
theorem d_MO_alone_15 : decode prog_14_method_39_code 15 = .ok (.ifCond .eq 27, 3) := by decide +kernel
theorem d_MO_alone_18 : decode prog_14_method_39_code 18 = .ok (.aload_n 0, 1) := by decide +kernel
theorem d_MO_alone_19 : decode prog_14_method_39_code 19 = .ok (.iload_n 1, 1) := by decide +kernel
theorem d_MO_alone_20 : decode prog_14_method_39_code 20 = .ok (.iload_n 2, 1) := by decide +kernel
theorem d_MO_alone_21 : decode prog_14_method_39_code 21 = .ok (.invokevirtual 203, 3) := by decide +kernel
theorem d_MO_alone_24 : decode prog_14_method_39_code 24 = .ok (.aload_n 0, 1) := by decide +kernel
theorem d_MO_alone_25 : decode prog_14_method_39_code 25 = .ok (.iload_n 1, 1) := by decide +kernel
theorem d_MO_alone_26 : decode prog_14_method_39_code 26 = .ok (.iload_n 2, 1) := by decide +kernel
theorem d_MO_alone_27 : decode prog_14_method_39_code 27 = .ok (.invokevirtual 206, 3) := by decide +kernel
theorem d_MO_alone_30 : decode prog_14_method_39_code 30 = .ok (.if_icmp .le 12, 3) := by decide +kernel
theorem d_MO_alone_33 : decode prog_14_method_39_code 33 = .ok (.aload_n 0, 1) := by decide +kernel
theorem d_MO_alone_34 : decode prog_14_method_39_code 34 = .ok (.iload_n 1, 1) := by decide +kernel
theorem d_MO_alone_35 : decode prog_14_method_39_code 35 = .ok (.iload_n 2, 1) := by decide +kernel
theorem d_MO_alone_36 : decode prog_14_method_39_code 36 = .ok (.invokevirtual 209, 3) := by decide +kernel
theorem d_MO_alone_39 : decode prog_14_method_39_code 39 = .ok (.goto 10, 3) := by decide +kernel
theorem d_MO_alone_42 : decode prog_14_method_39_code 42 = .ok (.aload_n 0, 1) := by decide +kernel
theorem d_MO_alone_43 : decode prog_14_method_39_code 43 = .ok (.getfield 70, 3) := by decide +kernel
theorem d_MO_alone_46 : decode prog_14_method_39_code 46 = .ok (.iload_n 1, 1) := by decide +kernel
theorem d_MO_alone_47 : decode prog_14_method_39_code 47 = .ok (.iconst 0, 1) := by decide +kernel
theorem d_MO_alone_48 : decode prog_14_method_39_code 48 = .ok (.iastore, 1) := by decide +kernel
theorem d_MO_alone_49 : decode prog_14_method_39_code 49 = .ok (.return_, 1) := by decide +kernel
def p_MO_alone (Q : AH → Prop) (x1 : Int32) (x2 : Int32) (h : AH) : Prop := inb x1 7 ∧ (((h.1 78 x1) ≤ 0 → Q (wI h 80 x1 0)) ∧ (¬ (h.1 78 x1) ≤ 0 → p_MO_isFree (fun r3 h2 => ((r3 = 0 → inb x1 7 ∧ Q (wI h2 80 x1 0)) ∧ (¬ r3 = 0 → p_MO_weighs (fun r6 h5 => p_MO_holdsIt (fun r8 h7 => ((r6 ≤ r8 → inb x1 7 ∧ Q (wI h7 80 x1 0)) ∧ (¬ r6 ≤ r8 → p_MO_goesDown (fun h10 => Q h10) x1 x2 h7))) x1 x2 h5) x1 x2 h2))) x1 x2 h))
set_option maxRecDepth 20000 in
theorem r_MO_alone_0 {G : GG} {d : Nat} {Q : AH → Prop} (x1 : Int32) (x2 : Int32) (h : AH) (H : p_MO_alone Q x1 x2 h) : Att G T1 m_MO_alone (d + 4) 0 [some (.ref 59), some (.int x1), some (.int x2)] [] h 0 0 (vQ Q) := by
  refine A_aload_n d_MO_alone_0 rfl ?_
  refine A_get (v := .ref 78) d_MO_alone_1 (fo_MO_64_12 rfl) (vA_s (by decide)) rfl rfl ?_
  refine A_iload_n d_MO_alone_4 rfl ?_
  obtain ⟨c1, H⟩ := H
  refine A_iald (n := 7) d_MO_alone_5 (vA_s (by decide)) rfl c1 ?_
  refine A_if_le 42 d_MO_alone_6 (by decide) (fun z => ?_) (fun z => ?_)
  · have H := H.1 z
    refine A_aload_n d_MO_alone_42 rfl ?_
    refine A_get (v := .ref 80) d_MO_alone_43 (fo_MO_70_12 rfl) (vA_s (by decide)) rfl rfl ?_
    refine A_iload_n d_MO_alone_46 rfl ?_
    refine A_iconst 0 (by decide) d_MO_alone_47 ?_
    refine A_iast (n := 7) d_MO_alone_48 (vA_s (by decide)) rfl c1 ?_
    exact A_ret d_MO_alone_49 rfl H
  · have H := H.2 z
    refine A_aload_n d_MO_alone_9 rfl ?_
    refine A_iload_n d_MO_alone_10 rfl ?_
    refine A_iload_n d_MO_alone_11 rfl ?_
    refine A_cI [.ref 59, .int x1, .int x2] [] (ct_MO_199 rfl) d_MO_alone_12 rfl rfl (by decide) (Nat.le_of_ble_eq_true rfl) (rcA_o (c := 12) rfl (vA_s (by decide)) rfl (by decide) rfl) (ok_MO_isFree (d := d + 3) H) (fun r3 h2 H => ?_)
    refine A_if_eq 42 d_MO_alone_15 (by decide) (fun z => ?_) (fun z => ?_)
    · have H := H.1 z
      refine A_aload_n d_MO_alone_42 rfl ?_
      refine A_get (v := .ref 80) d_MO_alone_43 (fo_MO_70_12 rfl) (vA_s (by decide)) rfl rfl ?_
      refine A_iload_n d_MO_alone_46 rfl ?_
      refine A_iconst 0 (by decide) d_MO_alone_47 ?_
      obtain ⟨c4, H⟩ := H
      refine A_iast (n := 7) d_MO_alone_48 (vA_s (by decide)) rfl c4 ?_
      exact A_ret d_MO_alone_49 rfl H
    · have H := H.2 z
      refine A_aload_n d_MO_alone_18 rfl ?_
      refine A_iload_n d_MO_alone_19 rfl ?_
      refine A_iload_n d_MO_alone_20 rfl ?_
      refine A_cI [.ref 59, .int x1, .int x2] [] (ct_MO_203 rfl) d_MO_alone_21 rfl rfl (by decide) (Nat.le_of_ble_eq_true rfl) (rcA_o (c := 12) rfl (vA_s (by decide)) rfl (by decide) rfl) (ok_MO_weighs (d := d) H) (fun r6 h5 H => ?_)
      refine A_aload_n d_MO_alone_24 rfl ?_
      refine A_iload_n d_MO_alone_25 rfl ?_
      refine A_iload_n d_MO_alone_26 rfl ?_
      refine A_cI [.ref 59, .int x1, .int x2] [.int r6] (ct_MO_206 rfl) d_MO_alone_27 rfl rfl (by decide) (Nat.le_of_ble_eq_true rfl) (rcA_o (c := 12) rfl (vA_s (by decide)) rfl (by decide) rfl) (ok_MO_holdsIt (d := d) H) (fun r8 h7 H => ?_)
      refine A_icmp_le 42 d_MO_alone_30 (by decide) (fun z => ?_) (fun z => ?_)
      · have H := H.1 z
        refine A_aload_n d_MO_alone_42 rfl ?_
        refine A_get (v := .ref 80) d_MO_alone_43 (fo_MO_70_12 rfl) (vA_s (by decide)) rfl rfl ?_
        refine A_iload_n d_MO_alone_46 rfl ?_
        refine A_iconst 0 (by decide) d_MO_alone_47 ?_
        obtain ⟨c9, H⟩ := H
        refine A_iast (n := 7) d_MO_alone_48 (vA_s (by decide)) rfl c9 ?_
        exact A_ret d_MO_alone_49 rfl H
      · have H := H.2 z
        refine A_aload_n d_MO_alone_33 rfl ?_
        refine A_iload_n d_MO_alone_34 rfl ?_
        refine A_iload_n d_MO_alone_35 rfl ?_
        refine A_cV [.ref 59, .int x1, .int x2] [] (ct_MO_209 rfl) d_MO_alone_36 rfl rfl (by decide) (Nat.le_of_ble_eq_true rfl) (rcA_o (c := 12) rfl (vA_s (by decide)) rfl (by decide) rfl) (ok_MO_goesDown (d := d) H) (fun h10 H => ?_)
        refine A_goto 49 d_MO_alone_39 (by decide) ?_
        exact A_ret d_MO_alone_49 rfl H
set_option maxRecDepth 20000 in
theorem ok_MO_alone {G : GG} {d : Nat} {Q : AH → Prop} {x1 : Int32} {x2 : Int32} {h : AH} (H : p_MO_alone Q x1 x2 h) : WP G T1 m_MO_alone (d + 4) [.ref 59, .int x1, .int x2] h 0 0 (vQ Q) := by
  exact WP.enter 0 (by decide) rfl rfl (r_MO_alone_0 x1 x2 h H)
