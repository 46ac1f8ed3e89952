theorem d_Dusk_sink_0 : decode prog_4_method_8_code 0 = .ok (.aload_n 0, 1) := by decide +kernel
theorem d_Dusk_sink_1 : decode prog_4_method_8_code 1 = .ok (.getfield 12, 3) := by decide +kernel
theorem d_Dusk_sink_4 : decode prog_4_method_8_code 4 = .ok (.getfield 78, 3) := by decide +kernel
theorem d_Dusk_sink_7 : decode prog_4_method_8_code 7 = .ok (.iload_n 1, 1) := by decide +kernel
theorem d_Dusk_sink_8 : decode prog_4_method_8_code 8 = .ok (.dup2, 1) := by decide +kernel
theorem d_Dusk_sink_9 : decode prog_4_method_8_code 9 = .ok (.iaload, 1) := by decide +kernel
theorem d_Dusk_sink_10 : decode prog_4_method_8_code 10 = .ok (.iconst 1, 1) := by decide +kernel
theorem d_Dusk_sink_11 : decode prog_4_method_8_code 11 = .ok (.isub, 1) := by decide +kernel
theorem d_Dusk_sink_12 : decode prog_4_method_8_code 12 = .ok (.iastore, 1) := by decide +kernel
theorem d_Dusk_sink_13 : decode prog_4_method_8_code 13 = .ok (.aload_n 0, 1) := by decide +kernel
theorem d_Dusk_sink_14 : decode prog_4_method_8_code 14 = .ok (.getfield 28, 3) := by decide +kernel
theorem d_Dusk_sink_17 : decode prog_4_method_8_code 17 = .ok (.iload_n 1, 1) := by decide +kernel
theorem d_Dusk_sink_18 : decode prog_4_method_8_code 18 = .ok (.dup2, 1) := by decide +kernel
theorem d_Dusk_sink_19 : decode prog_4_method_8_code 19 = .ok (.iaload, 1) := by decide +kernel
theorem d_Dusk_sink_20 : decode prog_4_method_8_code 20 = .ok (.iconst 1, 1) := by decide +kernel
theorem d_Dusk_sink_21 : decode prog_4_method_8_code 21 = .ok (.iadd, 1) := by decide +kernel
theorem d_Dusk_sink_22 : decode prog_4_method_8_code 22 = .ok (.iastore, 1) := by decide +kernel
theorem d_Dusk_sink_23 : decode prog_4_method_8_code 23 = .ok (.aload_n 0, 1) := by decide +kernel
theorem d_Dusk_sink_24 : decode prog_4_method_8_code 24 = .ok (.getfield 24, 3) := by decide +kernel
theorem d_Dusk_sink_27 : decode prog_4_method_8_code 27 = .ok (.iload_n 1, 1) := by decide +kernel
theorem d_Dusk_sink_28 : decode prog_4_method_8_code 28 = .ok (.dup2, 1) := by decide +kernel
theorem d_Dusk_sink_29 : decode prog_4_method_8_code 29 = .ok (.iaload, 1) := by decide +kernel
theorem d_Dusk_sink_30 : decode prog_4_method_8_code 30 = .ok (.iconst 1, 1) := by decide +kernel
theorem d_Dusk_sink_31 : decode prog_4_method_8_code 31 = .ok (.iadd, 1) := by decide +kernel
theorem d_Dusk_sink_32 : decode prog_4_method_8_code 32 = .ok (.iastore, 1) := by decide +kernel
theorem d_Dusk_sink_33 : decode prog_4_method_8_code 33 = .ok (.aload_n 0, 1) := by decide +kernel
theorem d_Dusk_sink_34 : decode prog_4_method_8_code 34 = .ok (.getfield 12, 3) := by decide +kernel
theorem d_Dusk_sink_37 : decode prog_4_method_8_code 37 = .ok (.getfield 78, 3) := by decide +kernel
theorem d_Dusk_sink_40 : decode prog_4_method_8_code 40 = .ok (.iload_n 1, 1) := by decide +kernel
theorem d_Dusk_sink_41 : decode prog_4_method_8_code 41 = .ok (.iaload, 1) := by decide +kernel
theorem d_Dusk_sink_42 : decode prog_4_method_8_code 42 = .ok (.ifCond .le 4, 3) := by decide +kernel
theorem d_Dusk_sink_45 : decode prog_4_method_8_code 45 = .ok (.return_, 1) := by decide +kernel
theorem d_Dusk_sink_46 : decode prog_4_method_8_code 46 = .ok (.aload_n 0, 1) := by decide +kernel
theorem d_Dusk_sink_47 : decode prog_4_method_8_code 47 = .ok (.getfield 31, 3) := by decide +kernel
theorem d_Dusk_sink_50 : decode prog_4_method_8_code 50 = .ok (.iload_n 1, 1) := by decide +kernel
theorem d_Dusk_sink_51 : decode prog_4_method_8_code 51 = .ok (.dup2, 1) := by decide +kernel
theorem d_Dusk_sink_52 : decode prog_4_method_8_code 52 = .ok (.iaload, 1) := by decide +kernel
theorem d_Dusk_sink_53 : decode prog_4_method_8_code 53 = .ok (.aload_n 0, 1) := by decide +kernel
theorem d_Dusk_sink_54 : decode prog_4_method_8_code 54 = .ok (.iconst 2, 1) := by decide +kernel
theorem d_Dusk_sink_55 : decode prog_4_method_8_code 55 = .ok (.iload_n 1, 1) := by decide +kernel
theorem d_Dusk_sink_56 : decode prog_4_method_8_code 56 = .ok (.iload_n 2, 1) := by decide +kernel
theorem d_Dusk_sink_57 : decode prog_4_method_8_code 57 = .ok (.aload_n 0, 1) := by decide +kernel
theorem d_Dusk_sink_58 : decode prog_4_method_8_code 58 = .ok (.getfield 24, 3) := by decide +kernel
theorem d_Dusk_sink_61 : decode prog_4_method_8_code 61 = .ok (.iload_n 1, 1) := by decide +kernel
theorem d_Dusk_sink_62 : decode prog_4_method_8_code 62 = .ok (.iaload, 1) := by decide +kernel
theorem d_Dusk_sink_63 : decode prog_4_method_8_code 63 = .ok (.invokevirtual 105, 3) := by decide +kernel
theorem d_Dusk_sink_66 : decode prog_4_method_8_code 66 = .ok (.iadd, 1) := by decide +kernel
theorem d_Dusk_sink_67 : decode prog_4_method_8_code 67 = .ok (.iastore, 1) := by decide +kernel
theorem d_Dusk_sink_68 : decode prog_4_method_8_code 68 = .ok (.aload_n 0, 1) := by decide +kernel
theorem d_Dusk_sink_69 : decode prog_4_method_8_code 69 = .ok (.getfield 34, 3) := by decide +kernel
theorem d_Dusk_sink_72 : decode prog_4_method_8_code 72 = .ok (.iload_n 1, 1) := by decide +kernel
theorem d_Dusk_sink_73 : decode prog_4_method_8_code 73 = .ok (.iload_n 2, 1) := by decide +kernel
theorem d_Dusk_sink_74 : decode prog_4_method_8_code 74 = .ok (.iastore, 1) := by decide +kernel
theorem d_Dusk_sink_75 : decode prog_4_method_8_code 75 = .ok (.aload_n 0, 1) := by decide +kernel
theorem d_Dusk_sink_76 : decode prog_4_method_8_code 76 = .ok (.getfield 24, 3) := by decide +kernel
theorem d_Dusk_sink_79 : decode prog_4_method_8_code 79 = .ok (.iload_n 1, 1) := by decide +kernel
theorem d_Dusk_sink_80 : decode prog_4_method_8_code 80 = .ok (.iconst 0, 1) := by decide +kernel
theorem d_Dusk_sink_81 : decode prog_4_method_8_code 81 = .ok (.iastore, 1) := by decide +kernel
theorem d_Dusk_sink_82 : decode prog_4_method_8_code 82 = .ok (.return_, 1) := by decide +kernel
def p_Dusk_sink (Q : AH → Prop) (x1 : Int32) (x2 : Int32) (h : AH) : Prop := inb x1 7 ∧ ((((h.1 15 x1) - 1) ≤ 0 → p_Dusk_says (fun r3 h2 => inb x1 7 ∧ Q (wI (wI (wI h2 21 x1 ((h.1 21 x1) + r3)) 22 x1 x2) 19 x1 0)) 2 x1 x2 ((h.1 19 x1) + 1) (wI (wI (wI h 15 x1 ((h.1 15 x1) - 1)) 20 x1 ((h.1 20 x1) + 1)) 19 x1 ((h.1 19 x1) + 1))) ∧ (¬ ((h.1 15 x1) - 1) ≤ 0 → Q (wI (wI (wI h 15 x1 ((h.1 15 x1) - 1)) 20 x1 ((h.1 20 x1) + 1)) 19 x1 ((h.1 19 x1) + 1))))
set_option maxRecDepth 20000 in
theorem r_Dusk_sink_0 {G : GG} {d : Nat} {Q : AH → Prop} (x1 : Int32) (x2 : Int32) (h : AH) (H : p_Dusk_sink Q x1 x2 h) : Att G T1 m_Dusk_sink (d + 3) 0 [some (.ref 13), some (.int x1), some (.int x2)] [] h 0 0 (vQ Q) := by
  refine A_aload_n d_Dusk_sink_0 rfl ?_
  refine A_get (v := .ref 14) d_Dusk_sink_1 (fo_Dusk_12_2 rfl) (vA_s (by decide)) rfl (by first | rfl | (show Value.int _ = Value.int _; simp [wI, wL, wR, wC, up])) ?_
  refine A_get (v := .ref 15) d_Dusk_sink_4 (fo_Dusk_78_10 rfl) (vA_s (by decide)) rfl (by first | rfl | (show Value.int _ = Value.int _; simp [wI, wL, wR, wC, up])) ?_
  refine A_iload_n d_Dusk_sink_7 rfl ?_
  refine A_dup2 rfl rfl d_Dusk_sink_8 ?_
  obtain ⟨c1, H⟩ := H
  refine A_ialdv (n := 7) (v := (h.1 15 x1)) d_Dusk_sink_9 (vA_s (by decide)) rfl c1 rfl ?_
  refine A_iconst 1 (by decide) d_Dusk_sink_10 ?_
  refine A_isub d_Dusk_sink_11 ?_
  refine A_iast (n := 7) d_Dusk_sink_12 (vA_s (by decide)) rfl c1 ?_
  refine A_aload_n d_Dusk_sink_13 rfl ?_
  refine A_get (v := .ref 20) d_Dusk_sink_14 (fo_Dusk_28_2 rfl) (vA_s (by decide)) rfl (by first | rfl | (show Value.int _ = Value.int _; simp [wI, wL, wR, wC, up])) ?_
  refine A_iload_n d_Dusk_sink_17 rfl ?_
  refine A_dup2 rfl rfl d_Dusk_sink_18 ?_
  refine A_ialdv (n := 7) (v := (h.1 20 x1)) d_Dusk_sink_19 (vA_s (by decide)) rfl c1 (by first | rfl | simp [wI, wL, wR, wC, up]) ?_
  refine A_iconst 1 (by decide) d_Dusk_sink_20 ?_
  refine A_iadd d_Dusk_sink_21 ?_
  refine A_iast (n := 7) d_Dusk_sink_22 (vA_s (by decide)) rfl c1 ?_
  refine A_aload_n d_Dusk_sink_23 rfl ?_
  refine A_get (v := .ref 19) d_Dusk_sink_24 (fo_Dusk_24_2 rfl) (vA_s (by decide)) rfl (by first | rfl | (show Value.int _ = Value.int _; simp [wI, wL, wR, wC, up])) ?_
  refine A_iload_n d_Dusk_sink_27 rfl ?_
  refine A_dup2 rfl rfl d_Dusk_sink_28 ?_
  refine A_ialdv (n := 7) (v := (h.1 19 x1)) d_Dusk_sink_29 (vA_s (by decide)) rfl c1 (by first | rfl | simp [wI, wL, wR, wC, up]) ?_
  refine A_iconst 1 (by decide) d_Dusk_sink_30 ?_
  refine A_iadd d_Dusk_sink_31 ?_
  refine A_iast (n := 7) d_Dusk_sink_32 (vA_s (by decide)) rfl c1 ?_
  refine A_aload_n d_Dusk_sink_33 rfl ?_
  refine A_get (v := .ref 14) d_Dusk_sink_34 (fo_Dusk_12_2 rfl) (vA_s (by decide)) rfl (by first | rfl | (show Value.int _ = Value.int _; simp [wI, wL, wR, wC, up])) ?_
  refine A_get (v := .ref 15) d_Dusk_sink_37 (fo_Dusk_78_10 rfl) (vA_s (by decide)) rfl (by first | rfl | (show Value.int _ = Value.int _; simp [wI, wL, wR, wC, up])) ?_
  refine A_iload_n d_Dusk_sink_40 rfl ?_
  refine A_ialdv (n := 7) (v := ((h.1 15 x1) - 1)) d_Dusk_sink_41 (vA_s (by decide)) rfl c1 (by first | rfl | simp [wI, wL, wR, wC, up]) ?_
  refine A_if_le 46 d_Dusk_sink_42 (by decide) (fun z => ?_) (fun z => ?_)
  · have H := H.1 z
    refine A_aload_n d_Dusk_sink_46 rfl ?_
    refine A_get (v := .ref 21) d_Dusk_sink_47 (fo_Dusk_31_2 rfl) (vA_s (by decide)) rfl (by first | rfl | (show Value.int _ = Value.int _; simp [wI, wL, wR, wC, up])) ?_
    refine A_iload_n d_Dusk_sink_50 rfl ?_
    refine A_dup2 rfl rfl d_Dusk_sink_51 ?_
    refine A_ialdv (n := 7) (v := (h.1 21 x1)) d_Dusk_sink_52 (vA_s (by decide)) rfl c1 (by first | rfl | simp [wI, wL, wR, wC, up]) ?_
    refine A_aload_n d_Dusk_sink_53 rfl ?_
    refine A_iconst 2 (by decide) d_Dusk_sink_54 ?_
    refine A_iload_n d_Dusk_sink_55 rfl ?_
    refine A_iload_n d_Dusk_sink_56 rfl ?_
    refine A_aload_n d_Dusk_sink_57 rfl ?_
    refine A_get (v := .ref 19) d_Dusk_sink_58 (fo_Dusk_24_2 rfl) (vA_s (by decide)) rfl (by first | rfl | (show Value.int _ = Value.int _; simp [wI, wL, wR, wC, up])) ?_
    refine A_iload_n d_Dusk_sink_61 rfl ?_
    refine A_ialdv (n := 7) (v := ((h.1 19 x1) + 1)) d_Dusk_sink_62 (vA_s (by decide)) rfl c1 (by first | rfl | simp [wI, wL, wR, wC, up]) ?_
    refine A_cI [.ref 13, .int 2, .int x1, .int x2, .int ((h.1 19 x1) + 1)] [.int (h.1 21 x1), .int x1, .ref 21] (ct_Dusk_105 rfl) d_Dusk_sink_63 rfl rfl (by decide) (Nat.le_of_ble_eq_true rfl) (rcA_o (c := 2) rfl (vA_s (by decide)) rfl (by decide) rfl) (ok_Dusk_says (d := d) H) (fun r3 h2 H => ?_)
    refine A_iadd d_Dusk_sink_66 ?_
    obtain ⟨c4, H⟩ := H
    refine A_iast (n := 7) d_Dusk_sink_67 (vA_s (by decide)) rfl c4 ?_
    refine A_aload_n d_Dusk_sink_68 rfl ?_
    refine A_get (v := .ref 22) d_Dusk_sink_69 (fo_Dusk_34_2 rfl) (vA_s (by decide)) rfl (by first | rfl | (show Value.int _ = Value.int _; simp [wI, wL, wR, wC, up])) ?_
    refine A_iload_n d_Dusk_sink_72 rfl ?_
    refine A_iload_n d_Dusk_sink_73 rfl ?_
    refine A_iast (n := 7) d_Dusk_sink_74 (vA_s (by decide)) rfl c4 ?_
    refine A_aload_n d_Dusk_sink_75 rfl ?_
    refine A_get (v := .ref 19) d_Dusk_sink_76 (fo_Dusk_24_2 rfl) (vA_s (by decide)) rfl (by first | rfl | (show Value.int _ = Value.int _; simp [wI, wL, wR, wC, up])) ?_
    refine A_iload_n d_Dusk_sink_79 rfl ?_
    refine A_iconst 0 (by decide) d_Dusk_sink_80 ?_
    refine A_iast (n := 7) d_Dusk_sink_81 (vA_s (by decide)) rfl c4 ?_
    exact A_ret d_Dusk_sink_82 rfl H
  · have H := H.2 z
    exact A_ret d_Dusk_sink_45 rfl H
set_option maxRecDepth 20000 in
theorem ok_Dusk_sink {G : GG} {d : Nat} {Q : AH → Prop} {x1 : Int32} {x2 : Int32} {h : AH} (H : p_Dusk_sink Q x1 x2 h) : WP G T1 m_Dusk_sink (d + 3) [.ref 13, .int x1, .int x2] h 0 0 (vQ Q) := by
  exact WP.enter 0 (by decide) rfl rfl (r_Dusk_sink_0 x1 x2 h H)
theorem d_UF_taken_0 : decode prog_1_method_36_code 0 = .ok (.iload_n 2, 1) := by decide +kernel
theorem d_UF_taken_1 : decode prog_1_method_36_code 1 = .ok (.iconst 0, 1) := by decide +kernel
theorem d_UF_taken_2 : decode prog_1_method_36_code 2 = .ok (.bipush 6, 2) := by decide +kernel
theorem d_UF_taken_4 : decode prog_1_method_36_code 4 = .ok (.invokestatic 95, 3) := by decide +kernel
theorem d_UF_taken_7 : decode prog_1_method_36_code 7 = .ok (.ifCond .ne 6, 3) := by decide +kernel
theorem d_UF_taken_10 : decode prog_1_method_36_code 10 = .ok (.bipush (-2), 2) := by decide +kernel
theorem d_UF_taken_12 : decode prog_1_method_36_code 12 = .ok (.ireturn, 1) := by decide +kernel
theorem d_UF_taken_13 : decode prog_1_method_36_code 13 = .ok (.iload_n 1, 1) := by decide +kernel
theorem d_UF_taken_14 : decode prog_1_method_36_code 14 = .ok (.iconst 0, 1) := by decide +kernel
theorem d_UF_taken_15 : decode prog_1_method_36_code 15 = .ok (.bipush 13, 2) := by decide +kernel
theorem d_UF_taken_17 : decode prog_1_method_36_code 17 = .ok (.invokestatic 95, 3) := by decide +kernel
theorem d_UF_taken_20 : decode prog_1_method_36_code 20 = .ok (.ifCond .ne 6, 3) := by decide +kernel
theorem d_UF_taken_23 : decode prog_1_method_36_code 23 = .ok (.bipush (-12), 2) := by decide +kernel
theorem d_UF_taken_25 : decode prog_1_method_36_code 25 = .ok (.ireturn, 1) := by decide +kernel
theorem d_UF_taken_26 : decode prog_1_method_36_code 26 = .ok (.iload_n 1, 1) := by decide +kernel
theorem d_UF_taken_27 : decode prog_1_method_36_code 27 = .ok (.bipush 7, 2) := by decide +kernel
theorem d_UF_taken_29 : decode prog_1_method_36_code 29 = .ok (.irem, 1) := by decide +kernel
theorem d_UF_taken_30 : decode prog_1_method_36_code 30 = .ok (.istore_n 3, 1) := by decide +kernel
theorem d_UF_taken_31 : decode prog_1_method_36_code 31 = .ok (.iload_n 1, 1) := by decide +kernel
theorem d_UF_taken_32 : decode prog_1_method_36_code 32 = .ok (.bipush 7, 2) := by decide +kernel
theorem d_UF_taken_34 : decode prog_1_method_36_code 34 = .ok (.if_icmp .lt 7, 3) := by decide +kernel
theorem d_UF_taken_37 : decode prog_1_method_36_code 37 = .ok (.iconst 1, 1) := by decide +kernel
theorem d_UF_taken_38 : decode prog_1_method_36_code 38 = .ok (.goto 4, 3) := by decide +kernel
theorem d_UF_taken_41 : decode prog_1_method_36_code 41 = .ok (.iconst 0, 1) := by decide +kernel
theorem d_UF_taken_42 : decode prog_1_method_36_code 42 = .ok (.istore 4, 2) := by decide +kernel
theorem d_UF_taken_44 : decode prog_1_method_36_code 44 = .ok (.aload_n 0, 1) := by decide +kernel
theorem d_UF_taken_45 : decode prog_1_method_36_code 45 = .ok (.iload_n 3, 1) := by decide +kernel
theorem d_UF_taken_46 : decode prog_1_method_36_code 46 = .ok (.invokevirtual 107, 3) := by decide +kernel
theorem d_UF_taken_49 : decode prog_1_method_36_code 49 = .ok (.ifCond .eq 20, 3) := by decide +kernel
theorem d_UF_taken_52 : decode prog_1_method_36_code 52 = .ok (.iload 4, 2) := by decide +kernel
theorem d_UF_taken_54 : decode prog_1_method_36_code 54 = .ok (.ifCond .eq 18, 3) := by decide +kernel
theorem d_UF_taken_57 : decode prog_1_method_36_code 57 = .ok (.aload_n 0, 1) := by decide +kernel
theorem d_UF_taken_58 : decode prog_1_method_36_code 58 = .ok (.getfield 34, 3) := by decide +kernel
theorem d_UF_taken_61 : decode prog_1_method_36_code 61 = .ok (.getfield 124, 3) := by decide +kernel
theorem d_UF_taken_64 : decode prog_1_method_36_code 64 = .ok (.iload_n 3, 1) := by decide +kernel
theorem d_UF_taken_65 : decode prog_1_method_36_code 65 = .ok (.iaload, 1) := by decide +kernel
theorem d_UF_taken_66 : decode prog_1_method_36_code 66 = .ok (.ifCond .ne 6, 3) := by decide +kernel
theorem d_UF_taken_69 : decode prog_1_method_36_code 69 = .ok (.bipush (-11), 2) := by decide +kernel
theorem d_UF_taken_71 : decode prog_1_method_36_code 71 = .ok (.ireturn, 1) := by decide +kernel
theorem d_UF_taken_72 : decode prog_1_method_36_code 72 = .ok (.iload 4, 2) := by decide +kernel
theorem d_UF_taken_74 : decode prog_1_method_36_code 74 = .ok (.ifCond .eq 24, 3) := by decide +kernel
theorem d_UF_taken_77 : decode prog_1_method_36_code 77 = .ok (.iload_n 2, 1) := by decide +kernel
theorem d_UF_taken_78 : decode prog_1_method_36_code 78 = .ok (.bipush 6, 2) := by decide +kernel
theorem d_UF_taken_80 : decode prog_1_method_36_code 80 = .ok (.if_icmp .ne 15, 3) := by decide +kernel
theorem d_UF_taken_83 : decode prog_1_method_36_code 83 = .ok (.aload_n 0, 1) := by decide +kernel
theorem d_UF_taken_84 : decode prog_1_method_36_code 84 = .ok (.getfield 34, 3) := by decide +kernel
theorem d_UF_taken_87 : decode prog_1_method_36_code 87 = .ok (.getfield 124, 3) := by decide +kernel
theorem d_UF_taken_90 : decode prog_1_method_36_code 90 = .ok (.iload_n 3, 1) := by decide +kernel
theorem d_UF_taken_91 : decode prog_1_method_36_code 91 = .ok (.iaload, 1) := by decide +kernel
theorem d_UF_taken_92 : decode prog_1_method_36_code 92 = .ok (.goto 5, 3) := by decide +kernel
theorem d_UF_taken_95 : decode prog_1_method_36_code 95 = .ok (.bipush (-13), 2) := by decide +kernel
theorem d_UF_taken_97 : decode prog_1_method_36_code 97 = .ok (.ireturn, 1) := by decide +kernel
theorem d_UF_taken_98 : decode prog_1_method_36_code 98 = .ok (.aload_n 0, 1) := by decide +kernel
theorem d_UF_taken_99 : decode prog_1_method_36_code 99 = .ok (.getfield 11, 3) := by decide +kernel
theorem d_UF_taken_102 : decode prog_1_method_36_code 102 = .ok (.iload_n 3, 1) := by decide +kernel
theorem d_UF_taken_103 : decode prog_1_method_36_code 103 = .ok (.aaload, 1) := by decide +kernel
theorem d_UF_taken_104 : decode prog_1_method_36_code 104 = .ok (.iload_n 2, 1) := by decide +kernel
theorem d_UF_taken_105 : decode prog_1_method_36_code 105 = .ok (.invokevirtual 252, 3) := by decide +kernel
theorem d_UF_taken_108 : decode prog_1_method_36_code 108 = .ok (.ifCond .eq 7, 3) := by decide +kernel
theorem d_UF_taken_111 : decode prog_1_method_36_code 111 = .ok (.iload_n 3, 1) := by decide +kernel
theorem d_UF_taken_112 : decode prog_1_method_36_code 112 = .ok (.goto 5, 3) := by decide +kernel
theorem d_UF_taken_115 : decode prog_1_method_36_code 115 = .ok (.bipush (-13), 2) := by decide +kernel
theorem d_UF_taken_117 : decode prog_1_method_36_code 117 = .ok (.ireturn, 1) := by decide +kernel
def p_UF_taken_72 (Q : Int32 → AH → Prop) (x2 : Int32) (x3 : Int32) (x4 : Int32) (h : AH) : Prop := ((x4 = 0 → inb x3 7 ∧ 0 < rR T1 h 1 x3.toNatClampNeg ∧ pv_isOf (fun r3 h4 => ((r3 = 0 → Q (-13) h4) ∧ (¬ r3 = 0 → Q x3 h4))) (rR T1 h 1 x3.toNatClampNeg - 1) x2 h) ∧ (¬ x4 = 0 → ((¬ x2 = 6 → Q (-13) h) ∧ (x2 = 6 → inb x3 7 ∧ Q (h.1 7 x3) h))))
def p_UF_taken_42 (Q : Int32 → AH → Prop) (x2 : Int32) (x3 : Int32) (s0 : Int32) (h : AH) : Prop := p_UF_isHouse (fun r2 h1 => ((r2 = 0 → Q (-11) h1) ∧ (¬ r2 = 0 → ((s0 = 0 → p_UF_taken_72 Q   x2 x3 s0 h1) ∧ (¬ s0 = 0 → inb x3 7 ∧ ((¬ (h1.1 7 x3) = 0 → p_UF_taken_72 Q   x2 x3 s0 h1) ∧ ((h1.1 7 x3) = 0 → Q (-11) h1))))))) x3 h
def p_UF_taken (Q : Int32 → AH → Prop) (x1 : Int32) (x2 : Int32) (h : AH) : Prop := p_UF_within (fun r2 h1 => ((¬ r2 = 0 → p_UF_within (fun r4 h3 => ((¬ r4 = 0 → ((x1 < 7 → p_UF_taken_42 Q   x2 (x1 - x1 / 7 * 7) 0 h3) ∧ (¬ x1 < 7 → p_UF_taken_42 Q   x2 (x1 - x1 / 7 * 7) 1 h3))) ∧ (r4 = 0 → Q (-12) h3))) x1 0 13 h1) ∧ (r2 = 0 → Q (-2) h1))) x2 0 6 h
set_option maxRecDepth 20000 in
theorem r_UF_taken_72 {G : GG} {d : Nat} {Q : Int32 → AH → Prop} (x2 : Int32) (x3 : Int32) (x4 : Int32) (h : AH) (H : p_UF_taken_72 Q x2 x3 x4 h) : Att G T1 m_UF_taken (d + 3) 72 [some (.ref 0), none, some (.int x2), some (.int x3), some (.int x4)] [] h 0 0 (iQ Q) := by
  refine A_iload d_UF_taken_72 rfl ?_
  refine A_if_eq 98 d_UF_taken_74 (by decide) (fun z => ?_) (fun z => ?_)
  · have H := H.1 z
    refine A_aload_n d_UF_taken_98 rfl ?_
    refine A_get (v := .ref 1) d_UF_taken_99 (fo_UF_11_11 rfl) (vA_s (by decide)) rfl (by first | rfl | (show Value.int _ = Value.int _; simp [wI, wL, wR, wC, up])) ?_
    refine A_iload_n d_UF_taken_102 rfl ?_
    obtain ⟨c1, H⟩ := H
    obtain ⟨c2, H⟩ := H
    refine A_aald (t := 0) (n := 7) d_UF_taken_103 (by decide) (vA_s (by decide)) rfl c1 (pos_sub c2) ?_
    refine A_iload_n d_UF_taken_104 rfl ?_
    refine A_pv_isOf (d := d + 0) d_UF_taken_105 H (fun r3 h4 H => ?_)
    refine A_if_eq 115 d_UF_taken_108 (by decide) (fun z => ?_) (fun z => ?_)
    · have H := H.1 z
      refine A_bipush (-13) (by decide) d_UF_taken_115 ?_
      exact A_iret d_UF_taken_117 rfl rfl H
    · have H := H.2 z
      refine A_iload_n d_UF_taken_111 rfl ?_
      refine A_goto 117 d_UF_taken_112 (by decide) ?_
      exact A_iret d_UF_taken_117 rfl rfl H
  · have H := H.2 z
    refine A_iload_n d_UF_taken_77 rfl ?_
    refine A_bipush 6 (by decide) d_UF_taken_78 ?_
    refine A_icmp_ne 95 d_UF_taken_80 (by decide) (fun z => ?_) (fun z => ?_)
    · have H := H.1 z
      refine A_bipush (-13) (by decide) d_UF_taken_95 ?_
      exact A_iret d_UF_taken_97 rfl rfl H
    · have H := H.2 z
      refine A_aload_n d_UF_taken_83 rfl ?_
      refine A_get (v := .ref 5) d_UF_taken_84 (fo_UF_34_11 rfl) (vA_s (by decide)) rfl (by first | rfl | (show Value.int _ = Value.int _; simp [wI, wL, wR, wC, up])) ?_
      refine A_get (v := .ref 7) d_UF_taken_87 (fo_UF_124_10 rfl) (vA_s (by decide)) rfl (by first | rfl | (show Value.int _ = Value.int _; simp [wI, wL, wR, wC, up])) ?_
      refine A_iload_n d_UF_taken_90 rfl ?_
      obtain ⟨c5, H⟩ := H
      refine A_ialdv (n := 7) (v := (h.1 7 x3)) d_UF_taken_91 (vA_s (by decide)) rfl c5 rfl ?_
      refine A_goto 97 d_UF_taken_92 (by decide) ?_
      exact A_iret d_UF_taken_97 rfl rfl H
set_option maxRecDepth 20000 in
theorem r_UF_taken_42 {G : GG} {d : Nat} {Q : Int32 → AH → Prop} (x2 : Int32) (x3 : Int32) (s0 : Int32) (h : AH) (H : p_UF_taken_42 Q x2 x3 s0 h) : Att G T1 m_UF_taken (d + 3) 42 [some (.ref 0), none, some (.int x2), some (.int x3), none] [.int s0] h 0 0 (iQ Q) := by
  refine A_istore [some (.ref 0), none, some (.int x2), some (.int x3), some (.int s0)] d_UF_taken_42 (by decide) rfl rfl ?_
  refine A_aload_n d_UF_taken_44 rfl ?_
  refine A_iload_n d_UF_taken_45 rfl ?_
  refine A_cI [.ref 0, .int x3] [] (ct_UF_107 rfl) d_UF_taken_46 rfl rfl (by decide) (Nat.le_of_ble_eq_true rfl) (rcA_o (c := 11) rfl (vA_s (by decide)) rfl (by decide) rfl) (ok_UF_isHouse (d := d + 1) H) (fun r2 h1 H => ?_)
  refine A_if_eq 69 d_UF_taken_49 (by decide) (fun z => ?_) (fun z => ?_)
  · have H := H.1 z
    refine A_bipush (-11) (by decide) d_UF_taken_69 ?_
    exact A_iret d_UF_taken_71 rfl rfl H
  · have H := H.2 z
    refine A_iload d_UF_taken_52 rfl ?_
    refine A_if_eq 72 d_UF_taken_54 (by decide) (fun z => ?_) (fun z => ?_)
    · have H := H.1 z
      exact r_UF_taken_72   _ _ _ _ H
    · have H := H.2 z
      refine A_aload_n d_UF_taken_57 rfl ?_
      refine A_get (v := .ref 5) d_UF_taken_58 (fo_UF_34_11 rfl) (vA_s (by decide)) rfl (by first | rfl | (show Value.int _ = Value.int _; simp [wI, wL, wR, wC, up])) ?_
      refine A_get (v := .ref 7) d_UF_taken_61 (fo_UF_124_10 rfl) (vA_s (by decide)) rfl (by first | rfl | (show Value.int _ = Value.int _; simp [wI, wL, wR, wC, up])) ?_
      refine A_iload_n d_UF_taken_64 rfl ?_
      obtain ⟨c3, H⟩ := H
      refine A_ialdv (n := 7) (v := (h1.1 7 x3)) d_UF_taken_65 (vA_s (by decide)) rfl c3 rfl ?_
      refine A_if_ne 72 d_UF_taken_66 (by decide) (fun z => ?_) (fun z => ?_)
      · have H := H.1 z
        exact r_UF_taken_72   _ _ _ _ H
      · have H := H.2 z
        refine A_bipush (-11) (by decide) d_UF_taken_69 ?_
        exact A_iret d_UF_taken_71 rfl rfl H
set_option maxRecDepth 20000 in
theorem r_UF_taken_0 {G : GG} {d : Nat} {Q : Int32 → AH → Prop} (x1 : Int32) (x2 : Int32) (h : AH) (H : p_UF_taken Q x1 x2 h) : Att G T1 m_UF_taken (d + 3) 0 [some (.ref 0), some (.int x1), some (.int x2), none, none] [] h 0 0 (iQ Q) := by
  refine A_iload_n d_UF_taken_0 rfl ?_
  refine A_iconst 0 (by decide) d_UF_taken_1 ?_
  refine A_bipush 6 (by decide) d_UF_taken_2 ?_
  refine A_cI [.int x2, .int 0, .int 6] [] (ct_UF_95 rfl) d_UF_taken_4 rfl rfl (by decide) (Nat.le_of_ble_eq_true rfl) trivial (ok_UF_within (d := d + 2) H) (fun r2 h1 H => ?_)
  refine A_if_ne 13 d_UF_taken_7 (by decide) (fun z => ?_) (fun z => ?_)
  · have H := H.1 z
    refine A_iload_n d_UF_taken_13 rfl ?_
    refine A_iconst 0 (by decide) d_UF_taken_14 ?_
    refine A_bipush 13 (by decide) d_UF_taken_15 ?_
    refine A_cI [.int x1, .int 0, .int 13] [] (ct_UF_95 rfl) d_UF_taken_17 rfl rfl (by decide) (Nat.le_of_ble_eq_true rfl) trivial (ok_UF_within (d := d + 2) H) (fun r4 h3 H => ?_)
    refine A_if_ne 26 d_UF_taken_20 (by decide) (fun z => ?_) (fun z => ?_)
    · have H := H.1 z
      refine A_iload_n d_UF_taken_26 rfl ?_
      refine A_bipush 7 (by decide) d_UF_taken_27 ?_
      refine A_irem (by decide) d_UF_taken_29 ?_
      refine A_istore_n [some (.ref 0), some (.int x1), some (.int x2), some (.int (x1 - x1 / 7 * 7)), none] d_UF_taken_30 (by decide) rfl rfl ?_
      refine A_iload_n d_UF_taken_31 rfl ?_
      refine A_bipush 7 (by decide) d_UF_taken_32 ?_
      refine A_icmp_lt 41 d_UF_taken_34 (by decide) (fun z => ?_) (fun z => ?_)
      · have H := H.1 z
        refine A_iconst 0 (by decide) d_UF_taken_41 ?_
        refine A_sub (L' := [some (.ref 0), none, some (.int x2), some (.int (x1 - x1 / 7 * 7)), none]) ⟨rfl, rfl, rfl, trivial⟩ ?_
        exact r_UF_taken_42   _ _ _ _ H
      · have H := H.2 z
        refine A_iconst 1 (by decide) d_UF_taken_37 ?_
        refine A_goto 42 d_UF_taken_38 (by decide) ?_
        refine A_sub (L' := [some (.ref 0), none, some (.int x2), some (.int (x1 - x1 / 7 * 7)), none]) ⟨rfl, rfl, rfl, trivial⟩ ?_
        exact r_UF_taken_42   _ _ _ _ H
    · have H := H.2 z
      refine A_bipush (-12) (by decide) d_UF_taken_23 ?_
      exact A_iret d_UF_taken_25 rfl rfl H
  · have H := H.2 z
    refine A_bipush (-2) (by decide) d_UF_taken_10 ?_
    exact A_iret d_UF_taken_12 rfl rfl H
set_option maxRecDepth 20000 in
theorem ok_UF_taken {G : GG} {d : Nat} {Q : Int32 → AH → Prop} {x1 : Int32} {x2 : Int32} {h : AH} (H : p_UF_taken Q x1 x2 h) : WP G T1 m_UF_taken (d + 3) [.ref 0, .int x1, .int x2] h 0 0 (iQ Q) := by
  exact WP.enter 2 (by decide) rfl rfl (r_UF_taken_0 x1 x2 h H)
theorem d_MO_eRead_0 : decode prog_14_method_21_code 0 = .ok (.aload_n 0, 1) := by decide +kernel
theorem d_MO_eRead_1 : decode prog_14_method_21_code 1 = .ok (.iconst 0, 1) := by decide +kernel
theorem d_MO_eRead_2 : decode prog_14_method_21_code 2 = .ok (.putfield 135, 3) := by decide +kernel
theorem d_MO_eRead_5 : decode prog_14_method_21_code 5 = .ok (.aload_n 0, 1) := by decide +kernel
theorem d_MO_eRead_6 : decode prog_14_method_21_code 6 = .ok (.iconst 0, 1) := by decide +kernel
theorem d_MO_eRead_7 : decode prog_14_method_21_code 7 = .ok (.putfield 142, 3) := by decide +kernel
theorem d_MO_eRead_10 : decode prog_14_method_21_code 10 = .ok (.iconst 1, 1) := by decide +kernel
theorem d_MO_eRead_11 : decode prog_14_method_21_code 11 = .ok (.istore_n 1, 1) := by decide +kernel
theorem d_MO_eRead_12 : decode prog_14_method_21_code 12 = .ok (.iconst 1, 1) := by decide +kernel
theorem d_MO_eRead_13 : decode prog_14_method_21_code 13 = .ok (.istore_n 2, 1) := by decide +kernel
theorem d_MO_eRead_14 : decode prog_14_method_21_code 14 = .ok (.aload_n 0, 1) := by decide +kernel
theorem d_MO_eRead_15 : decode prog_14_method_21_code 15 = .ok (.invokevirtual 155, 3) := by decide +kernel
theorem d_MO_eRead_18 : decode prog_14_method_21_code 18 = .ok (.iload_n 1, 1) := by decide +kernel
theorem d_MO_eRead_19 : decode prog_14_method_21_code 19 = .ok (.ifCond .eq 131, 3) := by decide +kernel
theorem d_MO_eRead_22 : decode prog_14_method_21_code 22 = .ok (.aload_n 0, 1) := by decide +kernel
theorem d_MO_eRead_23 : decode prog_14_method_21_code 23 = .ok (.getfield 122, 3) := by decide +kernel
theorem d_MO_eRead_26 : decode prog_14_method_21_code 26 = .ok (.iconst 1, 1) := by decide +kernel
theorem d_MO_eRead_27 : decode prog_14_method_21_code 27 = .ok (.if_icmp .eq 11, 3) := by decide +kernel
theorem d_MO_eRead_30 : decode prog_14_method_21_code 30 = .ok (.aload_n 0, 1) := by decide +kernel
theorem d_MO_eRead_31 : decode prog_14_method_21_code 31 = .ok (.getfield 122, 3) := by decide +kernel
theorem d_MO_eRead_34 : decode prog_14_method_21_code 34 = .ok (.iconst 2, 1) := by decide +kernel
theorem d_MO_eRead_35 : decode prog_14_method_21_code 35 = .ok (.if_icmp .ne 40, 3) := by decide +kernel
theorem d_MO_eRead_38 : decode prog_14_method_21_code 38 = .ok (.aload_n 0, 1) := by decide +kernel
theorem d_MO_eRead_39 : decode prog_14_method_21_code 39 = .ok (.aload_n 0, 1) := by decide +kernel
theorem d_MO_eRead_40 : decode prog_14_method_21_code 40 = .ok (.getfield 122, 3) := by decide +kernel
theorem d_MO_eRead_43 : decode prog_14_method_21_code 43 = .ok (.iconst 1, 1) := by decide +kernel
theorem d_MO_eRead_44 : decode prog_14_method_21_code 44 = .ok (.if_icmp .ne 13, 3) := by decide +kernel
theorem d_MO_eRead_47 : decode prog_14_method_21_code 47 = .ok (.ldc 158, 2) := by decide +kernel
theorem d_MO_eRead_49 : decode prog_14_method_21_code 49 = .ok (.aload_n 0, 1) := by decide +kernel
theorem d_MO_eRead_50 : decode prog_14_method_21_code 50 = .ok (.getfield 125, 3) := by decide +kernel
theorem d_MO_eRead_53 : decode prog_14_method_21_code 53 = .ok (.iadd, 1) := by decide +kernel
theorem d_MO_eRead_54 : decode prog_14_method_21_code 54 = .ok (.goto 7, 3) := by decide +kernel
theorem d_MO_eRead_57 : decode prog_14_method_21_code 57 = .ok (.aload_n 0, 1) := by decide +kernel
theorem d_MO_eRead_58 : decode prog_14_method_21_code 58 = .ok (.getfield 125, 3) := by decide +kernel
theorem d_MO_eRead_61 : decode prog_14_method_21_code 61 = .ok (.invokevirtual 145, 3) := by decide +kernel
theorem d_MO_eRead_64 : decode prog_14_method_21_code 64 = .ok (.aload_n 0, 1) := by decide +kernel
theorem d_MO_eRead_65 : decode prog_14_method_21_code 65 = .ok (.bipush 7, 2) := by decide +kernel
theorem d_MO_eRead_67 : decode prog_14_method_21_code 67 = .ok (.invokevirtual 152, 3) := by decide +kernel
theorem d_MO_eRead_70 : decode prog_14_method_21_code 70 = .ok (.iconst 0, 1) := by decide +kernel
theorem d_MO_eRead_71 : decode prog_14_method_21_code 71 = .ok (.istore_n 1, 1) := by decide +kernel
theorem d_MO_eRead_72 : decode prog_14_method_21_code 72 = .ok (.goto (-58), 3) := by decide +kernel
theorem d_MO_eRead_75 : decode prog_14_method_21_code 75 = .ok (.aload_n 0, 1) := by decide +kernel
theorem d_MO_eRead_76 : decode prog_14_method_21_code 76 = .ok (.getfield 122, 3) := by decide +kernel
theorem d_MO_eRead_79 : decode prog_14_method_21_code 79 = .ok (.bipush 6, 2) := by decide +kernel
theorem d_MO_eRead_81 : decode prog_14_method_21_code 81 = .ok (.if_icmp .ne 18, 3) := by decide +kernel
theorem d_MO_eRead_84 : decode prog_14_method_21_code 84 = .ok (.iload_n 2, 1) := by decide +kernel
theorem d_MO_eRead_85 : decode prog_14_method_21_code 85 = .ok (.ifCond .eq 14, 3) := by decide +kernel
theorem d_MO_eRead_88 : decode prog_14_method_21_code 88 = .ok (.aload_n 0, 1) := by decide +kernel
theorem d_MO_eRead_89 : decode prog_14_method_21_code 89 = .ok (.bipush 13, 2) := by decide +kernel
theorem d_MO_eRead_91 : decode prog_14_method_21_code 91 = .ok (.invokevirtual 159, 3) := by decide +kernel
theorem d_MO_eRead_94 : decode prog_14_method_21_code 94 = .ok (.ifCond .ne (-80), 3) := by decide +kernel
theorem d_MO_eRead_97 : decode prog_14_method_21_code 97 = .ok (.iconst 0, 1) := by decide +kernel
theorem d_MO_eRead_98 : decode prog_14_method_21_code 98 = .ok (.ireturn, 1) := by decide +kernel
theorem d_MO_eRead_99 : decode prog_14_method_21_code 99 = .ok (.aload_n 0, 1) := by decide +kernel
theorem d_MO_eRead_100 : decode prog_14_method_21_code 100 = .ok (.getfield 122, 3) := by decide +kernel
theorem d_MO_eRead_103 : decode prog_14_method_21_code 103 = .ok (.bipush 45, 2) := by decide +kernel
theorem d_MO_eRead_105 : decode prog_14_method_21_code 105 = .ok (.if_icmp .ne 19, 3) := by decide +kernel
theorem d_MO_eRead_108 : decode prog_14_method_21_code 108 = .ok (.aload_n 0, 1) := by decide +kernel
theorem d_MO_eRead_109 : decode prog_14_method_21_code 109 = .ok (.bipush 19, 2) := by decide +kernel
theorem d_MO_eRead_111 : decode prog_14_method_21_code 111 = .ok (.invokevirtual 159, 3) := by decide +kernel
theorem d_MO_eRead_114 : decode prog_14_method_21_code 114 = .ok (.ifCond .ne 5, 3) := by decide +kernel
theorem d_MO_eRead_117 : decode prog_14_method_21_code 117 = .ok (.iconst 0, 1) := by decide +kernel
theorem d_MO_eRead_118 : decode prog_14_method_21_code 118 = .ok (.ireturn, 1) := by decide +kernel
theorem d_MO_eRead_119 : decode prog_14_method_21_code 119 = .ok (.iconst 0, 1) := by decide +kernel
theorem d_MO_eRead_120 : decode prog_14_method_21_code 120 = .ok (.istore_n 2, 1) := by decide +kernel
theorem d_MO_eRead_121 : decode prog_14_method_21_code 121 = .ok (.goto (-107), 3) := by decide +kernel
theorem d_MO_eRead_124 : decode prog_14_method_21_code 124 = .ok (.aload_n 0, 1) := by decide +kernel
theorem d_MO_eRead_125 : decode prog_14_method_21_code 125 = .ok (.getfield 122, 3) := by decide +kernel
theorem d_MO_eRead_128 : decode prog_14_method_21_code 128 = .ok (.bipush 40, 2) := by decide +kernel
theorem d_MO_eRead_130 : decode prog_14_method_21_code 130 = .ok (.if_icmp .ne 18, 3) := by decide +kernel
theorem d_MO_eRead_133 : decode prog_14_method_21_code 133 = .ok (.aload_n 0, 1) := by decide +kernel
theorem d_MO_eRead_134 : decode prog_14_method_21_code 134 = .ok (.iconst 0, 1) := by decide +kernel
theorem d_MO_eRead_135 : decode prog_14_method_21_code 135 = .ok (.invokevirtual 159, 3) := by decide +kernel
theorem d_MO_eRead_138 : decode prog_14_method_21_code 138 = .ok (.ifCond .ne 5, 3) := by decide +kernel
theorem d_MO_eRead_141 : decode prog_14_method_21_code 141 = .ok (.iconst 0, 1) := by decide +kernel
theorem d_MO_eRead_142 : decode prog_14_method_21_code 142 = .ok (.ireturn, 1) := by decide +kernel
theorem d_MO_eRead_143 : decode prog_14_method_21_code 143 = .ok (.iconst 1, 1) := by decide +kernel
theorem d_MO_eRead_144 : decode prog_14_method_21_code 144 = .ok (.istore_n 2, 1) := by decide +kernel
theorem d_MO_eRead_145 : decode prog_14_method_21_code 145 = .ok (.goto (-131), 3) := by decide +kernel
theorem d_MO_eRead_148 : decode prog_14_method_21_code 148 = .ok (.iconst 0, 1) := by decide +kernel
theorem d_MO_eRead_149 : decode prog_14_method_21_code 149 = .ok (.ireturn, 1) := by decide +kernel
theorem d_MO_eRead_150 : decode prog_14_method_21_code 150 = .ok (.aload_n 0, 1) := by decide +kernel
theorem d_MO_eRead_151 : decode prog_14_method_21_code 151 = .ok (.getfield 122, 3) := by decide +kernel
theorem d_MO_eRead_154 : decode prog_14_method_21_code 154 = .ok (.bipush 59, 2) := by decide +kernel
theorem d_MO_eRead_156 : decode prog_14_method_21_code 156 = .ok (.if_icmp .ne 21, 3) := by decide +kernel
theorem d_MO_eRead_159 : decode prog_14_method_21_code 159 = .ok (.aload_n 0, 1) := by decide +kernel
theorem d_MO_eRead_160 : decode prog_14_method_21_code 160 = .ok (.iconst 1, 1) := by decide +kernel
theorem d_MO_eRead_161 : decode prog_14_method_21_code 161 = .ok (.invokevirtual 152, 3) := by decide +kernel
theorem d_MO_eRead_164 : decode prog_14_method_21_code 164 = .ok (.aload_n 0, 1) := by decide +kernel
theorem d_MO_eRead_165 : decode prog_14_method_21_code 165 = .ok (.getfield 135, 3) := by decide +kernel
theorem d_MO_eRead_168 : decode prog_14_method_21_code 168 = .ok (.ifCond .ne 7, 3) := by decide +kernel
theorem d_MO_eRead_171 : decode prog_14_method_21_code 171 = .ok (.iconst 1, 1) := by decide +kernel
theorem d_MO_eRead_172 : decode prog_14_method_21_code 172 = .ok (.goto 4, 3) := by decide +kernel
theorem d_MO_eRead_175 : decode prog_14_method_21_code 175 = .ok (.iconst 0, 1) := by decide +kernel
theorem d_MO_eRead_176 : decode prog_14_method_21_code 176 = .ok (.ireturn, 1) := by decide +kernel
theorem d_MO_eRead_177 : decode prog_14_method_21_code 177 = .ok (.aload_n 0, 1) := by decide +kernel
theorem d_MO_eRead_178 : decode prog_14_method_21_code 178 = .ok (.getfield 122, 3) := by decide +kernel
theorem d_MO_eRead_181 : decode prog_14_method_21_code 181 = .ok (.bipush 41, 2) := by decide +kernel
theorem d_MO_eRead_183 : decode prog_14_method_21_code 183 = .ok (.if_icmp .ne 46, 3) := by decide +kernel
theorem d_MO_eRead_186 : decode prog_14_method_21_code 186 = .ok (.aload_n 0, 1) := by decide +kernel
theorem d_MO_eRead_187 : decode prog_14_method_21_code 187 = .ok (.iconst 1, 1) := by decide +kernel
theorem d_MO_eRead_188 : decode prog_14_method_21_code 188 = .ok (.invokevirtual 152, 3) := by decide +kernel
theorem d_MO_eRead_191 : decode prog_14_method_21_code 191 = .ok (.aload_n 0, 1) := by decide +kernel
theorem d_MO_eRead_192 : decode prog_14_method_21_code 192 = .ok (.getfield 135, 3) := by decide +kernel
theorem d_MO_eRead_195 : decode prog_14_method_21_code 195 = .ok (.ifCond .ne 5, 3) := by decide +kernel
theorem d_MO_eRead_198 : decode prog_14_method_21_code 198 = .ok (.iconst 0, 1) := by decide +kernel
theorem d_MO_eRead_199 : decode prog_14_method_21_code 199 = .ok (.ireturn, 1) := by decide +kernel
theorem d_MO_eRead_200 : decode prog_14_method_21_code 200 = .ok (.aload_n 0, 1) := by decide +kernel
theorem d_MO_eRead_201 : decode prog_14_method_21_code 201 = .ok (.dup, 1) := by decide +kernel
theorem d_MO_eRead_202 : decode prog_14_method_21_code 202 = .ok (.getfield 135, 3) := by decide +kernel
theorem d_MO_eRead_205 : decode prog_14_method_21_code 205 = .ok (.iconst 1, 1) := by decide +kernel
theorem d_MO_eRead_206 : decode prog_14_method_21_code 206 = .ok (.isub, 1) := by decide +kernel
theorem d_MO_eRead_207 : decode prog_14_method_21_code 207 = .ok (.putfield 135, 3) := by decide +kernel
theorem d_MO_eRead_210 : decode prog_14_method_21_code 210 = .ok (.aload_n 0, 1) := by decide +kernel
theorem d_MO_eRead_211 : decode prog_14_method_21_code 211 = .ok (.dup, 1) := by decide +kernel
theorem d_MO_eRead_212 : decode prog_14_method_21_code 212 = .ok (.getfield 142, 3) := by decide +kernel
theorem d_MO_eRead_215 : decode prog_14_method_21_code 215 = .ok (.iconst 1, 1) := by decide +kernel
theorem d_MO_eRead_216 : decode prog_14_method_21_code 216 = .ok (.isub, 1) := by decide +kernel
theorem d_MO_eRead_217 : decode prog_14_method_21_code 217 = .ok (.putfield 142, 3) := by decide +kernel
theorem d_MO_eRead_220 : decode prog_14_method_21_code 220 = .ok (.aload_n 0, 1) := by decide +kernel
theorem d_MO_eRead_221 : decode prog_14_method_21_code 221 = .ok (.bipush 7, 2) := by decide +kernel
theorem d_MO_eRead_223 : decode prog_14_method_21_code 223 = .ok (.invokevirtual 152, 3) := by decide +kernel
theorem d_MO_eRead_226 : decode prog_14_method_21_code 226 = .ok (.goto (-212), 3) := by decide +kernel
theorem d_MO_eRead_229 : decode prog_14_method_21_code 229 = .ok (.aload_n 0, 1) := by decide +kernel
theorem d_MO_eRead_230 : decode prog_14_method_21_code 230 = .ok (.invokevirtual 162, 3) := by decide +kernel
theorem d_MO_eRead_233 : decode prog_14_method_21_code 233 = .ok (.istore_n 3, 1) := by decide +kernel
theorem d_MO_eRead_234 : decode prog_14_method_21_code 234 = .ok (.iload_n 3, 1) := by decide +kernel
theorem d_MO_eRead_235 : decode prog_14_method_21_code 235 = .ok (.iconst (-1), 1) := by decide +kernel
theorem d_MO_eRead_236 : decode prog_14_method_21_code 236 = .ok (.if_icmp .eq 11, 3) := by decide +kernel
theorem d_MO_eRead_239 : decode prog_14_method_21_code 239 = .ok (.aload_n 0, 1) := by decide +kernel
theorem d_MO_eRead_240 : decode prog_14_method_21_code 240 = .ok (.iload_n 3, 1) := by decide +kernel
theorem d_MO_eRead_241 : decode prog_14_method_21_code 241 = .ok (.invokevirtual 165, 3) := by decide +kernel
theorem d_MO_eRead_244 : decode prog_14_method_21_code 244 = .ok (.ifCond .ne 5, 3) := by decide +kernel
theorem d_MO_eRead_247 : decode prog_14_method_21_code 247 = .ok (.iconst 0, 1) := by decide +kernel
theorem d_MO_eRead_248 : decode prog_14_method_21_code 248 = .ok (.ireturn, 1) := by decide +kernel
theorem d_MO_eRead_249 : decode prog_14_method_21_code 249 = .ok (.iconst 1, 1) := by decide +kernel
theorem d_MO_eRead_250 : decode prog_14_method_21_code 250 = .ok (.istore_n 1, 1) := by decide +kernel
theorem d_MO_eRead_251 : decode prog_14_method_21_code 251 = .ok (.iload_n 3, 1) := by decide +kernel
theorem d_MO_eRead_252 : decode prog_14_method_21_code 252 = .ok (.bipush 12, 2) := by decide +kernel
theorem d_MO_eRead_254 : decode prog_14_method_21_code 254 = .ok (.if_icmp .gt 7, 3) := by decide +kernel
theorem d_MO_eRead_257 : decode prog_14_method_21_code 257 = .ok (.iconst 1, 1) := by decide +kernel
theorem d_MO_eRead_258 : decode prog_14_method_21_code 258 = .ok (.goto 4, 3) := by decide +kernel
theorem d_MO_eRead_261 : decode prog_14_method_21_code 261 = .ok (.iconst 0, 1) := by decide +kernel
theorem d_MO_eRead_262 : decode prog_14_method_21_code 262 = .ok (.istore_n 2, 1) := by decide +kernel
theorem d_MO_eRead_263 : decode prog_14_method_21_code 263 = .ok (.goto (-249), 3) := by decide +kernel
def p_MO_eRead_262 (Q : Int32 → AH → Prop) (K14 : Int32 → Int32 → AH → Prop) (x1 : Int32) (s0 : Int32) (h : AH) : Prop := K14 x1 s0 h
def p_MO_eRead_99 (Q : Int32 → AH → Prop) (K14 : Int32 → Int32 → AH → Prop) (x1 : Int32) (h : AH) : Prop := ((¬ (h.1 59 23) = 45 → ((¬ (h.1 59 23) = 40 → Q 0 h) ∧ ((h.1 59 23) = 40 → p_MO_opensOne (fun r2 h1 => ((¬ r2 = 0 → K14 x1 1 h1) ∧ (r2 = 0 → Q 0 h1))) 0 h))) ∧ ((h.1 59 23) = 45 → p_MO_opensOne (fun r4 h3 => ((¬ r4 = 0 → K14 x1 0 h3) ∧ (r4 = 0 → Q 0 h3))) 19 h))
def p_MO_eRead_61 (Q : Int32 → AH → Prop) (K14 : Int32 → Int32 → AH → Prop) (x2 : Int32) (s1 : Int32) (h : AH) : Prop := p_MO_puts (fun h1 => p_MO_unwinds (fun h2 => K14 0 x2 h2) 7 h1) s1 h
def p_MO_eRead_38 (Q : Int32 → AH → Prop) (K14 : Int32 → Int32 → AH → Prop) (x2 : Int32) (h : AH) : Prop := ((¬ (h.1 59 23) = 1 → p_MO_eRead_61 Q  K14 x2 (h.1 59 24) h) ∧ ((h.1 59 23) = 1 → p_MO_eRead_61 Q  K14 x2 (100000 + (h.1 59 24)) h))
def p_MO_eRead_14 (Q : Int32 → AH → Prop) : Nat → Int32 → Int32 → AH → Prop
  | 0 => fun _ _ _ => False
  | n + 1 => fun x1 x2 h => let K14 := p_MO_eRead_14 Q n; p_MO_next (fun h1 => ((x1 = 0 → ((¬ (h1.1 59 23) = 59 → ((¬ (h1.1 59 23) = 41 → p_MO_signOf (fun r3 h2 => ((r3 = (-1) → Q 0 h2) ∧ (¬ r3 = (-1) → p_MO_between (fun r5 h4 => ((¬ r5 = 0 → ((12 < r3 → p_MO_eRead_262 Q  K14 1 0 h4) ∧ (¬ 12 < r3 → p_MO_eRead_262 Q  K14 1 1 h4))) ∧ (r5 = 0 → Q 0 h4))) r3 h2))) h1) ∧ ((h1.1 59 23) = 41 → p_MO_unwinds (fun h6 => ((¬ (h6.1 59 27) = 0 → p_MO_unwinds (fun h7 => K14 x1 x2 h7) 7 (wI (wI h6 59 27 ((h6.1 59 27) - 1)) 59 28 ((h6.1 59 28) - 1))) ∧ ((h6.1 59 27) = 0 → Q 0 h6))) 1 h1))) ∧ ((h1.1 59 23) = 59 → p_MO_unwinds (fun h8 => ((¬ (h8.1 59 27) = 0 → Q 0 h8) ∧ ((h8.1 59 27) = 0 → Q 1 h8))) 1 h1))) ∧ (¬ x1 = 0 → (((h1.1 59 23) = 1 → p_MO_eRead_38 Q  K14 x2 h1) ∧ (¬ (h1.1 59 23) = 1 → ((¬ (h1.1 59 23) = 2 → ((¬ (h1.1 59 23) = 6 → p_MO_eRead_99 Q  K14 x1 h1) ∧ ((h1.1 59 23) = 6 → ((x2 = 0 → p_MO_eRead_99 Q  K14 x1 h1) ∧ (¬ x2 = 0 → p_MO_opensOne (fun r10 h9 => ((¬ r10 = 0 → K14 x1 x2 h9) ∧ (r10 = 0 → Q 0 h9))) 13 h1))))) ∧ ((h1.1 59 23) = 2 → p_MO_eRead_38 Q  K14 x2 h1))))))) h
def p_MO_eRead (Q : Int32 → AH → Prop) (h : AH) : Prop := ∃ n, p_MO_eRead_14 Q   n 1 1 (wI (wI h 59 27 0) 59 28 0)
set_option maxRecDepth 20000 in
theorem r_MO_eRead_262 {G : GG} {d : Nat} {Q : Int32 → AH → Prop} {K14 : Int32 → Int32 → AH → Prop} (k14 : ∀ x1 x2 h, K14 x1 x2 h → Att G T1 m_MO_eRead (d + 3) 14 [some (.ref 59), some (.int x1), some (.int x2), none] [] h 0 0 (iQ Q)) (x1 : Int32) (s0 : Int32) (h : AH) (H : p_MO_eRead_262 Q K14 x1 s0 h) : Att G T1 m_MO_eRead (d + 3) 262 [some (.ref 59), some (.int x1), none, none] [.int s0] h 0 0 (iQ Q) := by
  refine A_istore_n [some (.ref 59), some (.int x1), some (.int s0), none] d_MO_eRead_262 (by decide) rfl rfl ?_
  refine A_goto 14 d_MO_eRead_263 (by decide) ?_
  exact k14 _ _ _ H
set_option maxRecDepth 20000 in
theorem r_MO_eRead_99 {G : GG} {d : Nat} {Q : Int32 → AH → Prop} {K14 : Int32 → Int32 → AH → Prop} (k14 : ∀ x1 x2 h, K14 x1 x2 h → Att G T1 m_MO_eRead (d + 3) 14 [some (.ref 59), some (.int x1), some (.int x2), none] [] h 0 0 (iQ Q)) (x1 : Int32) (h : AH) (H : p_MO_eRead_99 Q K14 x1 h) : Att G T1 m_MO_eRead (d + 3) 99 [some (.ref 59), some (.int x1), none, none] [] h 0 0 (iQ Q) := by
  refine A_aload_n d_MO_eRead_99 rfl ?_
  refine A_get (v := .int (h.1 59 23)) d_MO_eRead_100 (fo_MO_122_12 rfl) (vA_s (by decide)) rfl (by first | rfl | (show Value.int _ = Value.int _; simp [wI, wL, wR, wC, up])) ?_
  refine A_bipush 45 (by decide) d_MO_eRead_103 ?_
  refine A_icmp_ne 124 d_MO_eRead_105 (by decide) (fun z => ?_) (fun z => ?_)
  · have H := H.1 z
    refine A_aload_n d_MO_eRead_124 rfl ?_
    refine A_get (v := .int (h.1 59 23)) d_MO_eRead_125 (fo_MO_122_12 rfl) (vA_s (by decide)) rfl (by first | rfl | (show Value.int _ = Value.int _; simp [wI, wL, wR, wC, up])) ?_
    refine A_bipush 40 (by decide) d_MO_eRead_128 ?_
    refine A_icmp_ne 148 d_MO_eRead_130 (by decide) (fun z => ?_) (fun z => ?_)
    · have H := H.1 z
      refine A_iconst 0 (by decide) d_MO_eRead_148 ?_
      exact A_iret d_MO_eRead_149 rfl rfl H
    · have H := H.2 z
      refine A_aload_n d_MO_eRead_133 rfl ?_
      refine A_iconst 0 (by decide) d_MO_eRead_134 ?_
      refine A_cI [.ref 59, .int 0] [] (ct_MO_159 rfl) d_MO_eRead_135 rfl rfl (by decide) (Nat.le_of_ble_eq_true rfl) (rcA_o (c := 12) rfl (vA_s (by decide)) rfl (by decide) rfl) (ok_MO_opensOne (d := d + 1) H) (fun r2 h1 H => ?_)
      refine A_if_ne 143 d_MO_eRead_138 (by decide) (fun z => ?_) (fun z => ?_)
      · have H := H.1 z
        refine A_iconst 1 (by decide) d_MO_eRead_143 ?_
        refine A_istore_n [some (.ref 59), some (.int x1), some (.int 1), none] d_MO_eRead_144 (by decide) rfl rfl ?_
        refine A_goto 14 d_MO_eRead_145 (by decide) ?_
        exact k14 _ _ _ H
      · have H := H.2 z
        refine A_iconst 0 (by decide) d_MO_eRead_141 ?_
        exact A_iret d_MO_eRead_142 rfl rfl H
  · have H := H.2 z
    refine A_aload_n d_MO_eRead_108 rfl ?_
    refine A_bipush 19 (by decide) d_MO_eRead_109 ?_
    refine A_cI [.ref 59, .int 19] [] (ct_MO_159 rfl) d_MO_eRead_111 rfl rfl (by decide) (Nat.le_of_ble_eq_true rfl) (rcA_o (c := 12) rfl (vA_s (by decide)) rfl (by decide) rfl) (ok_MO_opensOne (d := d + 1) H) (fun r4 h3 H => ?_)
    refine A_if_ne 119 d_MO_eRead_114 (by decide) (fun z => ?_) (fun z => ?_)
    · have H := H.1 z
      refine A_iconst 0 (by decide) d_MO_eRead_119 ?_
      refine A_istore_n [some (.ref 59), some (.int x1), some (.int 0), none] d_MO_eRead_120 (by decide) rfl rfl ?_
      refine A_goto 14 d_MO_eRead_121 (by decide) ?_
      exact k14 _ _ _ H
    · have H := H.2 z
      refine A_iconst 0 (by decide) d_MO_eRead_117 ?_
      exact A_iret d_MO_eRead_118 rfl rfl H
set_option maxRecDepth 20000 in
theorem r_MO_eRead_61 {G : GG} {d : Nat} {Q : Int32 → AH → Prop} {K14 : Int32 → Int32 → AH → Prop} (k14 : ∀ x1 x2 h, K14 x1 x2 h → Att G T1 m_MO_eRead (d + 3) 14 [some (.ref 59), some (.int x1), some (.int x2), none] [] h 0 0 (iQ Q)) (x2 : Int32) (s1 : Int32) (h : AH) (H : p_MO_eRead_61 Q K14 x2 s1 h) : Att G T1 m_MO_eRead (d + 3) 61 [some (.ref 59), none, some (.int x2), none] [.int s1, .ref 59] h 0 0 (iQ Q) := by
  refine A_cV [.ref 59, .int s1] [] (ct_MO_145 rfl) d_MO_eRead_61 rfl rfl (by decide) (Nat.le_of_ble_eq_true rfl) (rcA_o (c := 12) rfl (vA_s (by decide)) rfl (by decide) rfl) (ok_MO_puts (d := d + 2) H) (fun h1 H => ?_)
  refine A_aload_n d_MO_eRead_64 rfl ?_
  refine A_bipush 7 (by decide) d_MO_eRead_65 ?_
  refine A_cV [.ref 59, .int 7] [] (ct_MO_152 rfl) d_MO_eRead_67 rfl rfl (by decide) (Nat.le_of_ble_eq_true rfl) (rcA_o (c := 12) rfl (vA_s (by decide)) rfl (by decide) rfl) (ok_MO_unwinds (d := d + 1) H) (fun h2 H => ?_)
  refine A_iconst 0 (by decide) d_MO_eRead_70 ?_
  refine A_istore_n [some (.ref 59), some (.int 0), some (.int x2), none] d_MO_eRead_71 (by decide) rfl rfl ?_
  refine A_goto 14 d_MO_eRead_72 (by decide) ?_
  exact k14 _ _ _ H
set_option maxRecDepth 20000 in
theorem r_MO_eRead_38 {G : GG} {d : Nat} {Q : Int32 → AH → Prop} {K14 : Int32 → Int32 → AH → Prop} (k14 : ∀ x1 x2 h, K14 x1 x2 h → Att G T1 m_MO_eRead (d + 3) 14 [some (.ref 59), some (.int x1), some (.int x2), none] [] h 0 0 (iQ Q)) (x2 : Int32) (h : AH) (H : p_MO_eRead_38 Q K14 x2 h) : Att G T1 m_MO_eRead (d + 3) 38 [some (.ref 59), none, some (.int x2), none] [] h 0 0 (iQ Q) := by
  refine A_aload_n d_MO_eRead_38 rfl ?_
  refine A_aload_n d_MO_eRead_39 rfl ?_
  refine A_get (v := .int (h.1 59 23)) d_MO_eRead_40 (fo_MO_122_12 rfl) (vA_s (by decide)) rfl (by first | rfl | (show Value.int _ = Value.int _; simp [wI, wL, wR, wC, up])) ?_
  refine A_iconst 1 (by decide) d_MO_eRead_43 ?_
  refine A_icmp_ne 57 d_MO_eRead_44 (by decide) (fun z => ?_) (fun z => ?_)
  · have H := H.1 z
    refine A_aload_n d_MO_eRead_57 rfl ?_
    refine A_get (v := .int (h.1 59 24)) d_MO_eRead_58 (fo_MO_125_12 rfl) (vA_s (by decide)) rfl (by first | rfl | (show Value.int _ = Value.int _; simp [wI, wL, wR, wC, up])) ?_
    exact r_MO_eRead_61  k14 _ _ _ H
  · have H := H.2 z
    refine A_ldc 100000 d_MO_eRead_47 (tG 855 (by decide +kernel) (by decide +kernel)) ?_
    refine A_aload_n d_MO_eRead_49 rfl ?_
    refine A_get (v := .int (h.1 59 24)) d_MO_eRead_50 (fo_MO_125_12 rfl) (vA_s (by decide)) rfl (by first | rfl | (show Value.int _ = Value.int _; simp [wI, wL, wR, wC, up])) ?_
    refine A_iadd d_MO_eRead_53 ?_
    refine A_goto 61 d_MO_eRead_54 (by decide) ?_
    exact r_MO_eRead_61  k14 _ _ _ H
set_option maxRecDepth 20000 in
theorem r_MO_eRead_14 {G : GG} {d : Nat} {Q : Int32 → AH → Prop} : ∀ (n : Nat) (x1 : Int32) (x2 : Int32) (h : AH), p_MO_eRead_14 Q n x1 x2 h → Att G T1 m_MO_eRead (d + 3) 14 [some (.ref 59), some (.int x1), some (.int x2), none] [] h 0 0 (iQ Q) := by
  intro n
  induction n with
  | zero => intro x1 x2 h H; exact H.elim
  | succ n k14 =>
    intro x1 x2 h H
    refine A_aload_n d_MO_eRead_14 rfl ?_
    refine A_cV [.ref 59] [] (ct_MO_155 rfl) d_MO_eRead_15 rfl rfl (by decide) (Nat.le_of_ble_eq_true rfl) (rcA_o (c := 12) rfl (vA_s (by decide)) rfl (by decide) rfl) (ok_MO_next (d := d + 1) H) (fun h1 H => ?_)
    refine A_iload_n d_MO_eRead_18 rfl ?_
    refine A_if_eq 150 d_MO_eRead_19 (by decide) (fun z => ?_) (fun z => ?_)
    · have H := H.1 z
      refine A_aload_n d_MO_eRead_150 rfl ?_
      refine A_get (v := .int (h1.1 59 23)) d_MO_eRead_151 (fo_MO_122_12 rfl) (vA_s (by decide)) rfl (by first | rfl | (show Value.int _ = Value.int _; simp [wI, wL, wR, wC, up])) ?_
      refine A_bipush 59 (by decide) d_MO_eRead_154 ?_
      refine A_icmp_ne 177 d_MO_eRead_156 (by decide) (fun z => ?_) (fun z => ?_)
      · have H := H.1 z
        refine A_aload_n d_MO_eRead_177 rfl ?_
        refine A_get (v := .int (h1.1 59 23)) d_MO_eRead_178 (fo_MO_122_12 rfl) (vA_s (by decide)) rfl (by first | rfl | (show Value.int _ = Value.int _; simp [wI, wL, wR, wC, up])) ?_
        refine A_bipush 41 (by decide) d_MO_eRead_181 ?_
        refine A_icmp_ne 229 d_MO_eRead_183 (by decide) (fun z => ?_) (fun z => ?_)
        · have H := H.1 z
          refine A_aload_n d_MO_eRead_229 rfl ?_
          refine A_cI [.ref 59] [] (ct_MO_162 rfl) d_MO_eRead_230 rfl rfl (by decide) (Nat.le_of_ble_eq_true rfl) (rcA_o (c := 12) rfl (vA_s (by decide)) rfl (by decide) rfl) (ok_MO_signOf (d := d + 2) H) (fun r3 h2 H => ?_)
          refine A_istore_n [some (.ref 59), some (.int x1), some (.int x2), some (.int r3)] d_MO_eRead_233 (by decide) rfl rfl ?_
          refine A_iload_n d_MO_eRead_234 rfl ?_
          refine A_iconst (-1) (by decide) d_MO_eRead_235 ?_
          refine A_icmp_eq 247 d_MO_eRead_236 (by decide) (fun z => ?_) (fun z => ?_)
          · have H := H.1 z
            refine A_iconst 0 (by decide) d_MO_eRead_247 ?_
            exact A_iret d_MO_eRead_248 rfl rfl H
          · have H := H.2 z
            refine A_aload_n d_MO_eRead_239 rfl ?_
            refine A_iload_n d_MO_eRead_240 rfl ?_
            refine A_cI [.ref 59, .int r3] [] (ct_MO_165 rfl) d_MO_eRead_241 rfl rfl (by decide) (Nat.le_of_ble_eq_true rfl) (rcA_o (c := 12) rfl (vA_s (by decide)) rfl (by decide) rfl) (ok_MO_between (d := d) H) (fun r5 h4 H => ?_)
            refine A_if_ne 249 d_MO_eRead_244 (by decide) (fun z => ?_) (fun z => ?_)
            · have H := H.1 z
              refine A_iconst 1 (by decide) d_MO_eRead_249 ?_
              refine A_istore_n [some (.ref 59), some (.int 1), some (.int x2), some (.int r3)] d_MO_eRead_250 (by decide) rfl rfl ?_
              refine A_iload_n d_MO_eRead_251 rfl ?_
              refine A_bipush 12 (by decide) d_MO_eRead_252 ?_
              refine A_icmp_gt 261 d_MO_eRead_254 (by decide) (fun z => ?_) (fun z => ?_)
              · have H := H.1 z
                refine A_iconst 0 (by decide) d_MO_eRead_261 ?_
                refine A_sub (L' := [some (.ref 59), some (.int 1), none, none]) ⟨rfl, rfl, trivial⟩ ?_
                exact r_MO_eRead_262  k14 _ _ _ H
              · have H := H.2 z
                refine A_iconst 1 (by decide) d_MO_eRead_257 ?_
                refine A_goto 262 d_MO_eRead_258 (by decide) ?_
                refine A_sub (L' := [some (.ref 59), some (.int 1), none, none]) ⟨rfl, rfl, trivial⟩ ?_
                exact r_MO_eRead_262  k14 _ _ _ H
            · have H := H.2 z
              refine A_iconst 0 (by decide) d_MO_eRead_247 ?_
              exact A_iret d_MO_eRead_248 rfl rfl H
        · have H := H.2 z
          refine A_aload_n d_MO_eRead_186 rfl ?_
          refine A_iconst 1 (by decide) d_MO_eRead_187 ?_
          refine A_cV [.ref 59, .int 1] [] (ct_MO_152 rfl) d_MO_eRead_188 rfl rfl (by decide) (Nat.le_of_ble_eq_true rfl) (rcA_o (c := 12) rfl (vA_s (by decide)) rfl (by decide) rfl) (ok_MO_unwinds (d := d + 1) H) (fun h6 H => ?_)
          refine A_aload_n d_MO_eRead_191 rfl ?_
          refine A_get (v := .int (h6.1 59 27)) d_MO_eRead_192 (fo_MO_135_12 rfl) (vA_s (by decide)) rfl (by first | rfl | (show Value.int _ = Value.int _; simp [wI, wL, wR, wC, up])) ?_
          refine A_if_ne 200 d_MO_eRead_195 (by decide) (fun z => ?_) (fun z => ?_)
          · have H := H.1 z
            refine A_aload_n d_MO_eRead_200 rfl ?_
            refine A_dup rfl d_MO_eRead_201 ?_
            refine A_get (v := .int (h6.1 59 27)) d_MO_eRead_202 (fo_MO_135_12 rfl) (vA_s (by decide)) rfl (by first | rfl | (show Value.int _ = Value.int _; simp [wI, wL, wR, wC, up])) ?_
            refine A_iconst 1 (by decide) d_MO_eRead_205 ?_
            refine A_isub d_MO_eRead_206 ?_
            refine A_putI (k := 27) d_MO_eRead_207 (fo_MO_135_12 rfl) (Or.inr ⟨rfl, _, ft_12_27⟩) (fun z => by cases z) rfl (vA_s (by decide)) rfl rfl rfl ?_
            refine A_aload_n d_MO_eRead_210 rfl ?_
            refine A_dup rfl d_MO_eRead_211 ?_
            refine A_get (v := .int (h6.1 59 28)) d_MO_eRead_212 (fo_MO_142_12 rfl) (vA_s (by decide)) rfl (by first | rfl | (show Value.int _ = Value.int _; simp [wI, wL, wR, wC, up])) ?_
            refine A_iconst 1 (by decide) d_MO_eRead_215 ?_
            refine A_isub d_MO_eRead_216 ?_
            refine A_putI (k := 28) d_MO_eRead_217 (fo_MO_142_12 rfl) (Or.inr ⟨rfl, _, ft_12_28⟩) (fun z => by cases z) rfl (vA_s (by decide)) rfl rfl rfl ?_
            refine A_aload_n d_MO_eRead_220 rfl ?_
            refine A_bipush 7 (by decide) d_MO_eRead_221 ?_
            refine A_cV [.ref 59, .int 7] [] (ct_MO_152 rfl) d_MO_eRead_223 rfl rfl (by decide) (Nat.le_of_ble_eq_true rfl) (rcA_o (c := 12) rfl (vA_s (by decide)) rfl (by decide) rfl) (ok_MO_unwinds (d := d + 1) H) (fun h7 H => ?_)
            refine A_goto 14 d_MO_eRead_226 (by decide) ?_
            exact k14 _ _ _ H
          · have H := H.2 z
            refine A_iconst 0 (by decide) d_MO_eRead_198 ?_
            exact A_iret d_MO_eRead_199 rfl rfl H
      · have H := H.2 z
        refine A_aload_n d_MO_eRead_159 rfl ?_
        refine A_iconst 1 (by decide) d_MO_eRead_160 ?_
        refine A_cV [.ref 59, .int 1] [] (ct_MO_152 rfl) d_MO_eRead_161 rfl rfl (by decide) (Nat.le_of_ble_eq_true rfl) (rcA_o (c := 12) rfl (vA_s (by decide)) rfl (by decide) rfl) (ok_MO_unwinds (d := d + 1) H) (fun h8 H => ?_)
        refine A_aload_n d_MO_eRead_164 rfl ?_
        refine A_get (v := .int (h8.1 59 27)) d_MO_eRead_165 (fo_MO_135_12 rfl) (vA_s (by decide)) rfl (by first | rfl | (show Value.int _ = Value.int _; simp [wI, wL, wR, wC, up])) ?_
        refine A_if_ne 175 d_MO_eRead_168 (by decide) (fun z => ?_) (fun z => ?_)
        · have H := H.1 z
          refine A_iconst 0 (by decide) d_MO_eRead_175 ?_
          exact A_iret d_MO_eRead_176 rfl rfl H
        · have H := H.2 z
          refine A_iconst 1 (by decide) d_MO_eRead_171 ?_
          refine A_goto 176 d_MO_eRead_172 (by decide) ?_
          exact A_iret d_MO_eRead_176 rfl rfl H
    · have H := H.2 z
      refine A_aload_n d_MO_eRead_22 rfl ?_
      refine A_get (v := .int (h1.1 59 23)) d_MO_eRead_23 (fo_MO_122_12 rfl) (vA_s (by decide)) rfl (by first | rfl | (show Value.int _ = Value.int _; simp [wI, wL, wR, wC, up])) ?_
      refine A_iconst 1 (by decide) d_MO_eRead_26 ?_
      refine A_icmp_eq 38 d_MO_eRead_27 (by decide) (fun z => ?_) (fun z => ?_)
      · have H := H.1 z
        refine A_sub (L' := [some (.ref 59), none, some (.int x2), none]) ⟨rfl, rfl, trivial⟩ ?_
        exact r_MO_eRead_38  k14 _ _ H
      · have H := H.2 z
        refine A_aload_n d_MO_eRead_30 rfl ?_
        refine A_get (v := .int (h1.1 59 23)) d_MO_eRead_31 (fo_MO_122_12 rfl) (vA_s (by decide)) rfl (by first | rfl | (show Value.int _ = Value.int _; simp [wI, wL, wR, wC, up])) ?_
        refine A_iconst 2 (by decide) d_MO_eRead_34 ?_
        refine A_icmp_ne 75 d_MO_eRead_35 (by decide) (fun z => ?_) (fun z => ?_)
        · have H := H.1 z
          refine A_aload_n d_MO_eRead_75 rfl ?_
          refine A_get (v := .int (h1.1 59 23)) d_MO_eRead_76 (fo_MO_122_12 rfl) (vA_s (by decide)) rfl (by first | rfl | (show Value.int _ = Value.int _; simp [wI, wL, wR, wC, up])) ?_
          refine A_bipush 6 (by decide) d_MO_eRead_79 ?_
          refine A_icmp_ne 99 d_MO_eRead_81 (by decide) (fun z => ?_) (fun z => ?_)
          · have H := H.1 z
            refine A_sub (L' := [some (.ref 59), some (.int x1), none, none]) ⟨rfl, rfl, trivial⟩ ?_
            exact r_MO_eRead_99  k14 _ _ H
          · have H := H.2 z
            refine A_iload_n d_MO_eRead_84 rfl ?_
            refine A_if_eq 99 d_MO_eRead_85 (by decide) (fun z => ?_) (fun z => ?_)
            · have H := H.1 z
              refine A_sub (L' := [some (.ref 59), some (.int x1), none, none]) ⟨rfl, rfl, trivial⟩ ?_
              exact r_MO_eRead_99  k14 _ _ H
            · have H := H.2 z
              refine A_aload_n d_MO_eRead_88 rfl ?_
              refine A_bipush 13 (by decide) d_MO_eRead_89 ?_
              refine A_cI [.ref 59, .int 13] [] (ct_MO_159 rfl) d_MO_eRead_91 rfl rfl (by decide) (Nat.le_of_ble_eq_true rfl) (rcA_o (c := 12) rfl (vA_s (by decide)) rfl (by decide) rfl) (ok_MO_opensOne (d := d + 1) H) (fun r10 h9 H => ?_)
              refine A_if_ne 14 d_MO_eRead_94 (by decide) (fun z => ?_) (fun z => ?_)
              · have H := H.1 z
                exact k14 _ _ _ H
              · have H := H.2 z
                refine A_iconst 0 (by decide) d_MO_eRead_97 ?_
                exact A_iret d_MO_eRead_98 rfl rfl H
        · have H := H.2 z
          refine A_sub (L' := [some (.ref 59), none, some (.int x2), none]) ⟨rfl, rfl, trivial⟩ ?_
          exact r_MO_eRead_38  k14 _ _ H
set_option maxRecDepth 20000 in
theorem r_MO_eRead_0 {G : GG} {d : Nat} {Q : Int32 → AH → Prop} (h : AH) (H : p_MO_eRead Q h) : Att G T1 m_MO_eRead (d + 3) 0 [some (.ref 59), none, none, none] [] h 0 0 (iQ Q) := by
  refine A_aload_n d_MO_eRead_0 rfl ?_
  refine A_iconst 0 (by decide) d_MO_eRead_1 ?_
  refine A_putI (k := 27) d_MO_eRead_2 (fo_MO_135_12 rfl) (Or.inr ⟨rfl, _, ft_12_27⟩) (fun z => by cases z) rfl (vA_s (by decide)) rfl rfl rfl ?_
  refine A_aload_n d_MO_eRead_5 rfl ?_
  refine A_iconst 0 (by decide) d_MO_eRead_6 ?_
  refine A_putI (k := 28) d_MO_eRead_7 (fo_MO_142_12 rfl) (Or.inr ⟨rfl, _, ft_12_28⟩) (fun z => by cases z) rfl (vA_s (by decide)) rfl rfl rfl ?_
  refine A_iconst 1 (by decide) d_MO_eRead_10 ?_
  refine A_istore_n [some (.ref 59), some (.int 1), none, none] d_MO_eRead_11 (by decide) rfl rfl ?_
  refine A_iconst 1 (by decide) d_MO_eRead_12 ?_
  refine A_istore_n [some (.ref 59), some (.int 1), some (.int 1), none] d_MO_eRead_13 (by decide) rfl rfl ?_
  obtain ⟨n9, H⟩ := H
  exact r_MO_eRead_14   n9 _ _ _ H
set_option maxRecDepth 20000 in
theorem ok_MO_eRead {G : GG} {d : Nat} {Q : Int32 → AH → Prop} {h : AH} (H : p_MO_eRead Q h) : WP G T1 m_MO_eRead (d + 3) [.ref 59] h 0 0 (iQ Q) := by
  exact WP.enter 3 (by decide) rfl rfl (r_MO_eRead_0 h H)
theorem d_MO_asks_0 : decode prog_14_method_28_code 0 = .ok (.aload_n 0, 1) := by decide +kernel
theorem d_MO_asks_1 : decode prog_14_method_28_code 1 = .ok (.iload_n 2, 1) := by decide +kernel
theorem d_MO_asks_2 : decode prog_14_method_28_code 2 = .ok (.invokevirtual 182, 3) := by decide +kernel
theorem d_MO_asks_5 : decode prog_14_method_28_code 5 = .ok (.ifCond .ne 6, 3) := by decide +kernel
theorem d_MO_asks_8 : decode prog_14_method_28_code 8 = .ok (.bipush (-5), 2) := by decide +kernel
theorem d_MO_asks_10 : decode prog_14_method_28_code 10 = .ok (.ireturn, 1) := by decide +kernel
theorem d_MO_asks_11 : decode prog_14_method_28_code 11 = .ok (.iload_n 1, 1) := by decide +kernel
theorem d_MO_asks_12 : decode prog_14_method_28_code 12 = .ok (.iconst 0, 1) := by decide +kernel
theorem d_MO_asks_13 : decode prog_14_method_28_code 13 = .ok (.iconst 2, 1) := by decide +kernel
theorem d_MO_asks_14 : decode prog_14_method_28_code 14 = .ok (.invokestatic 93, 3) := by decide +kernel
theorem d_MO_asks_17 : decode prog_14_method_28_code 17 = .ok (.ifCond .eq 27, 3) := by decide +kernel
theorem d_MO_asks_20 : decode prog_14_method_28_code 20 = .ok (.iload_n 3, 1) := by decide +kernel
theorem d_MO_asks_21 : decode prog_14_method_28_code 21 = .ok (.invokestatic 185, 3) := by decide +kernel
theorem d_MO_asks_24 : decode prog_14_method_28_code 24 = .ok (.ifCond .eq 20, 3) := by decide +kernel
theorem d_MO_asks_27 : decode prog_14_method_28_code 27 = .ok (.aload_n 0, 1) := by decide +kernel
theorem d_MO_asks_28 : decode prog_14_method_28_code 28 = .ok (.iload_n 1, 1) := by decide +kernel
theorem d_MO_asks_29 : decode prog_14_method_28_code 29 = .ok (.iload_n 2, 1) := by decide +kernel
theorem d_MO_asks_30 : decode prog_14_method_28_code 30 = .ok (.aload_n 0, 1) := by decide +kernel
theorem d_MO_asks_31 : decode prog_14_method_28_code 31 = .ok (.getfield 19, 3) := by decide +kernel
theorem d_MO_asks_34 : decode prog_14_method_28_code 34 = .ok (.iload_n 2, 1) := by decide +kernel
theorem d_MO_asks_35 : decode prog_14_method_28_code 35 = .ok (.iaload, 1) := by decide +kernel
theorem d_MO_asks_36 : decode prog_14_method_28_code 36 = .ok (.iload_n 3, 1) := by decide +kernel
theorem d_MO_asks_37 : decode prog_14_method_28_code 37 = .ok (.iconst 0, 1) := by decide +kernel
theorem d_MO_asks_38 : decode prog_14_method_28_code 38 = .ok (.invokevirtual 188, 3) := by decide +kernel
theorem d_MO_asks_41 : decode prog_14_method_28_code 41 = .ok (.goto 5, 3) := by decide +kernel
theorem d_MO_asks_44 : decode prog_14_method_28_code 44 = .ok (.bipush (-7), 2) := by decide +kernel
theorem d_MO_asks_46 : decode prog_14_method_28_code 46 = .ok (.ireturn, 1) := by decide +kernel
def p_MO_asks (Q : Int32 → AH → Prop) (x1 : Int32) (x2 : Int32) (x3 : Int32) (h : AH) : Prop := p_MO_isHouse (fun r2 h1 => ((¬ r2 = 0 → p_MO_in (fun r4 h3 => ((r4 = 0 → Q (-7) h3) ∧ (¬ r4 = 0 → p_MO_isMany (fun r6 h5 => ((r6 = 0 → Q (-7) h5) ∧ (¬ r6 = 0 → inb x2 7 ∧ p_MO_asksOf (fun r9 h8 => Q r9 h8) x1 x2 (h5.1 63 x2) x3 0 h5))) x3 h3))) x1 0 2 h1) ∧ (r2 = 0 → Q (-5) h1))) x2 h
set_option maxRecDepth 20000 in
theorem r_MO_asks_0 {G : GG} {d : Nat} {Q : Int32 → AH → Prop} (x1 : Int32) (x2 : Int32) (x3 : Int32) (h : AH) (H : p_MO_asks Q x1 x2 x3 h) : Att G T1 m_MO_asks (d + 3) 0 [some (.ref 59), some (.int x1), some (.int x2), some (.int x3)] [] h 0 0 (iQ Q) := by
  refine A_aload_n d_MO_asks_0 rfl ?_
  refine A_iload_n d_MO_asks_1 rfl ?_
  refine A_cI [.ref 59, .int x2] [] (ct_MO_182 rfl) d_MO_asks_2 rfl rfl (by decide) (Nat.le_of_ble_eq_true rfl) (rcA_o (c := 12) rfl (vA_s (by decide)) rfl (by decide) rfl) (ok_MO_isHouse (d := d + 1) H) (fun r2 h1 H => ?_)
  refine A_if_ne 11 d_MO_asks_5 (by decide) (fun z => ?_) (fun z => ?_)
  · have H := H.1 z
    refine A_iload_n d_MO_asks_11 rfl ?_
    refine A_iconst 0 (by decide) d_MO_asks_12 ?_
    refine A_iconst 2 (by decide) d_MO_asks_13 ?_
    refine A_cI [.int x1, .int 0, .int 2] [] (ct_MO_93 rfl) d_MO_asks_14 rfl rfl (by decide) (Nat.le_of_ble_eq_true rfl) trivial (ok_MO_in (d := d + 2) H) (fun r4 h3 H => ?_)
    refine A_if_eq 44 d_MO_asks_17 (by decide) (fun z => ?_) (fun z => ?_)
    · have H := H.1 z
      refine A_bipush (-7) (by decide) d_MO_asks_44 ?_
      exact A_iret d_MO_asks_46 rfl rfl H
    · have H := H.2 z
      refine A_iload_n d_MO_asks_20 rfl ?_
      refine A_cI [.int x3] [] (ct_MO_185 rfl) d_MO_asks_21 rfl rfl (by decide) (Nat.le_of_ble_eq_true rfl) trivial (ok_MO_isMany (d := d + 1) H) (fun r6 h5 H => ?_)
      refine A_if_eq 44 d_MO_asks_24 (by decide) (fun z => ?_) (fun z => ?_)
      · have H := H.1 z
        refine A_bipush (-7) (by decide) d_MO_asks_44 ?_
        exact A_iret d_MO_asks_46 rfl rfl H
      · have H := H.2 z
        refine A_aload_n d_MO_asks_27 rfl ?_
        refine A_iload_n d_MO_asks_28 rfl ?_
        refine A_iload_n d_MO_asks_29 rfl ?_
        refine A_aload_n d_MO_asks_30 rfl ?_
        refine A_get (v := .ref 63) d_MO_asks_31 (fo_MO_19_12 rfl) (vA_s (by decide)) rfl (by first | rfl | (show Value.int _ = Value.int _; simp [wI, wL, wR, wC, up])) ?_
        refine A_iload_n d_MO_asks_34 rfl ?_
        obtain ⟨c7, H⟩ := H
        refine A_ialdv (n := 7) (v := (h5.1 63 x2)) d_MO_asks_35 (vA_s (by decide)) rfl c7 rfl ?_
        refine A_iload_n d_MO_asks_36 rfl ?_
        refine A_iconst 0 (by decide) d_MO_asks_37 ?_
        refine A_cI [.ref 59, .int x1, .int x2, .int (h5.1 63 x2), .int x3, .int 0] [] (ct_MO_188 rfl) d_MO_asks_38 rfl rfl (by decide) (Nat.le_of_ble_eq_true rfl) (rcA_o (c := 12) rfl (vA_s (by decide)) rfl (by decide) rfl) (ok_MO_asksOf (d := d) H) (fun r9 h8 H => ?_)
        refine A_goto 46 d_MO_asks_41 (by decide) ?_
        exact A_iret d_MO_asks_46 rfl rfl H
  · have H := H.2 z
    refine A_bipush (-5) (by decide) d_MO_asks_8 ?_
    exact A_iret d_MO_asks_10 rfl rfl H
set_option maxRecDepth 20000 in
theorem ok_MO_asks {G : GG} {d : Nat} {Q : Int32 → AH → Prop} {x1 : Int32} {x2 : Int32} {x3 : Int32} {h : AH} (H : p_MO_asks Q x1 x2 x3 h) : WP G T1 m_MO_asks (d + 3) [.ref 59, .int x1, .int x2, .int x3] h 0 0 (iQ Q) := by
  exact WP.enter 0 (by decide) rfl rfl (r_MO_asks_0 x1 x2 x3 h H)
theorem d_MO_weighs_0 : decode prog_14_method_35_code 0 = .ok (.aload_n 0, 1) := by decide +kernel
theorem d_MO_weighs_1 : decode prog_14_method_35_code 1 = .ok (.iconst 0, 1) := by decide +kernel
theorem d_MO_weighs_2 : decode prog_14_method_35_code 2 = .ok (.iload_n 1, 1) := by decide +kernel
theorem d_MO_weighs_3 : decode prog_14_method_35_code 3 = .ok (.aload_n 0, 1) := by decide +kernel
theorem d_MO_weighs_4 : decode prog_14_method_35_code 4 = .ok (.getfield 64, 3) := by decide +kernel
theorem d_MO_weighs_7 : decode prog_14_method_35_code 7 = .ok (.iload_n 1, 1) := by decide +kernel
theorem d_MO_weighs_8 : decode prog_14_method_35_code 8 = .ok (.iaload, 1) := by decide +kernel
theorem d_MO_weighs_9 : decode prog_14_method_35_code 9 = .ok (.iload_n 2, 1) := by decide +kernel
theorem d_MO_weighs_10 : decode prog_14_method_35_code 10 = .ok (.iconst 0, 1) := by decide +kernel
theorem d_MO_weighs_11 : decode prog_14_method_35_code 11 = .ok (.invokevirtual 188, 3) := by decide +kernel
theorem d_MO_weighs_14 : decode prog_14_method_35_code 14 = .ok (.istore_n 3, 1) := by decide +kernel
theorem d_MO_weighs_15 : decode prog_14_method_35_code 15 = .ok (.aload_n 0, 1) := by decide +kernel
theorem d_MO_weighs_16 : decode prog_14_method_35_code 16 = .ok (.getfield 7, 3) := by decide +kernel
theorem d_MO_weighs_19 : decode prog_14_method_35_code 19 = .ok (.iload_n 1, 1) := by decide +kernel
theorem d_MO_weighs_20 : decode prog_14_method_35_code 20 = .ok (.iaload, 1) := by decide +kernel
theorem d_MO_weighs_21 : decode prog_14_method_35_code 21 = .ok (.istore 4, 2) := by decide +kernel
theorem d_MO_weighs_23 : decode prog_14_method_35_code 23 = .ok (.iload_n 3, 1) := by decide +kernel
theorem d_MO_weighs_24 : decode prog_14_method_35_code 24 = .ok (.iconst 3, 1) := by decide +kernel
theorem d_MO_weighs_25 : decode prog_14_method_35_code 25 = .ok (.aload_n 0, 1) := by decide +kernel
theorem d_MO_weighs_26 : decode prog_14_method_35_code 26 = .ok (.getfield 16, 3) := by decide +kernel
theorem d_MO_weighs_29 : decode prog_14_method_35_code 29 = .ok (.iload_n 1, 1) := by decide +kernel
theorem d_MO_weighs_30 : decode prog_14_method_35_code 30 = .ok (.iaload, 1) := by decide +kernel
theorem d_MO_weighs_31 : decode prog_14_method_35_code 31 = .ok (.imul, 1) := by decide +kernel
theorem d_MO_weighs_32 : decode prog_14_method_35_code 32 = .ok (.iadd, 1) := by decide +kernel
theorem d_MO_weighs_33 : decode prog_14_method_35_code 33 = .ok (.istore 5, 2) := by decide +kernel
theorem d_MO_weighs_35 : decode prog_14_method_35_code 35 = .ok (.iload 4, 2) := by decide +kernel
theorem d_MO_weighs_37 : decode prog_14_method_35_code 37 = .ok (.iconst 1, 1) := by decide +kernel
theorem d_MO_weighs_38 : decode prog_14_method_35_code 38 = .ok (.if_icmp .ne 8, 3) := by decide +kernel
theorem d_MO_weighs_41 : decode prog_14_method_35_code 41 = .ok (.iload 5, 2) := by decide +kernel
theorem d_MO_weighs_43 : decode prog_14_method_35_code 43 = .ok (.goto 49, 3) := by decide +kernel
theorem d_MO_weighs_46 : decode prog_14_method_35_code 46 = .ok (.iload 4, 2) := by decide +kernel
theorem d_MO_weighs_48 : decode prog_14_method_35_code 48 = .ok (.iconst 3, 1) := by decide +kernel
theorem d_MO_weighs_49 : decode prog_14_method_35_code 49 = .ok (.if_icmp .ne 25, 3) := by decide +kernel
theorem d_MO_weighs_52 : decode prog_14_method_35_code 52 = .ok (.aload_n 0, 1) := by decide +kernel
theorem d_MO_weighs_53 : decode prog_14_method_35_code 53 = .ok (.getfield 64, 3) := by decide +kernel
theorem d_MO_weighs_56 : decode prog_14_method_35_code 56 = .ok (.iload_n 1, 1) := by decide +kernel
theorem d_MO_weighs_57 : decode prog_14_method_35_code 57 = .ok (.iaload, 1) := by decide +kernel
theorem d_MO_weighs_58 : decode prog_14_method_35_code 58 = .ok (.iconst 5, 1) := by decide +kernel
theorem d_MO_weighs_59 : decode prog_14_method_35_code 59 = .ok (.if_icmp .ge 10, 3) := by decide +kernel
theorem d_MO_weighs_62 : decode prog_14_method_35_code 62 = .ok (.iconst 2, 1) := by decide +kernel
theorem d_MO_weighs_63 : decode prog_14_method_35_code 63 = .ok (.iload 5, 2) := by decide +kernel
theorem d_MO_weighs_65 : decode prog_14_method_35_code 65 = .ok (.imul, 1) := by decide +kernel
theorem d_MO_weighs_66 : decode prog_14_method_35_code 66 = .ok (.goto 26, 3) := by decide +kernel
theorem d_MO_weighs_69 : decode prog_14_method_35_code 69 = .ok (.iload 5, 2) := by decide +kernel
theorem d_MO_weighs_71 : decode prog_14_method_35_code 71 = .ok (.goto 21, 3) := by decide +kernel
theorem d_MO_weighs_74 : decode prog_14_method_35_code 74 = .ok (.iload 4, 2) := by decide +kernel
theorem d_MO_weighs_76 : decode prog_14_method_35_code 76 = .ok (.iconst 5, 1) := by decide +kernel
theorem d_MO_weighs_77 : decode prog_14_method_35_code 77 = .ok (.if_icmp .ne 14, 3) := by decide +kernel
theorem d_MO_weighs_80 : decode prog_14_method_35_code 80 = .ok (.iload_n 3, 1) := by decide +kernel
theorem d_MO_weighs_81 : decode prog_14_method_35_code 81 = .ok (.aload_n 0, 1) := by decide +kernel
theorem d_MO_weighs_82 : decode prog_14_method_35_code 82 = .ok (.getfield 64, 3) := by decide +kernel
theorem d_MO_weighs_85 : decode prog_14_method_35_code 85 = .ok (.iload_n 1, 1) := by decide +kernel
theorem d_MO_weighs_86 : decode prog_14_method_35_code 86 = .ok (.iaload, 1) := by decide +kernel
theorem d_MO_weighs_87 : decode prog_14_method_35_code 87 = .ok (.iadd, 1) := by decide +kernel
theorem d_MO_weighs_88 : decode prog_14_method_35_code 88 = .ok (.goto 4, 3) := by decide +kernel
theorem d_MO_weighs_91 : decode prog_14_method_35_code 91 = .ok (.iload_n 3, 1) := by decide +kernel
theorem d_MO_weighs_92 : decode prog_14_method_35_code 92 = .ok (.ireturn, 1) := by decide +kernel
def p_MO_weighs (Q : Int32 → AH → Prop) (x1 : Int32) (x2 : Int32) (h : AH) : Prop := inb x1 7 ∧ p_MO_asksOf (fun r3 h2 => inb x1 7 ∧ ((¬ (h2.1 60 x1) = 1 → ((¬ (h2.1 60 x1) = 3 → ((¬ (h2.1 60 x1) = 5 → Q r3 h2) ∧ ((h2.1 60 x1) = 5 → Q (r3 + (h2.1 78 x1)) h2))) ∧ ((h2.1 60 x1) = 3 → ((5 ≤ (h2.1 78 x1) → Q (r3 + (3 * (h2.1 62 x1))) h2) ∧ (¬ 5 ≤ (h2.1 78 x1) → Q (2 * (r3 + (3 * (h2.1 62 x1)))) h2))))) ∧ ((h2.1 60 x1) = 1 → Q (r3 + (3 * (h2.1 62 x1))) h2))) 0 x1 (h.1 78 x1) x2 0 h
set_option maxRecDepth 20000 in
theorem r_MO_weighs_0 {G : GG} {d : Nat} {Q : Int32 → AH → Prop} (x1 : Int32) (x2 : Int32) (h : AH) (H : p_MO_weighs Q x1 x2 h) : Att G T1 m_MO_weighs (d + 3) 0 [some (.ref 59), some (.int x1), some (.int x2), none, none, none] [] h 0 0 (iQ Q) := by
  refine A_aload_n d_MO_weighs_0 rfl ?_
  refine A_iconst 0 (by decide) d_MO_weighs_1 ?_
  refine A_iload_n d_MO_weighs_2 rfl ?_
  refine A_aload_n d_MO_weighs_3 rfl ?_
  refine A_get (v := .ref 78) d_MO_weighs_4 (fo_MO_64_12 rfl) (vA_s (by decide)) rfl (by first | rfl | (show Value.int _ = Value.int _; simp [wI, wL, wR, wC, up])) ?_
  refine A_iload_n d_MO_weighs_7 rfl ?_
  obtain ⟨c1, H⟩ := H
  refine A_ialdv (n := 7) (v := (h.1 78 x1)) d_MO_weighs_8 (vA_s (by decide)) rfl c1 rfl ?_
  refine A_iload_n d_MO_weighs_9 rfl ?_
  refine A_iconst 0 (by decide) d_MO_weighs_10 ?_
  refine A_cI [.ref 59, .int 0, .int x1, .int (h.1 78 x1), .int x2, .int 0] [] (ct_MO_188 rfl) d_MO_weighs_11 rfl rfl (by decide) (Nat.le_of_ble_eq_true rfl) (rcA_o (c := 12) rfl (vA_s (by decide)) rfl (by decide) rfl) (ok_MO_asksOf (d := d) H) (fun r3 h2 H => ?_)
  refine A_istore_n [some (.ref 59), some (.int x1), some (.int x2), some (.int r3), none, none] d_MO_weighs_14 (by decide) rfl rfl ?_
  refine A_aload_n d_MO_weighs_15 rfl ?_
  refine A_get (v := .ref 60) d_MO_weighs_16 (fo_MO_7_12 rfl) (vA_s (by decide)) rfl (by first | rfl | (show Value.int _ = Value.int _; simp [wI, wL, wR, wC, up])) ?_
  refine A_iload_n d_MO_weighs_19 rfl ?_
  obtain ⟨c4, H⟩ := H
  refine A_ialdv (n := 7) (v := (h2.1 60 x1)) d_MO_weighs_20 (vA_s (by decide)) rfl c4 rfl ?_
  refine A_istore [some (.ref 59), some (.int x1), some (.int x2), some (.int r3), some (.int (h2.1 60 x1)), none] d_MO_weighs_21 (by decide) rfl rfl ?_
  refine A_iload_n d_MO_weighs_23 rfl ?_
  refine A_iconst 3 (by decide) d_MO_weighs_24 ?_
  refine A_aload_n d_MO_weighs_25 rfl ?_
  refine A_get (v := .ref 62) d_MO_weighs_26 (fo_MO_16_12 rfl) (vA_s (by decide)) rfl (by first | rfl | (show Value.int _ = Value.int _; simp [wI, wL, wR, wC, up])) ?_
  refine A_iload_n d_MO_weighs_29 rfl ?_
  refine A_ialdv (n := 7) (v := (h2.1 62 x1)) d_MO_weighs_30 (vA_s (by decide)) rfl c4 rfl ?_
  refine A_imul d_MO_weighs_31 ?_
  refine A_iadd d_MO_weighs_32 ?_
  refine A_istore [some (.ref 59), some (.int x1), some (.int x2), some (.int r3), some (.int (h2.1 60 x1)), some (.int (r3 + (3 * (h2.1 62 x1))))] d_MO_weighs_33 (by decide) rfl rfl ?_
  refine A_iload d_MO_weighs_35 rfl ?_
  refine A_iconst 1 (by decide) d_MO_weighs_37 ?_
  refine A_icmp_ne 46 d_MO_weighs_38 (by decide) (fun z => ?_) (fun z => ?_)
  · have H := H.1 z
    refine A_iload d_MO_weighs_46 rfl ?_
    refine A_iconst 3 (by decide) d_MO_weighs_48 ?_
    refine A_icmp_ne 74 d_MO_weighs_49 (by decide) (fun z => ?_) (fun z => ?_)
    · have H := H.1 z
      refine A_iload d_MO_weighs_74 rfl ?_
      refine A_iconst 5 (by decide) d_MO_weighs_76 ?_
      refine A_icmp_ne 91 d_MO_weighs_77 (by decide) (fun z => ?_) (fun z => ?_)
      · have H := H.1 z
        refine A_iload_n d_MO_weighs_91 rfl ?_
        exact A_iret d_MO_weighs_92 rfl rfl H
      · have H := H.2 z
        refine A_iload_n d_MO_weighs_80 rfl ?_
        refine A_aload_n d_MO_weighs_81 rfl ?_
        refine A_get (v := .ref 78) d_MO_weighs_82 (fo_MO_64_12 rfl) (vA_s (by decide)) rfl (by first | rfl | (show Value.int _ = Value.int _; simp [wI, wL, wR, wC, up])) ?_
        refine A_iload_n d_MO_weighs_85 rfl ?_
        refine A_ialdv (n := 7) (v := (h2.1 78 x1)) d_MO_weighs_86 (vA_s (by decide)) rfl c4 rfl ?_
        refine A_iadd d_MO_weighs_87 ?_
        refine A_goto 92 d_MO_weighs_88 (by decide) ?_
        exact A_iret d_MO_weighs_92 rfl rfl H
    · have H := H.2 z
      refine A_aload_n d_MO_weighs_52 rfl ?_
      refine A_get (v := .ref 78) d_MO_weighs_53 (fo_MO_64_12 rfl) (vA_s (by decide)) rfl (by first | rfl | (show Value.int _ = Value.int _; simp [wI, wL, wR, wC, up])) ?_
      refine A_iload_n d_MO_weighs_56 rfl ?_
      refine A_ialdv (n := 7) (v := (h2.1 78 x1)) d_MO_weighs_57 (vA_s (by decide)) rfl c4 rfl ?_
      refine A_iconst 5 (by decide) d_MO_weighs_58 ?_
      refine A_icmp_ge 69 d_MO_weighs_59 (by decide) (fun z => ?_) (fun z => ?_)
      · have H := H.1 z
        refine A_iload d_MO_weighs_69 rfl ?_
        refine A_goto 92 d_MO_weighs_71 (by decide) ?_
        exact A_iret d_MO_weighs_92 rfl rfl H
      · have H := H.2 z
        refine A_iconst 2 (by decide) d_MO_weighs_62 ?_
        refine A_iload d_MO_weighs_63 rfl ?_
        refine A_imul d_MO_weighs_65 ?_
        refine A_goto 92 d_MO_weighs_66 (by decide) ?_
        exact A_iret d_MO_weighs_92 rfl rfl H
  · have H := H.2 z
    refine A_iload d_MO_weighs_41 rfl ?_
    refine A_goto 92 d_MO_weighs_43 (by decide) ?_
    exact A_iret d_MO_weighs_92 rfl rfl H
set_option maxRecDepth 20000 in
theorem ok_MO_weighs {G : GG} {d : Nat} {Q : Int32 → AH → Prop} {x1 : Int32} {x2 : Int32} {h : AH} (H : p_MO_weighs Q x1 x2 h) : WP G T1 m_MO_weighs (d + 3) [.ref 59, .int x1, .int x2] h 0 0 (iQ Q) := by
  exact WP.enter 3 (by decide) rfl rfl (r_MO_weighs_0 x1 x2 h H)
theorem d_MO_holdsIt_0 : decode prog_14_method_36_code 0 = .ok (.aload_n 0, 1) := by decide +kernel
theorem d_MO_holdsIt_1 : decode prog_14_method_36_code 1 = .ok (.iconst 1, 1) := by decide +kernel
theorem d_MO_holdsIt_2 : decode prog_14_method_36_code 2 = .ok (.iload_n 1, 1) := by decide +kernel
theorem d_MO_holdsIt_3 : decode prog_14_method_36_code 3 = .ok (.aload_n 0, 1) := by decide +kernel
theorem d_MO_holdsIt_4 : decode prog_14_method_36_code 4 = .ok (.getfield 64, 3) := by decide +kernel
theorem d_MO_holdsIt_7 : decode prog_14_method_36_code 7 = .ok (.iload_n 1, 1) := by decide +kernel
theorem d_MO_holdsIt_8 : decode prog_14_method_36_code 8 = .ok (.iaload, 1) := by decide +kernel
theorem d_MO_holdsIt_9 : decode prog_14_method_36_code 9 = .ok (.iload_n 2, 1) := by decide +kernel
theorem d_MO_holdsIt_10 : decode prog_14_method_36_code 10 = .ok (.iconst 0, 1) := by decide +kernel
theorem d_MO_holdsIt_11 : decode prog_14_method_36_code 11 = .ok (.invokevirtual 188, 3) := by decide +kernel
theorem d_MO_holdsIt_14 : decode prog_14_method_36_code 14 = .ok (.istore_n 3, 1) := by decide +kernel
theorem d_MO_holdsIt_15 : decode prog_14_method_36_code 15 = .ok (.aload_n 0, 1) := by decide +kernel
theorem d_MO_holdsIt_16 : decode prog_14_method_36_code 16 = .ok (.getfield 7, 3) := by decide +kernel
theorem d_MO_holdsIt_19 : decode prog_14_method_36_code 19 = .ok (.iload_n 1, 1) := by decide +kernel
theorem d_MO_holdsIt_20 : decode prog_14_method_36_code 20 = .ok (.iaload, 1) := by decide +kernel
theorem d_MO_holdsIt_21 : decode prog_14_method_36_code 21 = .ok (.iconst 2, 1) := by decide +kernel
theorem d_MO_holdsIt_22 : decode prog_14_method_36_code 22 = .ok (.if_icmp .eq 13, 3) := by decide +kernel
theorem d_MO_holdsIt_25 : decode prog_14_method_36_code 25 = .ok (.aload_n 0, 1) := by decide +kernel
theorem d_MO_holdsIt_26 : decode prog_14_method_36_code 26 = .ok (.getfield 7, 3) := by decide +kernel
theorem d_MO_holdsIt_29 : decode prog_14_method_36_code 29 = .ok (.iload_n 1, 1) := by decide +kernel
theorem d_MO_holdsIt_30 : decode prog_14_method_36_code 30 = .ok (.iaload, 1) := by decide +kernel
theorem d_MO_holdsIt_31 : decode prog_14_method_36_code 31 = .ok (.iconst 4, 1) := by decide +kernel
theorem d_MO_holdsIt_32 : decode prog_14_method_36_code 32 = .ok (.if_icmp .ne 14, 3) := by decide +kernel
theorem d_MO_holdsIt_35 : decode prog_14_method_36_code 35 = .ok (.iload_n 3, 1) := by decide +kernel
theorem d_MO_holdsIt_36 : decode prog_14_method_36_code 36 = .ok (.aload_n 0, 1) := by decide +kernel
theorem d_MO_holdsIt_37 : decode prog_14_method_36_code 37 = .ok (.getfield 16, 3) := by decide +kernel
theorem d_MO_holdsIt_40 : decode prog_14_method_36_code 40 = .ok (.iload_n 1, 1) := by decide +kernel
theorem d_MO_holdsIt_41 : decode prog_14_method_36_code 41 = .ok (.iaload, 1) := by decide +kernel
theorem d_MO_holdsIt_42 : decode prog_14_method_36_code 42 = .ok (.iadd, 1) := by decide +kernel
theorem d_MO_holdsIt_43 : decode prog_14_method_36_code 43 = .ok (.goto 4, 3) := by decide +kernel
theorem d_MO_holdsIt_46 : decode prog_14_method_36_code 46 = .ok (.iload_n 3, 1) := by decide +kernel
theorem d_MO_holdsIt_47 : decode prog_14_method_36_code 47 = .ok (.ireturn, 1) := by decide +kernel
def p_MO_holdsIt (Q : Int32 → AH → Prop) (x1 : Int32) (x2 : Int32) (h : AH) : Prop := inb x1 7 ∧ p_MO_asksOf (fun r3 h2 => inb x1 7 ∧ (((h2.1 60 x1) = 2 → Q (r3 + (h2.1 62 x1)) h2) ∧ (¬ (h2.1 60 x1) = 2 → ((¬ (h2.1 60 x1) = 4 → Q r3 h2) ∧ ((h2.1 60 x1) = 4 → Q (r3 + (h2.1 62 x1)) h2))))) 1 x1 (h.1 78 x1) x2 0 h
set_option maxRecDepth 20000 in
theorem r_MO_holdsIt_0 {G : GG} {d : Nat} {Q : Int32 → AH → Prop} (x1 : Int32) (x2 : Int32) (h : AH) (H : p_MO_holdsIt Q x1 x2 h) : Att G T1 m_MO_holdsIt (d + 3) 0 [some (.ref 59), some (.int x1), some (.int x2), none] [] h 0 0 (iQ Q) := by
  refine A_aload_n d_MO_holdsIt_0 rfl ?_
  refine A_iconst 1 (by decide) d_MO_holdsIt_1 ?_
  refine A_iload_n d_MO_holdsIt_2 rfl ?_
  refine A_aload_n d_MO_holdsIt_3 rfl ?_
  refine A_get (v := .ref 78) d_MO_holdsIt_4 (fo_MO_64_12 rfl) (vA_s (by decide)) rfl (by first | rfl | (show Value.int _ = Value.int _; simp [wI, wL, wR, wC, up])) ?_
  refine A_iload_n d_MO_holdsIt_7 rfl ?_
  obtain ⟨c1, H⟩ := H
  refine A_ialdv (n := 7) (v := (h.1 78 x1)) d_MO_holdsIt_8 (vA_s (by decide)) rfl c1 rfl ?_
  refine A_iload_n d_MO_holdsIt_9 rfl ?_
  refine A_iconst 0 (by decide) d_MO_holdsIt_10 ?_
  refine A_cI [.ref 59, .int 1, .int x1, .int (h.1 78 x1), .int x2, .int 0] [] (ct_MO_188 rfl) d_MO_holdsIt_11 rfl rfl (by decide) (Nat.le_of_ble_eq_true rfl) (rcA_o (c := 12) rfl (vA_s (by decide)) rfl (by decide) rfl) (ok_MO_asksOf (d := d) H) (fun r3 h2 H => ?_)
  refine A_istore_n [some (.ref 59), some (.int x1), some (.int x2), some (.int r3)] d_MO_holdsIt_14 (by decide) rfl rfl ?_
  refine A_aload_n d_MO_holdsIt_15 rfl ?_
  refine A_get (v := .ref 60) d_MO_holdsIt_16 (fo_MO_7_12 rfl) (vA_s (by decide)) rfl (by first | rfl | (show Value.int _ = Value.int _; simp [wI, wL, wR, wC, up])) ?_
  refine A_iload_n d_MO_holdsIt_19 rfl ?_
  obtain ⟨c4, H⟩ := H
  refine A_ialdv (n := 7) (v := (h2.1 60 x1)) d_MO_holdsIt_20 (vA_s (by decide)) rfl c4 rfl ?_
  refine A_iconst 2 (by decide) d_MO_holdsIt_21 ?_
  refine A_icmp_eq 35 d_MO_holdsIt_22 (by decide) (fun z => ?_) (fun z => ?_)
  · have H := H.1 z
    refine A_iload_n d_MO_holdsIt_35 rfl ?_
    refine A_aload_n d_MO_holdsIt_36 rfl ?_
    refine A_get (v := .ref 62) d_MO_holdsIt_37 (fo_MO_16_12 rfl) (vA_s (by decide)) rfl (by first | rfl | (show Value.int _ = Value.int _; simp [wI, wL, wR, wC, up])) ?_
    refine A_iload_n d_MO_holdsIt_40 rfl ?_
    refine A_ialdv (n := 7) (v := (h2.1 62 x1)) d_MO_holdsIt_41 (vA_s (by decide)) rfl c4 rfl ?_
    refine A_iadd d_MO_holdsIt_42 ?_
    refine A_goto 47 d_MO_holdsIt_43 (by decide) ?_
    exact A_iret d_MO_holdsIt_47 rfl rfl H
  · have H := H.2 z
    refine A_aload_n d_MO_holdsIt_25 rfl ?_
    refine A_get (v := .ref 60) d_MO_holdsIt_26 (fo_MO_7_12 rfl) (vA_s (by decide)) rfl (by first | rfl | (show Value.int _ = Value.int _; simp [wI, wL, wR, wC, up])) ?_
    refine A_iload_n d_MO_holdsIt_29 rfl ?_
    refine A_ialdv (n := 7) (v := (h2.1 60 x1)) d_MO_holdsIt_30 (vA_s (by decide)) rfl c4 rfl ?_
    refine A_iconst 4 (by decide) d_MO_holdsIt_31 ?_
    refine A_icmp_ne 46 d_MO_holdsIt_32 (by decide) (fun z => ?_) (fun z => ?_)
    · have H := H.1 z
      refine A_iload_n d_MO_holdsIt_46 rfl ?_
      exact A_iret d_MO_holdsIt_47 rfl rfl H
    · have H := H.2 z
      refine A_iload_n d_MO_holdsIt_35 rfl ?_
      refine A_aload_n d_MO_holdsIt_36 rfl ?_
      refine A_get (v := .ref 62) d_MO_holdsIt_37 (fo_MO_16_12 rfl) (vA_s (by decide)) rfl (by first | rfl | (show Value.int _ = Value.int _; simp [wI, wL, wR, wC, up])) ?_
      refine A_iload_n d_MO_holdsIt_40 rfl ?_
      refine A_ialdv (n := 7) (v := (h2.1 62 x1)) d_MO_holdsIt_41 (vA_s (by decide)) rfl c4 rfl ?_
      refine A_iadd d_MO_holdsIt_42 ?_
      refine A_goto 47 d_MO_holdsIt_43 (by decide) ?_
      exact A_iret d_MO_holdsIt_47 rfl rfl H
set_option maxRecDepth 20000 in
theorem ok_MO_holdsIt {G : GG} {d : Nat} {Q : Int32 → AH → Prop} {x1 : Int32} {x2 : Int32} {h : AH} (H : p_MO_holdsIt Q x1 x2 h) : WP G T1 m_MO_holdsIt (d + 3) [.ref 59, .int x1, .int x2] h 0 0 (iQ Q) := by
  exact WP.enter 1 (by decide) rfl rfl (r_MO_holdsIt_0 x1 x2 h H)
theorem d_MO_goesDown_0 : decode prog_14_method_38_code 0 = .ok (.aload_n 0, 1) := by decide +kernel
theorem d_MO_goesDown_1 : decode prog_14_method_38_code 1 = .ok (.getfield 64, 3) := by decide +kernel
theorem d_MO_goesDown_4 : decode prog_14_method_38_code 4 = .ok (.iload_n 1, 1) := by decide +kernel
theorem d_MO_goesDown_5 : decode prog_14_method_38_code 5 = .ok (.dup2, 1) := by decide +kernel
theorem d_MO_goesDown_6 : decode prog_14_method_38_code 6 = .ok (.iaload, 1) := by decide +kernel
theorem d_MO_goesDown_7 : decode prog_14_method_38_code 7 = .ok (.iconst 1, 1) := by decide +kernel
theorem d_MO_goesDown_8 : decode prog_14_method_38_code 8 = .ok (.isub, 1) := by decide +kernel
theorem d_MO_goesDown_9 : decode prog_14_method_38_code 9 = .ok (.iastore, 1) := by decide +kernel
theorem d_MO_goesDown_10 : decode prog_14_method_38_code 10 = .ok (.aload_n 0, 1) := by decide +kernel
theorem d_MO_goesDown_11 : decode prog_14_method_38_code 11 = .ok (.getfield 67, 3) := by decide +kernel
theorem d_MO_goesDown_14 : decode prog_14_method_38_code 14 = .ok (.iload_n 1, 1) := by decide +kernel
theorem d_MO_goesDown_15 : decode prog_14_method_38_code 15 = .ok (.dup2, 1) := by decide +kernel
theorem d_MO_goesDown_16 : decode prog_14_method_38_code 16 = .ok (.iaload, 1) := by decide +kernel
theorem d_MO_goesDown_17 : decode prog_14_method_38_code 17 = .ok (.iconst 1, 1) := by decide +kernel
theorem d_MO_goesDown_18 : decode prog_14_method_38_code 18 = .ok (.iadd, 1) := by decide +kernel
theorem d_MO_goesDown_19 : decode prog_14_method_38_code 19 = .ok (.iastore, 1) := by decide +kernel
theorem d_MO_goesDown_20 : decode prog_14_method_38_code 20 = .ok (.aload_n 0, 1) := by decide +kernel
theorem d_MO_goesDown_21 : decode prog_14_method_38_code 21 = .ok (.getfield 70, 3) := by decide +kernel
theorem d_MO_goesDown_24 : decode prog_14_method_38_code 24 = .ok (.iload_n 1, 1) := by decide +kernel
theorem d_MO_goesDown_25 : decode prog_14_method_38_code 25 = .ok (.dup2, 1) := by decide +kernel
theorem d_MO_goesDown_26 : decode prog_14_method_38_code 26 = .ok (.iaload, 1) := by decide +kernel
theorem d_MO_goesDown_27 : decode prog_14_method_38_code 27 = .ok (.iconst 1, 1) := by decide +kernel
theorem d_MO_goesDown_28 : decode prog_14_method_38_code 28 = .ok (.iadd, 1) := by decide +kernel
theorem d_MO_goesDown_29 : decode prog_14_method_38_code 29 = .ok (.iastore, 1) := by decide +kernel
theorem d_MO_goesDown_30 : decode prog_14_method_38_code 30 = .ok (.aload_n 0, 1) := by decide +kernel
theorem d_MO_goesDown_31 : decode prog_14_method_38_code 31 = .ok (.getfield 64, 3) := by decide +kernel
theorem d_MO_goesDown_34 : decode prog_14_method_38_code 34 = .ok (.iload_n 1, 1) := by decide +kernel
theorem d_MO_goesDown_35 : decode prog_14_method_38_code 35 = .ok (.iaload, 1) := by decide +kernel
theorem d_MO_goesDown_36 : decode prog_14_method_38_code 36 = .ok (.ifCond .ne 40, 3) := by decide +kernel
theorem d_MO_goesDown_39 : decode prog_14_method_38_code 39 = .ok (.aload_n 0, 1) := by decide +kernel
theorem d_MO_goesDown_40 : decode prog_14_method_38_code 40 = .ok (.getfield 76, 3) := by decide +kernel
theorem d_MO_goesDown_43 : decode prog_14_method_38_code 43 = .ok (.iload_n 1, 1) := by decide +kernel
theorem d_MO_goesDown_44 : decode prog_14_method_38_code 44 = .ok (.dup2, 1) := by decide +kernel
theorem d_MO_goesDown_45 : decode prog_14_method_38_code 45 = .ok (.iaload, 1) := by decide +kernel
theorem d_MO_goesDown_46 : decode prog_14_method_38_code 46 = .ok (.aload_n 0, 1) := by decide +kernel
theorem d_MO_goesDown_47 : decode prog_14_method_38_code 47 = .ok (.iconst 2, 1) := by decide +kernel
theorem d_MO_goesDown_48 : decode prog_14_method_38_code 48 = .ok (.iload_n 1, 1) := by decide +kernel
theorem d_MO_goesDown_49 : decode prog_14_method_38_code 49 = .ok (.iconst 0, 1) := by decide +kernel
theorem d_MO_goesDown_50 : decode prog_14_method_38_code 50 = .ok (.iload_n 2, 1) := by decide +kernel
theorem d_MO_goesDown_51 : decode prog_14_method_38_code 51 = .ok (.aload_n 0, 1) := by decide +kernel
theorem d_MO_goesDown_52 : decode prog_14_method_38_code 52 = .ok (.getfield 70, 3) := by decide +kernel
theorem d_MO_goesDown_55 : decode prog_14_method_38_code 55 = .ok (.iload_n 1, 1) := by decide +kernel
theorem d_MO_goesDown_56 : decode prog_14_method_38_code 56 = .ok (.iaload, 1) := by decide +kernel
theorem d_MO_goesDown_57 : decode prog_14_method_38_code 57 = .ok (.invokevirtual 188, 3) := by decide +kernel
theorem d_MO_goesDown_60 : decode prog_14_method_38_code 60 = .ok (.iadd, 1) := by decide +kernel
theorem d_MO_goesDown_61 : decode prog_14_method_38_code 61 = .ok (.iastore, 1) := by decide +kernel
theorem d_MO_goesDown_62 : decode prog_14_method_38_code 62 = .ok (.aload_n 0, 1) := by decide +kernel
theorem d_MO_goesDown_63 : decode prog_14_method_38_code 63 = .ok (.getfield 73, 3) := by decide +kernel
theorem d_MO_goesDown_66 : decode prog_14_method_38_code 66 = .ok (.iload_n 1, 1) := by decide +kernel
theorem d_MO_goesDown_67 : decode prog_14_method_38_code 67 = .ok (.iload_n 2, 1) := by decide +kernel
theorem d_MO_goesDown_68 : decode prog_14_method_38_code 68 = .ok (.iastore, 1) := by decide +kernel
theorem d_MO_goesDown_69 : decode prog_14_method_38_code 69 = .ok (.aload_n 0, 1) := by decide +kernel
theorem d_MO_goesDown_70 : decode prog_14_method_38_code 70 = .ok (.getfield 70, 3) := by decide +kernel
theorem d_MO_goesDown_73 : decode prog_14_method_38_code 73 = .ok (.iload_n 1, 1) := by decide +kernel
theorem d_MO_goesDown_74 : decode prog_14_method_38_code 74 = .ok (.iconst 0, 1) := by decide +kernel
theorem d_MO_goesDown_75 : decode prog_14_method_38_code 75 = .ok (.iastore, 1) := by decide +kernel
theorem d_MO_goesDown_76 : decode prog_14_method_38_code 76 = .ok (.return_, 1) := by decide +kernel
def p_MO_goesDown (Q : AH → Prop) (x1 : Int32) (x2 : Int32) (h : AH) : Prop := inb x1 7 ∧ ((¬ ((h.1 78 x1) - 1) = 0 → Q (wI (wI (wI h 78 x1 ((h.1 78 x1) - 1)) 79 x1 ((h.1 79 x1) + 1)) 80 x1 ((h.1 80 x1) + 1))) ∧ (((h.1 78 x1) - 1) = 0 → p_MO_asksOf (fun r3 h2 => inb x1 7 ∧ Q (wI (wI (wI h2 82 x1 ((h.1 82 x1) + r3)) 81 x1 x2) 80 x1 0)) 2 x1 0 x2 ((h.1 80 x1) + 1) (wI (wI (wI h 78 x1 ((h.1 78 x1) - 1)) 79 x1 ((h.1 79 x1) + 1)) 80 x1 ((h.1 80 x1) + 1))))
set_option maxRecDepth 20000 in
theorem r_MO_goesDown_0 {G : GG} {d : Nat} {Q : AH → Prop} (x1 : Int32) (x2 : Int32) (h : AH) (H : p_MO_goesDown Q x1 x2 h) : Att G T1 m_MO_goesDown (d + 3) 0 [some (.ref 59), some (.int x1), some (.int x2)] [] h 0 0 (vQ Q) := by
  refine A_aload_n d_MO_goesDown_0 rfl ?_
  refine A_get (v := .ref 78) d_MO_goesDown_1 (fo_MO_64_12 rfl) (vA_s (by decide)) rfl (by first | rfl | (show Value.int _ = Value.int _; simp [wI, wL, wR, wC, up])) ?_
  refine A_iload_n d_MO_goesDown_4 rfl ?_
  refine A_dup2 rfl rfl d_MO_goesDown_5 ?_
  obtain ⟨c1, H⟩ := H
  refine A_ialdv (n := 7) (v := (h.1 78 x1)) d_MO_goesDown_6 (vA_s (by decide)) rfl c1 rfl ?_
  refine A_iconst 1 (by decide) d_MO_goesDown_7 ?_
  refine A_isub d_MO_goesDown_8 ?_
  refine A_iast (n := 7) d_MO_goesDown_9 (vA_s (by decide)) rfl c1 ?_
  refine A_aload_n d_MO_goesDown_10 rfl ?_
  refine A_get (v := .ref 79) d_MO_goesDown_11 (fo_MO_67_12 rfl) (vA_s (by decide)) rfl (by first | rfl | (show Value.int _ = Value.int _; simp [wI, wL, wR, wC, up])) ?_
  refine A_iload_n d_MO_goesDown_14 rfl ?_
  refine A_dup2 rfl rfl d_MO_goesDown_15 ?_
  refine A_ialdv (n := 7) (v := (h.1 79 x1)) d_MO_goesDown_16 (vA_s (by decide)) rfl c1 (by first | rfl | simp [wI, wL, wR, wC, up]) ?_
  refine A_iconst 1 (by decide) d_MO_goesDown_17 ?_
  refine A_iadd d_MO_goesDown_18 ?_
  refine A_iast (n := 7) d_MO_goesDown_19 (vA_s (by decide)) rfl c1 ?_
  refine A_aload_n d_MO_goesDown_20 rfl ?_
  refine A_get (v := .ref 80) d_MO_goesDown_21 (fo_MO_70_12 rfl) (vA_s (by decide)) rfl (by first | rfl | (show Value.int _ = Value.int _; simp [wI, wL, wR, wC, up])) ?_
  refine A_iload_n d_MO_goesDown_24 rfl ?_
  refine A_dup2 rfl rfl d_MO_goesDown_25 ?_
  refine A_ialdv (n := 7) (v := (h.1 80 x1)) d_MO_goesDown_26 (vA_s (by decide)) rfl c1 (by first | rfl | simp [wI, wL, wR, wC, up]) ?_
  refine A_iconst 1 (by decide) d_MO_goesDown_27 ?_
  refine A_iadd d_MO_goesDown_28 ?_
  refine A_iast (n := 7) d_MO_goesDown_29 (vA_s (by decide)) rfl c1 ?_
  refine A_aload_n d_MO_goesDown_30 rfl ?_
  refine A_get (v := .ref 78) d_MO_goesDown_31 (fo_MO_64_12 rfl) (vA_s (by decide)) rfl (by first | rfl | (show Value.int _ = Value.int _; simp [wI, wL, wR, wC, up])) ?_
  refine A_iload_n d_MO_goesDown_34 rfl ?_
  refine A_ialdv (n := 7) (v := ((h.1 78 x1) - 1)) d_MO_goesDown_35 (vA_s (by decide)) rfl c1 (by first | rfl | simp [wI, wL, wR, wC, up]) ?_
  refine A_if_ne 76 d_MO_goesDown_36 (by decide) (fun z => ?_) (fun z => ?_)
  · have H := H.1 z
    exact A_ret d_MO_goesDown_76 rfl H
  · have H := H.2 z
    refine A_aload_n d_MO_goesDown_39 rfl ?_
    refine A_get (v := .ref 82) d_MO_goesDown_40 (fo_MO_76_12 rfl) (vA_s (by decide)) rfl (by first | rfl | (show Value.int _ = Value.int _; simp [wI, wL, wR, wC, up])) ?_
    refine A_iload_n d_MO_goesDown_43 rfl ?_
    refine A_dup2 rfl rfl d_MO_goesDown_44 ?_
    refine A_ialdv (n := 7) (v := (h.1 82 x1)) d_MO_goesDown_45 (vA_s (by decide)) rfl c1 (by first | rfl | simp [wI, wL, wR, wC, up]) ?_
    refine A_aload_n d_MO_goesDown_46 rfl ?_
    refine A_iconst 2 (by decide) d_MO_goesDown_47 ?_
    refine A_iload_n d_MO_goesDown_48 rfl ?_
    refine A_iconst 0 (by decide) d_MO_goesDown_49 ?_
    refine A_iload_n d_MO_goesDown_50 rfl ?_
    refine A_aload_n d_MO_goesDown_51 rfl ?_
    refine A_get (v := .ref 80) d_MO_goesDown_52 (fo_MO_70_12 rfl) (vA_s (by decide)) rfl (by first | rfl | (show Value.int _ = Value.int _; simp [wI, wL, wR, wC, up])) ?_
    refine A_iload_n d_MO_goesDown_55 rfl ?_
    refine A_ialdv (n := 7) (v := ((h.1 80 x1) + 1)) d_MO_goesDown_56 (vA_s (by decide)) rfl c1 (by first | rfl | simp [wI, wL, wR, wC, up]) ?_
    refine A_cI [.ref 59, .int 2, .int x1, .int 0, .int x2, .int ((h.1 80 x1) + 1)] [.int (h.1 82 x1), .int x1, .ref 82] (ct_MO_188 rfl) d_MO_goesDown_57 rfl rfl (by decide) (Nat.le_of_ble_eq_true rfl) (rcA_o (c := 12) rfl (vA_s (by decide)) rfl (by decide) rfl) (ok_MO_asksOf (d := d) H) (fun r3 h2 H => ?_)
    refine A_iadd d_MO_goesDown_60 ?_
    obtain ⟨c4, H⟩ := H
    refine A_iast (n := 7) d_MO_goesDown_61 (vA_s (by decide)) rfl c4 ?_
    refine A_aload_n d_MO_goesDown_62 rfl ?_
    refine A_get (v := .ref 81) d_MO_goesDown_63 (fo_MO_73_12 rfl) (vA_s (by decide)) rfl (by first | rfl | (show Value.int _ = Value.int _; simp [wI, wL, wR, wC, up])) ?_
    refine A_iload_n d_MO_goesDown_66 rfl ?_
    refine A_iload_n d_MO_goesDown_67 rfl ?_
    refine A_iast (n := 7) d_MO_goesDown_68 (vA_s (by decide)) rfl c4 ?_
    refine A_aload_n d_MO_goesDown_69 rfl ?_
    refine A_get (v := .ref 80) d_MO_goesDown_70 (fo_MO_70_12 rfl) (vA_s (by decide)) rfl (by first | rfl | (show Value.int _ = Value.int _; simp [wI, wL, wR, wC, up])) ?_
    refine A_iload_n d_MO_goesDown_73 rfl ?_
    refine A_iconst 0 (by decide) d_MO_goesDown_74 ?_
    refine A_iast (n := 7) d_MO_goesDown_75 (vA_s (by decide)) rfl c4 ?_
    exact A_ret d_MO_goesDown_76 rfl H
set_option maxRecDepth 20000 in
theorem ok_MO_goesDown {G : GG} {d : Nat} {Q : AH → Prop} {x1 : Int32} {x2 : Int32} {h : AH} (H : p_MO_goesDown Q x1 x2 h) : WP G T1 m_MO_goesDown (d + 3) [.ref 59, .int x1, .int x2] h 0 0 (vQ Q) := by
  exact WP.enter 0 (by decide) rfl rfl (r_MO_goesDown_0 x1 x2 h H)
theorem d_Reader_isWord_0 : decode prog_9_method_14_code 0 = .ok (.aload_n 0, 1) := by decide +kernel
theorem d_Reader_isWord_1 : decode prog_9_method_14_code 1 = .ok (.getfield 34, 3) := by decide +kernel
theorem d_Reader_isWord_4 : decode prog_9_method_14_code 4 = .ok (.aload_n 0, 1) := by decide +kernel
theorem d_Reader_isWord_5 : decode prog_9_method_14_code 5 = .ok (.getfield 50, 3) := by decide +kernel
theorem d_Reader_isWord_8 : decode prog_9_method_14_code 8 = .ok (.isub, 1) := by decide +kernel
theorem d_Reader_isWord_9 : decode prog_9_method_14_code 9 = .ok (.aload_n 1, 1) := by decide +kernel
theorem d_Reader_isWord_10 : decode prog_9_method_14_code 10 = .ok (.invokevirtual 131, 3) := by decide +kernel
theorem d_Reader_isWord_13 : decode prog_9_method_14_code 13 = .ok (.if_icmp .eq 5, 3) := by decide +kernel
theorem d_Reader_isWord_16 : decode prog_9_method_14_code 16 = .ok (.iconst 0, 1) := by decide +kernel
theorem d_Reader_isWord_17 : decode prog_9_method_14_code 17 = .ok (.ireturn, 1) := by decide +kernel
theorem d_Reader_isWord_18 : decode prog_9_method_14_code 18 = .ok (.aload_n 0, 1) := by decide +kernel
theorem d_Reader_isWord_19 : decode prog_9_method_14_code 19 = .ok (.getfield 50, 3) := by decide +kernel
theorem d_Reader_isWord_22 : decode prog_9_method_14_code 22 = .ok (.istore_n 2, 1) := by decide +kernel
theorem d_Reader_isWord_23 : decode prog_9_method_14_code 23 = .ok (.iload_n 2, 1) := by decide +kernel
theorem d_Reader_isWord_24 : decode prog_9_method_14_code 24 = .ok (.aload_n 0, 1) := by decide +kernel
theorem d_Reader_isWord_25 : decode prog_9_method_14_code 25 = .ok (.getfield 34, 3) := by decide +kernel
theorem d_Reader_isWord_28 : decode prog_9_method_14_code 28 = .ok (.if_icmp .ge 30, 3) := by decide +kernel
theorem d_Reader_isWord_31 : decode prog_9_method_14_code 31 = .ok (.aload_n 0, 1) := by decide +kernel
theorem d_Reader_isWord_32 : decode prog_9_method_14_code 32 = .ok (.getfield 9, 3) := by decide +kernel
theorem d_Reader_isWord_35 : decode prog_9_method_14_code 35 = .ok (.iload_n 2, 1) := by decide +kernel
theorem d_Reader_isWord_36 : decode prog_9_method_14_code 36 = .ok (.iaload, 1) := by decide +kernel
theorem d_Reader_isWord_37 : decode prog_9_method_14_code 37 = .ok (.aload_n 1, 1) := by decide +kernel
theorem d_Reader_isWord_38 : decode prog_9_method_14_code 38 = .ok (.iload_n 2, 1) := by decide +kernel
theorem d_Reader_isWord_39 : decode prog_9_method_14_code 39 = .ok (.aload_n 0, 1) := by decide +kernel
theorem d_Reader_isWord_40 : decode prog_9_method_14_code 40 = .ok (.getfield 50, 3) := by decide +kernel
theorem d_Reader_isWord_43 : decode prog_9_method_14_code 43 = .ok (.isub, 1) := by decide +kernel
theorem d_Reader_isWord_44 : decode prog_9_method_14_code 44 = .ok (.invokevirtual 136, 3) := by decide +kernel
theorem d_Reader_isWord_47 : decode prog_9_method_14_code 47 = .ok (.if_icmp .eq 5, 3) := by decide +kernel
theorem d_Reader_isWord_50 : decode prog_9_method_14_code 50 = .ok (.iconst 0, 1) := by decide +kernel
theorem d_Reader_isWord_51 : decode prog_9_method_14_code 51 = .ok (.ireturn, 1) := by decide +kernel
theorem d_Reader_isWord_52 : decode prog_9_method_14_code 52 = .ok (.iinc 2 1, 3) := by decide +kernel
theorem d_Reader_isWord_55 : decode prog_9_method_14_code 55 = .ok (.goto (-32), 3) := by decide +kernel
theorem d_Reader_isWord_58 : decode prog_9_method_14_code 58 = .ok (.iconst 1, 1) := by decide +kernel
theorem d_Reader_isWord_59 : decode prog_9_method_14_code 59 = .ok (.ireturn, 1) := by decide +kernel
def p_Reader_isWord_23 (Q : Int32 → AH → Prop) : Nat → Nat → Int32 → AH → Prop
  | 0 => fun _ _ _ => False
  | n + 1 => fun a1 x2 h => let K23 := p_Reader_isWord_23 Q n; (((h.1 25 3) ≤ x2 → Q 1 h) ∧ (¬ (h.1 25 3) ≤ x2 → 0 < rR T1 h 25 0 ∧ vA T1 h (rR T1 h 25 0 - 1) ∧ (rS T1 h (rR T1 h 25 0 - 1)).1 = 100 ∧ inb x2 ((rS T1 h (rR T1 h 25 0 - 1)).2) ∧ p_Str_charAt (fun r6 h5 => (((h.1 (rR T1 h 25 0 - 1) x2) = r6 → K23 a1 (x2 + 1) h5) ∧ (¬ (h.1 (rR T1 h 25 0 - 1) x2) = r6 → Q 0 h5))) a1 (x2 - (h.1 25 4)) h))
def p_Reader_isWord (Q : Int32 → AH → Prop) (a1 : Nat) (h : AH) : Prop := p_Str_length (fun r2 h1 => ((((h.1 25 3) - (h.1 25 4)) = r2 → ∃ n, p_Reader_isWord_23 Q   n a1 (h1.1 25 4) h1) ∧ (¬ ((h.1 25 3) - (h.1 25 4)) = r2 → Q 0 h1))) a1 h
set_option maxRecDepth 20000 in
theorem r_Reader_isWord_23 {G : GG} {d : Nat} {Q : Int32 → AH → Prop} : ∀ (n : Nat) (a1 : Nat) (x2 : Int32) (h : AH), p_Reader_isWord_23 Q n a1 x2 h → Att G T1 m_Reader_isWord (d + 4) 23 [some (.ref 25), some (.ref a1), some (.int x2)] [] h 0 0 (iQ Q) := by
  intro n
  induction n with
  | zero => intro a1 x2 h H; exact H.elim
  | succ n k23 =>
    intro a1 x2 h H
    refine A_iload_n d_Reader_isWord_23 rfl ?_
    refine A_aload_n d_Reader_isWord_24 rfl ?_
    refine A_get (v := .int (h.1 25 3)) d_Reader_isWord_25 (fo_Reader_34_7 rfl) (vA_s (by decide)) rfl (by first | rfl | (show Value.int _ = Value.int _; simp [wI, wL, wR, wC, up])) ?_
    refine A_icmp_ge 58 d_Reader_isWord_28 (by decide) (fun z => ?_) (fun z => ?_)
    · have H := H.1 z
      refine A_iconst 1 (by decide) d_Reader_isWord_58 ?_
      exact A_iret d_Reader_isWord_59 rfl rfl H
    · have H := H.2 z
      refine A_aload_n d_Reader_isWord_31 rfl ?_
      obtain ⟨c1, H⟩ := H
      refine A_get (v := .ref (rR T1 h 25 0 - 1)) d_Reader_isWord_32 (fo_Reader_9_7 rfl) (vA_s (by decide)) rfl (vR_pos c1) ?_
      refine A_iload_n d_Reader_isWord_35 rfl ?_
      obtain ⟨c2, H⟩ := H
      obtain ⟨c3, H⟩ := H
      obtain ⟨c4, H⟩ := H
      refine A_ialdv (n := _) (v := (h.1 (rR T1 h 25 0 - 1) x2)) d_Reader_isWord_36 c2 (rS_ex c3) c4 rfl ?_
      refine A_aload_n d_Reader_isWord_37 rfl ?_
      refine A_iload_n d_Reader_isWord_38 rfl ?_
      refine A_aload_n d_Reader_isWord_39 rfl ?_
      refine A_get (v := .int (h.1 25 4)) d_Reader_isWord_40 (fo_Reader_50_7 rfl) (vA_s (by decide)) rfl (by first | rfl | (show Value.int _ = Value.int _; simp [wI, wL, wR, wC, up])) ?_
      refine A_isub d_Reader_isWord_43 ?_
      refine A_cI [.ref a1, .int (x2 - (h.1 25 4))] [.int (h.1 (rR T1 h 25 0 - 1) x2)] (ct_Reader_136 rfl) d_Reader_isWord_44 rfl rfl (by decide) (Nat.le_of_ble_eq_true rfl) (by obtain ⟨i9, e9, hi9, -⟩ := H; exact rcA_s (by rw [e9]) hi9) (ok_Str_charAt (d := d) H) (fun r6 h5 H => ?_)
      refine A_icmp_eq 52 d_Reader_isWord_47 (by decide) (fun z => ?_) (fun z => ?_)
      · have H := H.1 z
        refine A_iinc 1 [some (.ref 25), some (.ref a1), some (.int (x2 + 1))] d_Reader_isWord_52 rfl (by decide) (by decide) rfl rfl ?_
        refine A_goto 23 d_Reader_isWord_55 (by decide) ?_
        exact k23 _ _ _ H
      · have H := H.2 z
        refine A_iconst 0 (by decide) d_Reader_isWord_50 ?_
        exact A_iret d_Reader_isWord_51 rfl rfl H
set_option maxRecDepth 20000 in
theorem r_Reader_isWord_0 {G : GG} {d : Nat} {Q : Int32 → AH → Prop} (a1 : Nat) (h : AH) (H : p_Reader_isWord Q a1 h) : Att G T1 m_Reader_isWord (d + 4) 0 [some (.ref 25), some (.ref a1), none] [] h 0 0 (iQ Q) := by
  refine A_aload_n d_Reader_isWord_0 rfl ?_
  refine A_get (v := .int (h.1 25 3)) d_Reader_isWord_1 (fo_Reader_34_7 rfl) (vA_s (by decide)) rfl (by first | rfl | (show Value.int _ = Value.int _; simp [wI, wL, wR, wC, up])) ?_
  refine A_aload_n d_Reader_isWord_4 rfl ?_
  refine A_get (v := .int (h.1 25 4)) d_Reader_isWord_5 (fo_Reader_50_7 rfl) (vA_s (by decide)) rfl (by first | rfl | (show Value.int _ = Value.int _; simp [wI, wL, wR, wC, up])) ?_
  refine A_isub d_Reader_isWord_8 ?_
  refine A_aload_n d_Reader_isWord_9 rfl ?_
  refine A_cI [.ref a1] [.int ((h.1 25 3) - (h.1 25 4))] (ct_Reader_131 rfl) d_Reader_isWord_10 rfl rfl (by decide) (Nat.le_of_ble_eq_true rfl) (by obtain ⟨i9, e9, hi9, -⟩ := H; exact rcA_s (by rw [e9]) hi9) (ok_Str_length (d := d + 2) H) (fun r2 h1 H => ?_)
  refine A_icmp_eq 18 d_Reader_isWord_13 (by decide) (fun z => ?_) (fun z => ?_)
  · have H := H.1 z
    refine A_aload_n d_Reader_isWord_18 rfl ?_
    refine A_get (v := .int (h1.1 25 4)) d_Reader_isWord_19 (fo_Reader_50_7 rfl) (vA_s (by decide)) rfl (by first | rfl | (show Value.int _ = Value.int _; simp [wI, wL, wR, wC, up])) ?_
    refine A_istore_n [some (.ref 25), some (.ref a1), some (.int (h1.1 25 4))] d_Reader_isWord_22 (by decide) rfl rfl ?_
    obtain ⟨n9, H⟩ := H
    exact r_Reader_isWord_23   n9 _ _ _ H
  · have H := H.2 z
    refine A_iconst 0 (by decide) d_Reader_isWord_16 ?_
    exact A_iret d_Reader_isWord_17 rfl rfl H
set_option maxRecDepth 20000 in
theorem ok_Reader_isWord {G : GG} {d : Nat} {Q : Int32 → AH → Prop} {a1 : Nat} {h : AH} (H : p_Reader_isWord Q a1 h) : WP G T1 m_Reader_isWord (d + 4) [.ref 25, .ref a1] h 0 0 (iQ Q) := by
  exact WP.enter 1 (by decide) rfl rfl (r_Reader_isWord_0 a1 h H)
theorem d_UF_text_0 : decode prog_1_method_4_code 0 = .ok (.aload_n 0, 1) := by decide +kernel
theorem d_UF_text_1 : decode prog_1_method_4_code 1 = .ok (.getfield 76, 3) := by decide +kernel
theorem d_UF_text_4 : decode prog_1_method_4_code 4 = .ok (.bipush 6, 2) := by decide +kernel
theorem d_UF_text_6 : decode prog_1_method_4_code 6 = .ok (.if_icmp .lt 6, 3) := by decide +kernel
theorem d_UF_text_9 : decode prog_1_method_4_code 9 = .ok (.bipush (-4), 2) := by decide +kernel
theorem d_UF_text_11 : decode prog_1_method_4_code 11 = .ok (.ireturn, 1) := by decide +kernel
theorem d_UF_text_12 : decode prog_1_method_4_code 12 = .ok (.aload_n 0, 1) := by decide +kernel
theorem d_UF_text_13 : decode prog_1_method_4_code 13 = .ok (.getfield 51, 3) := by decide +kernel
theorem d_UF_text_16 : decode prog_1_method_4_code 16 = .ok (.aload_n 0, 1) := by decide +kernel
theorem d_UF_text_17 : decode prog_1_method_4_code 17 = .ok (.getfield 27, 3) := by decide +kernel
theorem d_UF_text_20 : decode prog_1_method_4_code 20 = .ok (.aload_n 0, 1) := by decide +kernel
theorem d_UF_text_21 : decode prog_1_method_4_code 21 = .ok (.getfield 92, 3) := by decide +kernel
theorem d_UF_text_24 : decode prog_1_method_4_code 24 = .ok (.aload_n 0, 1) := by decide +kernel
theorem d_UF_text_25 : decode prog_1_method_4_code 25 = .ok (.getfield 17, 3) := by decide +kernel
theorem d_UF_text_28 : decode prog_1_method_4_code 28 = .ok (.aload_n 0, 1) := by decide +kernel
theorem d_UF_text_29 : decode prog_1_method_4_code 29 = .ok (.getfield 76, 3) := by decide +kernel
theorem d_UF_text_32 : decode prog_1_method_4_code 32 = .ok (.aaload, 1) := by decide +kernel
theorem d_UF_text_33 : decode prog_1_method_4_code 33 = .ok (.invokevirtual 72, 3) := by decide +kernel
theorem d_UF_text_36 : decode prog_1_method_4_code 36 = .ok (.istore_n 1, 1) := by decide +kernel
theorem d_UF_text_37 : decode prog_1_method_4_code 37 = .ok (.aload_n 0, 1) := by decide +kernel
theorem d_UF_text_38 : decode prog_1_method_4_code 38 = .ok (.iconst 0, 1) := by decide +kernel
theorem d_UF_text_39 : decode prog_1_method_4_code 39 = .ok (.putfield 92, 3) := by decide +kernel
theorem d_UF_text_42 : decode prog_1_method_4_code 42 = .ok (.iload_n 1, 1) := by decide +kernel
theorem d_UF_text_43 : decode prog_1_method_4_code 43 = .ok (.ifCond .lt 8, 3) := by decide +kernel
theorem d_UF_text_46 : decode prog_1_method_4_code 46 = .ok (.bipush (-100), 2) := by decide +kernel
theorem d_UF_text_48 : decode prog_1_method_4_code 48 = .ok (.iload_n 1, 1) := by decide +kernel
theorem d_UF_text_49 : decode prog_1_method_4_code 49 = .ok (.isub, 1) := by decide +kernel
theorem d_UF_text_50 : decode prog_1_method_4_code 50 = .ok (.ireturn, 1) := by decide +kernel
theorem d_UF_text_51 : decode prog_1_method_4_code 51 = .ok (.aload_n 0, 1) := by decide +kernel
theorem d_UF_text_52 : decode prog_1_method_4_code 52 = .ok (.dup, 1) := by decide +kernel
theorem d_UF_text_53 : decode prog_1_method_4_code 53 = .ok (.getfield 76, 3) := by decide +kernel
theorem d_UF_text_56 : decode prog_1_method_4_code 56 = .ok (.iconst 1, 1) := by decide +kernel
theorem d_UF_text_57 : decode prog_1_method_4_code 57 = .ok (.iadd, 1) := by decide +kernel
theorem d_UF_text_58 : decode prog_1_method_4_code 58 = .ok (.putfield 76, 3) := by decide +kernel
theorem d_UF_text_61 : decode prog_1_method_4_code 61 = .ok (.aload_n 0, 1) := by decide +kernel
theorem d_UF_text_62 : decode prog_1_method_4_code 62 = .ok (.getfield 76, 3) := by decide +kernel
theorem d_UF_text_65 : decode prog_1_method_4_code 65 = .ok (.iconst 1, 1) := by decide +kernel
theorem d_UF_text_66 : decode prog_1_method_4_code 66 = .ok (.isub, 1) := by decide +kernel
theorem d_UF_text_67 : decode prog_1_method_4_code 67 = .ok (.ireturn, 1) := by decide +kernel
def p_UF_text (Q : Int32 → AH → Prop) (P_Reader_read : (Int32 → AH → Prop) → Nat → Int32 → Nat → AH → Prop) (h : AH) : Prop := (((h.1 0 8) < 6 → inb (h.1 0 8) 6 ∧ 0 < rR T1 h 2 (h.1 0 8).toNatClampNeg ∧ P_Reader_read (fun r4 h3 => ((r4 < 0 → Q (((h3.1 0 8) + 1) - 1) (wI (wI h3 0 9 0) 0 8 ((h3.1 0 8) + 1))) ∧ (¬ r4 < 0 → Q ((-100) - r4) (wI h3 0 9 0)))) 4 (h.1 0 9) (rR T1 h 2 (h.1 0 8).toNatClampNeg - 1) h) ∧ (¬ (h.1 0 8) < 6 → Q (-4) h))
set_option maxRecDepth 20000 in
theorem r_UF_text_0 {G : GG} {d : Nat} {Q : Int32 → AH → Prop} {P_Reader_read : (Int32 → AH → Prop) → Nat → Int32 → Nat → AH → Prop} (hP_Reader_read : ∀ Q a1 x2 a3 h, P_Reader_read Q a1 x2 a3 h → WP G T1 m_Reader_read (d + 3) [.ref 25, .ref a1, .int x2, .ref a3] h 0 0 (iQ Q)) (h : AH) (H : p_UF_text Q P_Reader_read h) : Att G T1 m_UF_text (d + 4) 0 [some (.ref 0), none] [] h 0 0 (iQ Q) := by
  refine A_aload_n d_UF_text_0 rfl ?_
  refine A_get (v := .int (h.1 0 8)) d_UF_text_1 (fo_UF_76_11 rfl) (vA_s (by decide)) rfl (by first | rfl | (show Value.int _ = Value.int _; simp [wI, wL, wR, wC, up])) ?_
  refine A_bipush 6 (by decide) d_UF_text_4 ?_
  refine A_icmp_lt 12 d_UF_text_6 (by decide) (fun z => ?_) (fun z => ?_)
  · have H := H.1 z
    refine A_aload_n d_UF_text_12 rfl ?_
    refine A_get (v := .ref 25) d_UF_text_13 (fo_UF_51_11 rfl) (vA_s (by decide)) rfl (by first | rfl | (show Value.int _ = Value.int _; simp [wI, wL, wR, wC, up])) ?_
    refine A_aload_n d_UF_text_16 rfl ?_
    refine A_get (v := .ref 4) d_UF_text_17 (fo_UF_27_11 rfl) (vA_s (by decide)) rfl (by first | rfl | (show Value.int _ = Value.int _; simp [wI, wL, wR, wC, up])) ?_
    refine A_aload_n d_UF_text_20 rfl ?_
    refine A_get (v := .int (h.1 0 9)) d_UF_text_21 (fo_UF_92_11 rfl) (vA_s (by decide)) rfl (by first | rfl | (show Value.int _ = Value.int _; simp [wI, wL, wR, wC, up])) ?_
    refine A_aload_n d_UF_text_24 rfl ?_
    refine A_get (v := .ref 2) d_UF_text_25 (fo_UF_17_11 rfl) (vA_s (by decide)) rfl (by first | rfl | (show Value.int _ = Value.int _; simp [wI, wL, wR, wC, up])) ?_
    refine A_aload_n d_UF_text_28 rfl ?_
    refine A_get (v := .int (h.1 0 8)) d_UF_text_29 (fo_UF_76_11 rfl) (vA_s (by decide)) rfl (by first | rfl | (show Value.int _ = Value.int _; simp [wI, wL, wR, wC, up])) ?_
    obtain ⟨c1, H⟩ := H
    obtain ⟨c2, H⟩ := H
    refine A_aald (t := 1) (n := 6) d_UF_text_32 (by decide) (vA_s (by decide)) rfl c1 (pos_sub c2) ?_
    refine A_cI [.ref 25, .ref 4, .int (h.1 0 9), .ref (rR T1 h 2 (h.1 0 8).toNatClampNeg - 1)] [] (ct_UF_72 rfl) d_UF_text_33 rfl rfl (by decide) (Nat.le_of_ble_eq_true rfl) (rcA_o (c := 7) rfl (vA_s (by decide)) rfl (by decide) rfl) (hP_Reader_read _ _ _ _ _ H) (fun r4 h3 H => ?_)
    refine A_istore_n [some (.ref 0), some (.int r4)] d_UF_text_36 (by decide) rfl rfl ?_
    refine A_aload_n d_UF_text_37 rfl ?_
    refine A_iconst 0 (by decide) d_UF_text_38 ?_
    refine A_putI (k := 9) d_UF_text_39 (fo_UF_92_11 rfl) (Or.inr ⟨rfl, _, ft_11_9⟩) (fun z => by cases z) rfl (vA_s (by decide)) rfl rfl rfl ?_
    refine A_iload_n d_UF_text_42 rfl ?_
    refine A_if_lt 51 d_UF_text_43 (by decide) (fun z => ?_) (fun z => ?_)
    · have H := H.1 z
      refine A_aload_n d_UF_text_51 rfl ?_
      refine A_dup rfl d_UF_text_52 ?_
      refine A_get (v := .int (h3.1 0 8)) d_UF_text_53 (fo_UF_76_11 rfl) (vA_s (by decide)) rfl (by first | rfl | (show Value.int _ = Value.int _; simp [wI, wL, wR, wC, up])) ?_
      refine A_iconst 1 (by decide) d_UF_text_56 ?_
      refine A_iadd d_UF_text_57 ?_
      refine A_putI (k := 8) d_UF_text_58 (fo_UF_76_11 rfl) (Or.inr ⟨rfl, _, ft_11_8⟩) (fun z => by cases z) rfl (vA_s (by decide)) rfl rfl rfl ?_
      refine A_aload_n d_UF_text_61 rfl ?_
      refine A_get (v := .int ((h3.1 0 8) + 1)) d_UF_text_62 (fo_UF_76_11 rfl) (vA_s (by decide)) rfl (by first | rfl | (show Value.int _ = Value.int _; simp [wI, wL, wR, wC, up])) ?_
      refine A_iconst 1 (by decide) d_UF_text_65 ?_
      refine A_isub d_UF_text_66 ?_
      exact A_iret d_UF_text_67 rfl rfl H
    · have H := H.2 z
      refine A_bipush (-100) (by decide) d_UF_text_46 ?_
      refine A_iload_n d_UF_text_48 rfl ?_
      refine A_isub d_UF_text_49 ?_
      exact A_iret d_UF_text_50 rfl rfl H
  · have H := H.2 z
    refine A_bipush (-4) (by decide) d_UF_text_9 ?_
    exact A_iret d_UF_text_11 rfl rfl H
set_option maxRecDepth 20000 in
theorem ok_UF_text {G : GG} {d : Nat} {Q : Int32 → AH → Prop} {P_Reader_read : (Int32 → AH → Prop) → Nat → Int32 → Nat → AH → Prop} (hP_Reader_read : ∀ Q a1 x2 a3 h, P_Reader_read Q a1 x2 a3 h → WP G T1 m_Reader_read (d + 3) [.ref 25, .ref a1, .int x2, .ref a3] h 0 0 (iQ Q)) {h : AH} (H : p_UF_text Q P_Reader_read h) : WP G T1 m_UF_text (d + 4) [.ref 0] h 0 0 (iQ Q) := by
  exact WP.enter 1 (by decide) rfl rfl (r_UF_text_0 hP_Reader_read h H)
theorem d_UF_asks_0 : decode prog_1_method_6_code 0 = .ok (.aload_n 0, 1) := by decide +kernel
theorem d_UF_asks_1 : decode prog_1_method_6_code 1 = .ok (.iload_n 2, 1) := by decide +kernel
theorem d_UF_asks_2 : decode prog_1_method_6_code 2 = .ok (.invokevirtual 107, 3) := by decide +kernel
theorem d_UF_asks_5 : decode prog_1_method_6_code 5 = .ok (.ifCond .ne 6, 3) := by decide +kernel
theorem d_UF_asks_8 : decode prog_1_method_6_code 8 = .ok (.bipush (-5), 2) := by decide +kernel
theorem d_UF_asks_10 : decode prog_1_method_6_code 10 = .ok (.ireturn, 1) := by decide +kernel
theorem d_UF_asks_11 : decode prog_1_method_6_code 11 = .ok (.iload_n 1, 1) := by decide +kernel
theorem d_UF_asks_12 : decode prog_1_method_6_code 12 = .ok (.iconst 0, 1) := by decide +kernel
theorem d_UF_asks_13 : decode prog_1_method_6_code 13 = .ok (.iconst 2, 1) := by decide +kernel
theorem d_UF_asks_14 : decode prog_1_method_6_code 14 = .ok (.invokestatic 95, 3) := by decide +kernel
theorem d_UF_asks_17 : decode prog_1_method_6_code 17 = .ok (.ifCond .eq 13, 3) := by decide +kernel
theorem d_UF_asks_20 : decode prog_1_method_6_code 20 = .ok (.iload_n 3, 1) := by decide +kernel
theorem d_UF_asks_21 : decode prog_1_method_6_code 21 = .ok (.iconst 0, 1) := by decide +kernel
theorem d_UF_asks_22 : decode prog_1_method_6_code 22 = .ok (.bipush 24, 2) := by decide +kernel
theorem d_UF_asks_24 : decode prog_1_method_6_code 24 = .ok (.invokestatic 95, 3) := by decide +kernel
theorem d_UF_asks_27 : decode prog_1_method_6_code 27 = .ok (.ifCond .ne 6, 3) := by decide +kernel
theorem d_UF_asks_30 : decode prog_1_method_6_code 30 = .ok (.bipush (-7), 2) := by decide +kernel
theorem d_UF_asks_32 : decode prog_1_method_6_code 32 = .ok (.ireturn, 1) := by decide +kernel
theorem d_UF_asks_33 : decode prog_1_method_6_code 33 = .ok (.aload_n 0, 1) := by decide +kernel
theorem d_UF_asks_34 : decode prog_1_method_6_code 34 = .ok (.invokevirtual 110, 3) := by decide +kernel
theorem d_UF_asks_37 : decode prog_1_method_6_code 37 = .ok (.aload_n 0, 1) := by decide +kernel
theorem d_UF_asks_38 : decode prog_1_method_6_code 38 = .ok (.getfield 44, 3) := by decide +kernel
theorem d_UF_asks_41 : decode prog_1_method_6_code 41 = .ok (.iload_n 1, 1) := by decide +kernel
theorem d_UF_asks_42 : decode prog_1_method_6_code 42 = .ok (.iload_n 2, 1) := by decide +kernel
theorem d_UF_asks_43 : decode prog_1_method_6_code 43 = .ok (.iload_n 3, 1) := by decide +kernel
theorem d_UF_asks_44 : decode prog_1_method_6_code 44 = .ok (.iconst 0, 1) := by decide +kernel
theorem d_UF_asks_45 : decode prog_1_method_6_code 45 = .ok (.invokevirtual 113, 3) := by decide +kernel
theorem d_UF_asks_48 : decode prog_1_method_6_code 48 = .ok (.ireturn, 1) := by decide +kernel
def p_UF_asks (Q : Int32 → AH → Prop) (x1 : Int32) (x2 : Int32) (x3 : Int32) (h : AH) : Prop := p_UF_isHouse (fun r2 h1 => ((¬ r2 = 0 → p_UF_within (fun r4 h3 => ((r4 = 0 → Q (-7) h3) ∧ (¬ r4 = 0 → p_UF_within (fun r6 h5 => ((¬ r6 = 0 → p_UF_ready (fun h7 => p_Dusk_says (fun r9 h8 => Q r9 h8) x1 x2 x3 0 h7) h5) ∧ (r6 = 0 → Q (-7) h5))) x3 0 24 h3))) x1 0 2 h1) ∧ (r2 = 0 → Q (-5) h1))) x2 h
set_option maxRecDepth 20000 in
theorem r_UF_asks_0 {G : GG} {d : Nat} {Q : Int32 → AH → Prop} (x1 : Int32) (x2 : Int32) (x3 : Int32) (h : AH) (H : p_UF_asks Q x1 x2 x3 h) : Att G T1 m_UF_asks (d + 4) 0 [some (.ref 0), some (.int x1), some (.int x2), some (.int x3)] [] h 0 0 (iQ Q) := by
  refine A_aload_n d_UF_asks_0 rfl ?_
  refine A_iload_n d_UF_asks_1 rfl ?_
  refine A_cI [.ref 0, .int x2] [] (ct_UF_107 rfl) d_UF_asks_2 rfl rfl (by decide) (Nat.le_of_ble_eq_true rfl) (rcA_o (c := 11) rfl (vA_s (by decide)) rfl (by decide) rfl) (ok_UF_isHouse (d := d + 2) H) (fun r2 h1 H => ?_)
  refine A_if_ne 11 d_UF_asks_5 (by decide) (fun z => ?_) (fun z => ?_)
  · have H := H.1 z
    refine A_iload_n d_UF_asks_11 rfl ?_
    refine A_iconst 0 (by decide) d_UF_asks_12 ?_
    refine A_iconst 2 (by decide) d_UF_asks_13 ?_
    refine A_cI [.int x1, .int 0, .int 2] [] (ct_UF_95 rfl) d_UF_asks_14 rfl rfl (by decide) (Nat.le_of_ble_eq_true rfl) trivial (ok_UF_within (d := d + 3) H) (fun r4 h3 H => ?_)
    refine A_if_eq 30 d_UF_asks_17 (by decide) (fun z => ?_) (fun z => ?_)
    · have H := H.1 z
      refine A_bipush (-7) (by decide) d_UF_asks_30 ?_
      exact A_iret d_UF_asks_32 rfl rfl H
    · have H := H.2 z
      refine A_iload_n d_UF_asks_20 rfl ?_
      refine A_iconst 0 (by decide) d_UF_asks_21 ?_
      refine A_bipush 24 (by decide) d_UF_asks_22 ?_
      refine A_cI [.int x3, .int 0, .int 24] [] (ct_UF_95 rfl) d_UF_asks_24 rfl rfl (by decide) (Nat.le_of_ble_eq_true rfl) trivial (ok_UF_within (d := d + 3) H) (fun r6 h5 H => ?_)
      refine A_if_ne 33 d_UF_asks_27 (by decide) (fun z => ?_) (fun z => ?_)
      · have H := H.1 z
        refine A_aload_n d_UF_asks_33 rfl ?_
        refine A_cV [.ref 0] [] (ct_UF_110 rfl) d_UF_asks_34 rfl rfl (by decide) (Nat.le_of_ble_eq_true rfl) (rcA_o (c := 11) rfl (vA_s (by decide)) rfl (by decide) rfl) (ok_UF_ready (d := d) H) (fun h7 H => ?_)
        refine A_aload_n d_UF_asks_37 rfl ?_
        refine A_get (v := .ref 13) d_UF_asks_38 (fo_UF_44_11 rfl) (vA_s (by decide)) rfl (by first | rfl | (show Value.int _ = Value.int _; simp [wI, wL, wR, wC, up])) ?_
        refine A_iload_n d_UF_asks_41 rfl ?_
        refine A_iload_n d_UF_asks_42 rfl ?_
        refine A_iload_n d_UF_asks_43 rfl ?_
        refine A_iconst 0 (by decide) d_UF_asks_44 ?_
        refine A_cI [.ref 13, .int x1, .int x2, .int x3, .int 0] [] (ct_UF_113 rfl) d_UF_asks_45 rfl rfl (by decide) (Nat.le_of_ble_eq_true rfl) (rcA_o (c := 2) rfl (vA_s (by decide)) rfl (by decide) rfl) (ok_Dusk_says (d := d + 1) H) (fun r9 h8 H => ?_)
        exact A_iret d_UF_asks_48 rfl rfl H
      · have H := H.2 z
        refine A_bipush (-7) (by decide) d_UF_asks_30 ?_
        exact A_iret d_UF_asks_32 rfl rfl H
  · have H := H.2 z
    refine A_bipush (-5) (by decide) d_UF_asks_8 ?_
    exact A_iret d_UF_asks_10 rfl rfl H
set_option maxRecDepth 20000 in
theorem ok_UF_asks {G : GG} {d : Nat} {Q : Int32 → AH → Prop} {x1 : Int32} {x2 : Int32} {x3 : Int32} {h : AH} (H : p_UF_asks Q x1 x2 x3 h) : WP G T1 m_UF_asks (d + 4) [.ref 0, .int x1, .int x2, .int x3] h 0 0 (iQ Q) := by
  exact WP.enter 0 (by decide) rfl rfl (r_UF_asks_0 x1 x2 x3 h H)
theorem d_Dusk_alone_0 : decode prog_4_method_6_code 0 = .ok (.aload_n 0, 1) := by decide +kernel
theorem d_Dusk_alone_1 : decode prog_4_method_6_code 1 = .ok (.getfield 12, 3) := by decide +kernel
theorem d_Dusk_alone_4 : decode prog_4_method_6_code 4 = .ok (.getfield 78, 3) := by decide +kernel
theorem d_Dusk_alone_7 : decode prog_4_method_6_code 7 = .ok (.iload_n 1, 1) := by decide +kernel
theorem d_Dusk_alone_8 : decode prog_4_method_6_code 8 = .ok (.iaload, 1) := by decide +kernel
theorem d_Dusk_alone_9 : decode prog_4_method_6_code 9 = .ok (.ifCond .le 44, 3) := by decide +kernel
theorem d_Dusk_alone_12 : decode prog_4_method_6_code 12 = .ok (.aload_n 0, 1) := by decide +kernel
theorem d_Dusk_alone_13 : decode prog_4_method_6_code 13 = .ok (.getfield 20, 3) := by decide +kernel
theorem d_Dusk_alone_16 : decode prog_4_method_6_code 16 = .ok (.iload_n 1, 1) := by decide +kernel
theorem d_Dusk_alone_17 : decode prog_4_method_6_code 17 = .ok (.aaload, 1) := by decide +kernel
theorem d_Dusk_alone_18 : decode prog_4_method_6_code 18 = .ok (.aload_n 0, 1) := by decide +kernel
theorem d_Dusk_alone_19 : decode prog_4_method_6_code 19 = .ok (.getfield 12, 3) := by decide +kernel
theorem d_Dusk_alone_22 : decode prog_4_method_6_code 22 = .ok (.getfield 78, 3) := by decide +kernel
theorem d_Dusk_alone_25 : decode prog_4_method_6_code 25 = .ok (.iload_n 1, 1) := by decide +kernel
theorem d_Dusk_alone_26 : decode prog_4_method_6_code 26 = .ok (.iaload, 1) := by decide +kernel
theorem d_Dusk_alone_27 : decode prog_4_method_6_code 27 = .ok (.iload_n 2, 1) := by decide +kernel
theorem d_Dusk_alone_28 : decode prog_4_method_6_code 28 = .ok (.invokevirtual 81, 3) := by decide +kernel
theorem d_Dusk_alone_31 : decode prog_4_method_6_code 31 = .ok (.ifCond .eq 22, 3) := by decide +kernel
theorem d_Dusk_alone_34 : decode prog_4_method_6_code 34 = .ok (.aload_n 0, 1) := by decide +kernel
theorem d_Dusk_alone_35 : decode prog_4_method_6_code 35 = .ok (.iload_n 1, 1) := by decide +kernel
theorem d_Dusk_alone_36 : decode prog_4_method_6_code 36 = .ok (.iload_n 2, 1) := by decide +kernel
theorem d_Dusk_alone_37 : decode prog_4_method_6_code 37 = .ok (.invokevirtual 85, 3) := by decide +kernel
theorem d_Dusk_alone_40 : decode prog_4_method_6_code 40 = .ok (.aload_n 0, 1) := by decide +kernel
theorem d_Dusk_alone_41 : decode prog_4_method_6_code 41 = .ok (.iload_n 1, 1) := by decide +kernel
theorem d_Dusk_alone_42 : decode prog_4_method_6_code 42 = .ok (.iload_n 2, 1) := by decide +kernel
theorem d_Dusk_alone_43 : decode prog_4_method_6_code 43 = .ok (.invokevirtual 89, 3) := by decide +kernel
theorem d_Dusk_alone_46 : decode prog_4_method_6_code 46 = .ok (.if_icmp .le 7, 3) := by decide +kernel
theorem d_Dusk_alone_49 : decode prog_4_method_6_code 49 = .ok (.iconst 1, 1) := by decide +kernel
theorem d_Dusk_alone_50 : decode prog_4_method_6_code 50 = .ok (.goto 4, 3) := by decide +kernel
theorem d_Dusk_alone_53 : decode prog_4_method_6_code 53 = .ok (.iconst 0, 1) := by decide +kernel
theorem d_Dusk_alone_54 : decode prog_4_method_6_code 54 = .ok (.istore_n 3, 1) := by decide +kernel
theorem d_Dusk_alone_55 : decode prog_4_method_6_code 55 = .ok (.iload_n 3, 1) := by decide +kernel
theorem d_Dusk_alone_56 : decode prog_4_method_6_code 56 = .ok (.ifCond .eq 12, 3) := by decide +kernel
theorem d_Dusk_alone_59 : decode prog_4_method_6_code 59 = .ok (.aload_n 0, 1) := by decide +kernel
theorem d_Dusk_alone_60 : decode prog_4_method_6_code 60 = .ok (.iload_n 1, 1) := by decide +kernel
theorem d_Dusk_alone_61 : decode prog_4_method_6_code 61 = .ok (.iload_n 2, 1) := by decide +kernel
theorem d_Dusk_alone_62 : decode prog_4_method_6_code 62 = .ok (.invokevirtual 92, 3) := by decide +kernel
theorem d_Dusk_alone_65 : decode prog_4_method_6_code 65 = .ok (.goto 10, 3) := by decide +kernel
theorem d_Dusk_alone_68 : decode prog_4_method_6_code 68 = .ok (.aload_n 0, 1) := by decide +kernel
theorem d_Dusk_alone_69 : decode prog_4_method_6_code 69 = .ok (.getfield 24, 3) := by decide +kernel
theorem d_Dusk_alone_72 : decode prog_4_method_6_code 72 = .ok (.iload_n 1, 1) := by decide +kernel
theorem d_Dusk_alone_73 : decode prog_4_method_6_code 73 = .ok (.iconst 0, 1) := by decide +kernel
theorem d_Dusk_alone_74 : decode prog_4_method_6_code 74 = .ok (.iastore, 1) := by decide +kernel
theorem d_Dusk_alone_75 : decode prog_4_method_6_code 75 = .ok (.return_, 1) := by decide +kernel
def p_Dusk_alone_54 (Q : AH → Prop) (x1 : Int32) (x2 : Int32) (s0 : Int32) (h : AH) : Prop := ((s0 = 0 → inb x1 7 ∧ Q (wI h 19 x1 0)) ∧ (¬ s0 = 0 → p_Dusk_sink (fun h2 => Q h2) x1 x2 h))
def p_Dusk_alone_53 (Q : AH → Prop) (x1 : Int32) (x2 : Int32) (h : AH) : Prop := p_Dusk_alone_54 Q   x1 x2 0 h
def p_Dusk_alone (Q : AH → Prop) (x1 : Int32) (x2 : Int32) (h : AH) : Prop := inb x1 7 ∧ (((h.1 15 x1) ≤ 0 → p_Dusk_alone_53 Q   x1 x2 h) ∧ (¬ (h.1 15 x1) ≤ 0 → 0 < rR T1 h 18 x1.toNatClampNeg ∧ pv_isFree (fun r3 h4 => ((r3 = 0 → p_Dusk_alone_53 Q   x1 x2 h4) ∧ (¬ r3 = 0 → p_Dusk_weighs (fun r6 h5 => p_Dusk_holds (fun r8 h7 => ((r6 ≤ r8 → p_Dusk_alone_53 Q   x1 x2 h7) ∧ (¬ r6 ≤ r8 → p_Dusk_alone_54 Q   x1 x2 1 h7))) x1 x2 h5) x1 x2 h4))) (rR T1 h 18 x1.toNatClampNeg - 1) (h.1 15 x1) x2 h))
set_option maxRecDepth 20000 in
theorem r_Dusk_alone_54 {G : GG} {d : Nat} {Q : AH → Prop} (x1 : Int32) (x2 : Int32) (s0 : Int32) (h : AH) (H : p_Dusk_alone_54 Q x1 x2 s0 h) : Att G T1 m_Dusk_alone (d + 4) 54 [some (.ref 13), some (.int x1), some (.int x2), none] [.int s0] h 0 0 (vQ Q) := by
  refine A_istore_n [some (.ref 13), some (.int x1), some (.int x2), some (.int s0)] d_Dusk_alone_54 (by decide) rfl rfl ?_
  refine A_iload_n d_Dusk_alone_55 rfl ?_
  refine A_if_eq 68 d_Dusk_alone_56 (by decide) (fun z => ?_) (fun z => ?_)
  · have H := H.1 z
    refine A_aload_n d_Dusk_alone_68 rfl ?_
    refine A_get (v := .ref 19) d_Dusk_alone_69 (fo_Dusk_24_2 rfl) (vA_s (by decide)) rfl (by first | rfl | (show Value.int _ = Value.int _; simp [wI, wL, wR, wC, up])) ?_
    refine A_iload_n d_Dusk_alone_72 rfl ?_
    refine A_iconst 0 (by decide) d_Dusk_alone_73 ?_
    obtain ⟨c1, H⟩ := H
    refine A_iast (n := 7) d_Dusk_alone_74 (vA_s (by decide)) rfl c1 ?_
    exact A_ret d_Dusk_alone_75 rfl H
  · have H := H.2 z
    refine A_aload_n d_Dusk_alone_59 rfl ?_
    refine A_iload_n d_Dusk_alone_60 rfl ?_
    refine A_iload_n d_Dusk_alone_61 rfl ?_
    refine A_cV [.ref 13, .int x1, .int x2] [] (ct_Dusk_92 rfl) d_Dusk_alone_62 rfl rfl (by decide) (Nat.le_of_ble_eq_true rfl) (rcA_o (c := 2) rfl (vA_s (by decide)) rfl (by decide) rfl) (ok_Dusk_sink (d := d) H) (fun h2 H => ?_)
    refine A_goto 75 d_Dusk_alone_65 (by decide) ?_
    exact A_ret d_Dusk_alone_75 rfl H
set_option maxRecDepth 20000 in
theorem r_Dusk_alone_53 {G : GG} {d : Nat} {Q : AH → Prop} (x1 : Int32) (x2 : Int32) (h : AH) (H : p_Dusk_alone_53 Q x1 x2 h) : Att G T1 m_Dusk_alone (d + 4) 53 [some (.ref 13), some (.int x1), some (.int x2), none] [] h 0 0 (vQ Q) := by
  refine A_iconst 0 (by decide) d_Dusk_alone_53 ?_
  exact r_Dusk_alone_54   _ _ _ _ H
set_option maxRecDepth 20000 in
theorem r_Dusk_alone_0 {G : GG} {d : Nat} {Q : AH → Prop} (x1 : Int32) (x2 : Int32) (h : AH) (H : p_Dusk_alone Q x1 x2 h) : Att G T1 m_Dusk_alone (d + 4) 0 [some (.ref 13), some (.int x1), some (.int x2), none] [] h 0 0 (vQ Q) := by
  refine A_aload_n d_Dusk_alone_0 rfl ?_
  refine A_get (v := .ref 14) d_Dusk_alone_1 (fo_Dusk_12_2 rfl) (vA_s (by decide)) rfl (by first | rfl | (show Value.int _ = Value.int _; simp [wI, wL, wR, wC, up])) ?_
  refine A_get (v := .ref 15) d_Dusk_alone_4 (fo_Dusk_78_10 rfl) (vA_s (by decide)) rfl (by first | rfl | (show Value.int _ = Value.int _; simp [wI, wL, wR, wC, up])) ?_
  refine A_iload_n d_Dusk_alone_7 rfl ?_
  obtain ⟨c1, H⟩ := H
  refine A_ialdv (n := 7) (v := (h.1 15 x1)) d_Dusk_alone_8 (vA_s (by decide)) rfl c1 rfl ?_
  refine A_if_le 53 d_Dusk_alone_9 (by decide) (fun z => ?_) (fun z => ?_)
  · have H := H.1 z
    exact r_Dusk_alone_53   _ _ _ H
  · have H := H.2 z
    refine A_aload_n d_Dusk_alone_12 rfl ?_
    refine A_get (v := .ref 18) d_Dusk_alone_13 (fo_Dusk_20_2 rfl) (vA_s (by decide)) rfl (by first | rfl | (show Value.int _ = Value.int _; simp [wI, wL, wR, wC, up])) ?_
    refine A_iload_n d_Dusk_alone_16 rfl ?_
    obtain ⟨c2, H⟩ := H
    refine A_aald (t := 0) (n := 7) d_Dusk_alone_17 (by decide) (vA_s (by decide)) rfl c1 (pos_sub c2) ?_
    refine A_aload_n d_Dusk_alone_18 rfl ?_
    refine A_get (v := .ref 14) d_Dusk_alone_19 (fo_Dusk_12_2 rfl) (vA_s (by decide)) rfl (by first | rfl | (show Value.int _ = Value.int _; simp [wI, wL, wR, wC, up])) ?_
    refine A_get (v := .ref 15) d_Dusk_alone_22 (fo_Dusk_78_10 rfl) (vA_s (by decide)) rfl (by first | rfl | (show Value.int _ = Value.int _; simp [wI, wL, wR, wC, up])) ?_
    refine A_iload_n d_Dusk_alone_25 rfl ?_
    refine A_ialdv (n := 7) (v := (h.1 15 x1)) d_Dusk_alone_26 (vA_s (by decide)) rfl c1 rfl ?_
    refine A_iload_n d_Dusk_alone_27 rfl ?_
    refine A_pv_isFree (d := d + 1) d_Dusk_alone_28 H (fun r3 h4 H => ?_)
    refine A_if_eq 53 d_Dusk_alone_31 (by decide) (fun z => ?_) (fun z => ?_)
    · have H := H.1 z
      exact r_Dusk_alone_53   _ _ _ H
    · have H := H.2 z
      refine A_aload_n d_Dusk_alone_34 rfl ?_
      refine A_iload_n d_Dusk_alone_35 rfl ?_
      refine A_iload_n d_Dusk_alone_36 rfl ?_
      refine A_cI [.ref 13, .int x1, .int x2] [] (ct_Dusk_85 rfl) d_Dusk_alone_37 rfl rfl (by decide) (Nat.le_of_ble_eq_true rfl) (rcA_o (c := 2) rfl (vA_s (by decide)) rfl (by decide) rfl) (ok_Dusk_weighs (d := d) H) (fun r6 h5 H => ?_)
      refine A_aload_n d_Dusk_alone_40 rfl ?_
      refine A_iload_n d_Dusk_alone_41 rfl ?_
      refine A_iload_n d_Dusk_alone_42 rfl ?_
      refine A_cI [.ref 13, .int x1, .int x2] [.int r6] (ct_Dusk_89 rfl) d_Dusk_alone_43 rfl rfl (by decide) (Nat.le_of_ble_eq_true rfl) (rcA_o (c := 2) rfl (vA_s (by decide)) rfl (by decide) rfl) (ok_Dusk_holds (d := d) H) (fun r8 h7 H => ?_)
      refine A_icmp_le 53 d_Dusk_alone_46 (by decide) (fun z => ?_) (fun z => ?_)
      · have H := H.1 z
        exact r_Dusk_alone_53   _ _ _ H
      · have H := H.2 z
        refine A_iconst 1 (by decide) d_Dusk_alone_49 ?_
        refine A_goto 54 d_Dusk_alone_50 (by decide) ?_
        exact r_Dusk_alone_54   _ _ _ _ H
set_option maxRecDepth 20000 in
theorem ok_Dusk_alone {G : GG} {d : Nat} {Q : AH → Prop} {x1 : Int32} {x2 : Int32} {h : AH} (H : p_Dusk_alone Q x1 x2 h) : WP G T1 m_Dusk_alone (d + 4) [.ref 13, .int x1, .int x2] h 0 0 (vQ Q) := by
  exact WP.enter 1 (by decide) rfl rfl (r_Dusk_alone_0 x1 x2 h H)
