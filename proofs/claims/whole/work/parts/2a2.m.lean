theorem d_Town_become_0 : decode prog_12_method_2_code 0 = .ok (.aload_n 0, 1) := by decide +kernel
theorem d_Town_become_1 : decode prog_12_method_2_code 1 = .ok (.aload_n 1, 1) := by decide +kernel
theorem d_Town_become_2 : decode prog_12_method_2_code 2 = .ok (.getfield 21, 3) := by decide +kernel
theorem d_Town_become_5 : decode prog_12_method_2_code 5 = .ok (.putfield 21, 3) := by decide +kernel
theorem d_Town_become_8 : decode prog_12_method_2_code 8 = .ok (.aload_n 0, 1) := by decide +kernel
theorem d_Town_become_9 : decode prog_12_method_2_code 9 = .ok (.aload_n 1, 1) := by decide +kernel
theorem d_Town_become_10 : decode prog_12_method_2_code 10 = .ok (.getfield 25, 3) := by decide +kernel
theorem d_Town_become_13 : decode prog_12_method_2_code 13 = .ok (.putfield 25, 3) := by decide +kernel
theorem d_Town_become_16 : decode prog_12_method_2_code 16 = .ok (.aload_n 1, 1) := by decide +kernel
theorem d_Town_become_17 : decode prog_12_method_2_code 17 = .ok (.getfield 9, 3) := by decide +kernel
theorem d_Town_become_20 : decode prog_12_method_2_code 20 = .ok (.iconst 0, 1) := by decide +kernel
theorem d_Town_become_21 : decode prog_12_method_2_code 21 = .ok (.aload_n 0, 1) := by decide +kernel
theorem d_Town_become_22 : decode prog_12_method_2_code 22 = .ok (.getfield 9, 3) := by decide +kernel
theorem d_Town_become_25 : decode prog_12_method_2_code 25 = .ok (.iconst 0, 1) := by decide +kernel
theorem d_Town_become_26 : decode prog_12_method_2_code 26 = .ok (.bipush 7, 2) := by decide +kernel
theorem d_Town_become_28 : decode prog_12_method_2_code 28 = .ok (.invokestatic 28, 3) := by decide +kernel
theorem d_Town_become_31 : decode prog_12_method_2_code 31 = .ok (.aload_n 1, 1) := by decide +kernel
theorem d_Town_become_32 : decode prog_12_method_2_code 32 = .ok (.getfield 15, 3) := by decide +kernel
theorem d_Town_become_35 : decode prog_12_method_2_code 35 = .ok (.iconst 0, 1) := by decide +kernel
theorem d_Town_become_36 : decode prog_12_method_2_code 36 = .ok (.aload_n 0, 1) := by decide +kernel
theorem d_Town_become_37 : decode prog_12_method_2_code 37 = .ok (.getfield 15, 3) := by decide +kernel
theorem d_Town_become_40 : decode prog_12_method_2_code 40 = .ok (.iconst 0, 1) := by decide +kernel
theorem d_Town_become_41 : decode prog_12_method_2_code 41 = .ok (.bipush 7, 2) := by decide +kernel
theorem d_Town_become_43 : decode prog_12_method_2_code 43 = .ok (.invokestatic 28, 3) := by decide +kernel
theorem d_Town_become_46 : decode prog_12_method_2_code 46 = .ok (.aload_n 1, 1) := by decide +kernel
theorem d_Town_become_47 : decode prog_12_method_2_code 47 = .ok (.getfield 18, 3) := by decide +kernel
theorem d_Town_become_50 : decode prog_12_method_2_code 50 = .ok (.iconst 0, 1) := by decide +kernel
theorem d_Town_become_51 : decode prog_12_method_2_code 51 = .ok (.aload_n 0, 1) := by decide +kernel
theorem d_Town_become_52 : decode prog_12_method_2_code 52 = .ok (.getfield 18, 3) := by decide +kernel
theorem d_Town_become_55 : decode prog_12_method_2_code 55 = .ok (.iconst 0, 1) := by decide +kernel
theorem d_Town_become_56 : decode prog_12_method_2_code 56 = .ok (.bipush 7, 2) := by decide +kernel
theorem d_Town_become_58 : decode prog_12_method_2_code 58 = .ok (.invokestatic 28, 3) := by decide +kernel
theorem d_Town_become_61 : decode prog_12_method_2_code 61 = .ok (.return_, 1) := by decide +kernel
def p_Town_become (Q : AH → Prop) (a0 : Nat) (a1 : Nat) (h : AH) : Prop := vA T1 h a1 ∧ (rS T1 h a1).1 = 10 ∧ vA T1 h a0 ∧ (rS T1 h a0).1 = 10 ∧ 0 < rR T1 h a1 0 ∧ 0 < rR T1 h a0 0 ∧ vA T1 h (rR T1 h a1 0 - 1) ∧ (rS T1 h (rR T1 h a1 0 - 1)).1 = 100 ∧ vA T1 h (rR T1 h a0 0 - 1) ∧ (rS T1 h (rR T1 h a0 0 - 1)).1 = 100 ∧ (0 : Int32).toInt + (7 : Int32).toInt ≤ ((rS T1 h (rR T1 h a1 0 - 1)).2 : Nat) ∧ (0 : Int32).toInt + (7 : Int32).toInt ≤ ((rS T1 h (rR T1 h a0 0 - 1)).2 : Nat) ∧ (rS T1 h (rR T1 h a1 0 - 1)).2 < 2147483648 ∧ (rS T1 h (rR T1 h a0 0 - 1)).2 < 2147483648 ∧ 0 < rR T1 h a1 1 ∧ 0 < rR T1 h a0 1 ∧ vA T1 h (rR T1 h a1 1 - 1) ∧ (rS T1 h (rR T1 h a1 1 - 1)).1 = 100 ∧ vA T1 h (rR T1 h a0 1 - 1) ∧ (rS T1 h (rR T1 h a0 1 - 1)).1 = 100 ∧ (0 : Int32).toInt + (7 : Int32).toInt ≤ ((rS T1 h (rR T1 h a1 1 - 1)).2 : Nat) ∧ (0 : Int32).toInt + (7 : Int32).toInt ≤ ((rS T1 h (rR T1 h a0 1 - 1)).2 : Nat) ∧ (rS T1 h (rR T1 h a1 1 - 1)).2 < 2147483648 ∧ (rS T1 h (rR T1 h a0 1 - 1)).2 < 2147483648 ∧ 0 < rR T1 h a1 2 ∧ 0 < rR T1 h a0 2 ∧ vA T1 h (rR T1 h a1 2 - 1) ∧ (rS T1 h (rR T1 h a1 2 - 1)).1 = 100 ∧ vA T1 h (rR T1 h a0 2 - 1) ∧ (rS T1 h (rR T1 h a0 2 - 1)).1 = 100 ∧ (0 : Int32).toInt + (7 : Int32).toInt ≤ ((rS T1 h (rR T1 h a1 2 - 1)).2 : Nat) ∧ (0 : Int32).toInt + (7 : Int32).toInt ≤ ((rS T1 h (rR T1 h a0 2 - 1)).2 : Nat) ∧ (rS T1 h (rR T1 h a1 2 - 1)).2 < 2147483648 ∧ (rS T1 h (rR T1 h a0 2 - 1)).2 < 2147483648 ∧ Q (wC (wC (wC (wI (wI h a0 3 (h.1 a1 3)) a0 4 ((wI h a0 3 (h.1 a1 3)).1 a1 4)) (rR T1 h a1 0 - 1) (rR T1 h a0 0 - 1) 0 0 7) (rR T1 h a1 1 - 1) (rR T1 h a0 1 - 1) 0 0 7) (rR T1 h a1 2 - 1) (rR T1 h a0 2 - 1) 0 0 7)
set_option maxRecDepth 20000 in
theorem r_Town_become_0 {G : GG} {d : Nat} {Q : AH → Prop} (a0 : Nat) (a1 : Nat) (h : AH) (H : p_Town_become Q a0 a1 h) : Att G T1 m_Town_become (d + 1) 0 [some (.ref a0), some (.ref a1)] [] h 0 0 (vQ Q) := by
  refine A_aload_n d_Town_become_0 rfl ?_
  refine A_aload_n d_Town_become_1 rfl ?_
  obtain ⟨c1, H⟩ := H
  obtain ⟨c2, H⟩ := H
  refine A_get (v := .int (h.1 a1 3)) d_Town_become_2 (fo_Town_21_10 rfl) c1 c2 (by first | rfl | (show Value.int _ = Value.int _; simp [wI, wL, wR, wC, up])) ?_
  obtain ⟨c3, H⟩ := H
  obtain ⟨c4, H⟩ := H
  refine A_putI (k := 3) d_Town_become_5 (fo_Town_21_10 rfl) (Or.inr ⟨rfl, _, ft_10_3⟩) (fun z => by cases z) rfl c3 c4 rfl rfl ?_
  refine A_aload_n d_Town_become_8 rfl ?_
  refine A_aload_n d_Town_become_9 rfl ?_
  refine A_get (v := .int ((wI h a0 3 (h.1 a1 3)).1 a1 4)) d_Town_become_10 (fo_Town_25_10 rfl) c1 c2 (by first | rfl | (show Value.int _ = Value.int _; simp [wI, wL, wR, wC, up])) ?_
  refine A_putI (k := 4) d_Town_become_13 (fo_Town_25_10 rfl) (Or.inr ⟨rfl, _, ft_10_4⟩) (fun z => by cases z) rfl c3 c4 rfl rfl ?_
  refine A_aload_n d_Town_become_16 rfl ?_
  obtain ⟨c5, H⟩ := H
  refine A_get (v := .ref (rR T1 h a1 0 - 1)) d_Town_become_17 (fo_Town_9_10 rfl) c1 c2 (vR_pos c5) ?_
  refine A_iconst 0 (by decide) d_Town_become_20 ?_
  refine A_aload_n d_Town_become_21 rfl ?_
  obtain ⟨c6, H⟩ := H
  refine A_get (v := .ref (rR T1 h a0 0 - 1)) d_Town_become_22 (fo_Town_9_10 rfl) c3 c4 (vR_pos c6) ?_
  refine A_iconst 0 (by decide) d_Town_become_25 ?_
  refine A_bipush 7 (by decide) d_Town_become_26 ?_
  obtain ⟨c7, H⟩ := H
  obtain ⟨c8, H⟩ := H
  obtain ⟨c9, H⟩ := H
  obtain ⟨c10, H⟩ := H
  obtain ⟨c11, H⟩ := H
  obtain ⟨c12, H⟩ := H
  obtain ⟨c13, H⟩ := H
  obtain ⟨c14, H⟩ := H
  refine A_acopy (n0 := _) (n1 := _) d_Town_become_28 (tG 437 (by decide +kernel) (by decide +kernel)) (tG 439 (by decide +kernel) (by decide +kernel)) (tG 438 (by decide +kernel) (by decide +kernel)) (tG 14 (by decide +kernel) (by decide +kernel)) c7 (rS_ex c8) c9 (rS_ex c10) (by decide) (by decide) (by decide) c11 c12 c13 c14 (Nat.le_of_ble_eq_true rfl) ?_
  refine A_aload_n d_Town_become_31 rfl ?_
  obtain ⟨c15, H⟩ := H
  refine A_get (v := .ref (rR T1 h a1 1 - 1)) d_Town_become_32 (fo_Town_15_10 rfl) c1 c2 (vR_pos c15) ?_
  refine A_iconst 0 (by decide) d_Town_become_35 ?_
  refine A_aload_n d_Town_become_36 rfl ?_
  obtain ⟨c16, H⟩ := H
  refine A_get (v := .ref (rR T1 h a0 1 - 1)) d_Town_become_37 (fo_Town_15_10 rfl) c3 c4 (vR_pos c16) ?_
  refine A_iconst 0 (by decide) d_Town_become_40 ?_
  refine A_bipush 7 (by decide) d_Town_become_41 ?_
  obtain ⟨c17, H⟩ := H
  obtain ⟨c18, H⟩ := H
  obtain ⟨c19, H⟩ := H
  obtain ⟨c20, H⟩ := H
  obtain ⟨c21, H⟩ := H
  obtain ⟨c22, H⟩ := H
  obtain ⟨c23, H⟩ := H
  obtain ⟨c24, H⟩ := H
  refine A_acopy (n0 := _) (n1 := _) d_Town_become_43 (tG 437 (by decide +kernel) (by decide +kernel)) (tG 439 (by decide +kernel) (by decide +kernel)) (tG 438 (by decide +kernel) (by decide +kernel)) (tG 14 (by decide +kernel) (by decide +kernel)) c17 (rS_ex c18) c19 (rS_ex c20) (by decide) (by decide) (by decide) c21 c22 c23 c24 (Nat.le_of_ble_eq_true rfl) ?_
  refine A_aload_n d_Town_become_46 rfl ?_
  obtain ⟨c25, H⟩ := H
  refine A_get (v := .ref (rR T1 h a1 2 - 1)) d_Town_become_47 (fo_Town_18_10 rfl) c1 c2 (vR_pos c25) ?_
  refine A_iconst 0 (by decide) d_Town_become_50 ?_
  refine A_aload_n d_Town_become_51 rfl ?_
  obtain ⟨c26, H⟩ := H
  refine A_get (v := .ref (rR T1 h a0 2 - 1)) d_Town_become_52 (fo_Town_18_10 rfl) c3 c4 (vR_pos c26) ?_
  refine A_iconst 0 (by decide) d_Town_become_55 ?_
  refine A_bipush 7 (by decide) d_Town_become_56 ?_
  obtain ⟨c27, H⟩ := H
  obtain ⟨c28, H⟩ := H
  obtain ⟨c29, H⟩ := H
  obtain ⟨c30, H⟩ := H
  obtain ⟨c31, H⟩ := H
  obtain ⟨c32, H⟩ := H
  obtain ⟨c33, H⟩ := H
  obtain ⟨c34, H⟩ := H
  refine A_acopy (n0 := _) (n1 := _) d_Town_become_58 (tG 437 (by decide +kernel) (by decide +kernel)) (tG 439 (by decide +kernel) (by decide +kernel)) (tG 438 (by decide +kernel) (by decide +kernel)) (tG 14 (by decide +kernel) (by decide +kernel)) c27 (rS_ex c28) c29 (rS_ex c30) (by decide) (by decide) (by decide) c31 c32 c33 c34 (Nat.le_of_ble_eq_true rfl) ?_
  exact A_ret d_Town_become_61 rfl H
set_option maxRecDepth 20000 in
theorem ok_Town_become {G : GG} {d : Nat} {Q : AH → Prop} {a0 : Nat} {a1 : Nat} {h : AH} (H : p_Town_become Q a0 a1 h) : WP G T1 m_Town_become (d + 1) [.ref a0, .ref a1] h 0 0 (vQ Q) := by
  exact WP.enter 0 (by decide) rfl rfl (r_Town_become_0 a0 a1 h H)
theorem d_Law_answer_0 : decode prog_8_method_4_code 0 = .ok (.iload_n 1, 1) := by decide +kernel
theorem d_Law_answer_1 : decode prog_8_method_4_code 1 = .ok (.iconst 0, 1) := by decide +kernel
theorem d_Law_answer_2 : decode prog_8_method_4_code 2 = .ok (.iconst 2, 1) := by decide +kernel
theorem d_Law_answer_3 : decode prog_8_method_4_code 3 = .ok (.invokestatic 26, 3) := by decide +kernel
theorem d_Law_answer_6 : decode prog_8_method_4_code 6 = .ok (.ifCond .ne 5, 3) := by decide +kernel
theorem d_Law_answer_9 : decode prog_8_method_4_code 9 = .ok (.iconst 0, 1) := by decide +kernel
theorem d_Law_answer_10 : decode prog_8_method_4_code 10 = .ok (.ireturn, 1) := by decide +kernel
theorem d_Law_answer_11 : decode prog_8_method_4_code 11 = .ok (.iconst 0, 1) := by decide +kernel
theorem d_Law_answer_12 : decode prog_8_method_4_code 12 = .ok (.istore 4, 2) := by decide +kernel
theorem d_Law_answer_14 : decode prog_8_method_4_code 14 = .ok (.aload_n 0, 1) := by decide +kernel
theorem d_Law_answer_15 : decode prog_8_method_4_code 15 = .ok (.getfield 15, 3) := by decide +kernel
theorem d_Law_answer_18 : decode prog_8_method_4_code 18 = .ok (.iload_n 1, 1) := by decide +kernel
theorem d_Law_answer_19 : decode prog_8_method_4_code 19 = .ok (.iaload, 1) := by decide +kernel
theorem d_Law_answer_20 : decode prog_8_method_4_code 20 = .ok (.istore 5, 2) := by decide +kernel
theorem d_Law_answer_22 : decode prog_8_method_4_code 22 = .ok (.iload 5, 2) := by decide +kernel
theorem d_Law_answer_24 : decode prog_8_method_4_code 24 = .ok (.aload_n 0, 1) := by decide +kernel
theorem d_Law_answer_25 : decode prog_8_method_4_code 25 = .ok (.getfield 15, 3) := by decide +kernel
theorem d_Law_answer_28 : decode prog_8_method_4_code 28 = .ok (.iload_n 1, 1) := by decide +kernel
theorem d_Law_answer_29 : decode prog_8_method_4_code 29 = .ok (.iconst 1, 1) := by decide +kernel
theorem d_Law_answer_30 : decode prog_8_method_4_code 30 = .ok (.iadd, 1) := by decide +kernel
theorem d_Law_answer_31 : decode prog_8_method_4_code 31 = .ok (.iaload, 1) := by decide +kernel
theorem d_Law_answer_32 : decode prog_8_method_4_code 32 = .ok (.if_icmp .ge 137, 3) := by decide +kernel
theorem d_Law_answer_35 : decode prog_8_method_4_code 35 = .ok (.iload 5, 2) := by decide +kernel
theorem d_Law_answer_37 : decode prog_8_method_4_code 37 = .ok (.sipush 160, 3) := by decide +kernel
theorem d_Law_answer_40 : decode prog_8_method_4_code 40 = .ok (.if_icmp .ge 129, 3) := by decide +kernel
theorem d_Law_answer_43 : decode prog_8_method_4_code 43 = .ok (.aload_n 0, 1) := by decide +kernel
theorem d_Law_answer_44 : decode prog_8_method_4_code 44 = .ok (.getfield 11, 3) := by decide +kernel
theorem d_Law_answer_47 : decode prog_8_method_4_code 47 = .ok (.iload 5, 2) := by decide +kernel
theorem d_Law_answer_49 : decode prog_8_method_4_code 49 = .ok (.iaload, 1) := by decide +kernel
theorem d_Law_answer_50 : decode prog_8_method_4_code 50 = .ok (.istore 6, 2) := by decide +kernel
theorem d_Law_answer_52 : decode prog_8_method_4_code 52 = .ok (.iload 6, 2) := by decide +kernel
theorem d_Law_answer_54 : decode prog_8_method_4_code 54 = .ok (.bipush (-6), 2) := by decide +kernel
theorem d_Law_answer_56 : decode prog_8_method_4_code 56 = .ok (.if_icmp .lt 38, 3) := by decide +kernel
theorem d_Law_answer_59 : decode prog_8_method_4_code 59 = .ok (.iload 4, 2) := by decide +kernel
theorem d_Law_answer_61 : decode prog_8_method_4_code 61 = .ok (.aload_n 3, 1) := by decide +kernel
theorem d_Law_answer_62 : decode prog_8_method_4_code 62 = .ok (.arraylength, 1) := by decide +kernel
theorem d_Law_answer_63 : decode prog_8_method_4_code 63 = .ok (.if_icmp .lt 5, 3) := by decide +kernel
theorem d_Law_answer_66 : decode prog_8_method_4_code 66 = .ok (.iconst 0, 1) := by decide +kernel
theorem d_Law_answer_67 : decode prog_8_method_4_code 67 = .ok (.ireturn, 1) := by decide +kernel
theorem d_Law_answer_68 : decode prog_8_method_4_code 68 = .ok (.aload_n 3, 1) := by decide +kernel
theorem d_Law_answer_69 : decode prog_8_method_4_code 69 = .ok (.iload 4, 2) := by decide +kernel
theorem d_Law_answer_71 : decode prog_8_method_4_code 71 = .ok (.iload 6, 2) := by decide +kernel
theorem d_Law_answer_73 : decode prog_8_method_4_code 73 = .ok (.ifCond .lt 8, 3) := by decide +kernel
theorem d_Law_answer_76 : decode prog_8_method_4_code 76 = .ok (.iload 6, 2) := by decide +kernel
theorem d_Law_answer_78 : decode prog_8_method_4_code 78 = .ok (.goto 9, 3) := by decide +kernel
theorem d_Law_answer_81 : decode prog_8_method_4_code 81 = .ok (.aload_n 2, 1) := by decide +kernel
theorem d_Law_answer_82 : decode prog_8_method_4_code 82 = .ok (.iconst (-1), 1) := by decide +kernel
theorem d_Law_answer_83 : decode prog_8_method_4_code 83 = .ok (.iload 6, 2) := by decide +kernel
theorem d_Law_answer_85 : decode prog_8_method_4_code 85 = .ok (.isub, 1) := by decide +kernel
theorem d_Law_answer_86 : decode prog_8_method_4_code 86 = .ok (.iaload, 1) := by decide +kernel
theorem d_Law_answer_87 : decode prog_8_method_4_code 87 = .ok (.iastore, 1) := by decide +kernel
theorem d_Law_answer_88 : decode prog_8_method_4_code 88 = .ok (.iinc 4 1, 3) := by decide +kernel
theorem d_Law_answer_91 : decode prog_8_method_4_code 91 = .ok (.goto 72, 3) := by decide +kernel
theorem d_Law_answer_94 : decode prog_8_method_4_code 94 = .ok (.iload 6, 2) := by decide +kernel
theorem d_Law_answer_96 : decode prog_8_method_4_code 96 = .ok (.bipush (-11), 2) := by decide +kernel
theorem d_Law_answer_98 : decode prog_8_method_4_code 98 = .ok (.if_icmp .lt 31, 3) := by decide +kernel
theorem d_Law_answer_101 : decode prog_8_method_4_code 101 = .ok (.iload 4, 2) := by decide +kernel
theorem d_Law_answer_103 : decode prog_8_method_4_code 103 = .ok (.iconst 1, 1) := by decide +kernel
theorem d_Law_answer_104 : decode prog_8_method_4_code 104 = .ok (.if_icmp .ge 5, 3) := by decide +kernel
theorem d_Law_answer_107 : decode prog_8_method_4_code 107 = .ok (.iconst 0, 1) := by decide +kernel
theorem d_Law_answer_108 : decode prog_8_method_4_code 108 = .ok (.ireturn, 1) := by decide +kernel
theorem d_Law_answer_109 : decode prog_8_method_4_code 109 = .ok (.aload_n 3, 1) := by decide +kernel
theorem d_Law_answer_110 : decode prog_8_method_4_code 110 = .ok (.iload 4, 2) := by decide +kernel
theorem d_Law_answer_112 : decode prog_8_method_4_code 112 = .ok (.iconst 1, 1) := by decide +kernel
theorem d_Law_answer_113 : decode prog_8_method_4_code 113 = .ok (.isub, 1) := by decide +kernel
theorem d_Law_answer_114 : decode prog_8_method_4_code 114 = .ok (.iload 6, 2) := by decide +kernel
theorem d_Law_answer_116 : decode prog_8_method_4_code 116 = .ok (.aload_n 3, 1) := by decide +kernel
theorem d_Law_answer_117 : decode prog_8_method_4_code 117 = .ok (.iload 4, 2) := by decide +kernel
theorem d_Law_answer_119 : decode prog_8_method_4_code 119 = .ok (.iconst 1, 1) := by decide +kernel
theorem d_Law_answer_120 : decode prog_8_method_4_code 120 = .ok (.isub, 1) := by decide +kernel
theorem d_Law_answer_121 : decode prog_8_method_4_code 121 = .ok (.iaload, 1) := by decide +kernel
theorem d_Law_answer_122 : decode prog_8_method_4_code 122 = .ok (.invokestatic 30, 3) := by decide +kernel
theorem d_Law_answer_125 : decode prog_8_method_4_code 125 = .ok (.iastore, 1) := by decide +kernel
theorem d_Law_answer_126 : decode prog_8_method_4_code 126 = .ok (.goto 37, 3) := by decide +kernel
theorem d_Law_answer_129 : decode prog_8_method_4_code 129 = .ok (.iload 4, 2) := by decide +kernel
theorem d_Law_answer_131 : decode prog_8_method_4_code 131 = .ok (.iconst 2, 1) := by decide +kernel
theorem d_Law_answer_132 : decode prog_8_method_4_code 132 = .ok (.if_icmp .ge 5, 3) := by decide +kernel
theorem d_Law_answer_135 : decode prog_8_method_4_code 135 = .ok (.iconst 0, 1) := by decide +kernel
theorem d_Law_answer_136 : decode prog_8_method_4_code 136 = .ok (.ireturn, 1) := by decide +kernel
theorem d_Law_answer_137 : decode prog_8_method_4_code 137 = .ok (.aload_n 3, 1) := by decide +kernel
theorem d_Law_answer_138 : decode prog_8_method_4_code 138 = .ok (.iload 4, 2) := by decide +kernel
theorem d_Law_answer_140 : decode prog_8_method_4_code 140 = .ok (.iconst 2, 1) := by decide +kernel
theorem d_Law_answer_141 : decode prog_8_method_4_code 141 = .ok (.isub, 1) := by decide +kernel
theorem d_Law_answer_142 : decode prog_8_method_4_code 142 = .ok (.iload 6, 2) := by decide +kernel
theorem d_Law_answer_144 : decode prog_8_method_4_code 144 = .ok (.aload_n 3, 1) := by decide +kernel
theorem d_Law_answer_145 : decode prog_8_method_4_code 145 = .ok (.iload 4, 2) := by decide +kernel
theorem d_Law_answer_147 : decode prog_8_method_4_code 147 = .ok (.iconst 2, 1) := by decide +kernel
theorem d_Law_answer_148 : decode prog_8_method_4_code 148 = .ok (.isub, 1) := by decide +kernel
theorem d_Law_answer_149 : decode prog_8_method_4_code 149 = .ok (.iaload, 1) := by decide +kernel
theorem d_Law_answer_150 : decode prog_8_method_4_code 150 = .ok (.aload_n 3, 1) := by decide +kernel
theorem d_Law_answer_151 : decode prog_8_method_4_code 151 = .ok (.iload 4, 2) := by decide +kernel
theorem d_Law_answer_153 : decode prog_8_method_4_code 153 = .ok (.iconst 1, 1) := by decide +kernel
theorem d_Law_answer_154 : decode prog_8_method_4_code 154 = .ok (.isub, 1) := by decide +kernel
theorem d_Law_answer_155 : decode prog_8_method_4_code 155 = .ok (.iaload, 1) := by decide +kernel
theorem d_Law_answer_156 : decode prog_8_method_4_code 156 = .ok (.invokestatic 34, 3) := by decide +kernel
theorem d_Law_answer_159 : decode prog_8_method_4_code 159 = .ok (.iastore, 1) := by decide +kernel
theorem d_Law_answer_160 : decode prog_8_method_4_code 160 = .ok (.iinc 4 (-1), 3) := by decide +kernel
theorem d_Law_answer_163 : decode prog_8_method_4_code 163 = .ok (.iinc 5 1, 3) := by decide +kernel
theorem d_Law_answer_166 : decode prog_8_method_4_code 166 = .ok (.goto (-144), 3) := by decide +kernel
theorem d_Law_answer_169 : decode prog_8_method_4_code 169 = .ok (.iload 4, 2) := by decide +kernel
theorem d_Law_answer_171 : decode prog_8_method_4_code 171 = .ok (.iconst 1, 1) := by decide +kernel
theorem d_Law_answer_172 : decode prog_8_method_4_code 172 = .ok (.if_icmp .ge 5, 3) := by decide +kernel
theorem d_Law_answer_175 : decode prog_8_method_4_code 175 = .ok (.iconst 0, 1) := by decide +kernel
theorem d_Law_answer_176 : decode prog_8_method_4_code 176 = .ok (.ireturn, 1) := by decide +kernel
theorem d_Law_answer_177 : decode prog_8_method_4_code 177 = .ok (.iconst 0, 1) := by decide +kernel
theorem d_Law_answer_178 : decode prog_8_method_4_code 178 = .ok (.iload_n 1, 1) := by decide +kernel
theorem d_Law_answer_179 : decode prog_8_method_4_code 179 = .ok (.ifCond .ne 9, 3) := by decide +kernel
theorem d_Law_answer_182 : decode prog_8_method_4_code 182 = .ok (.sipush 999, 3) := by decide +kernel
theorem d_Law_answer_185 : decode prog_8_method_4_code 185 = .ok (.goto 5, 3) := by decide +kernel
theorem d_Law_answer_188 : decode prog_8_method_4_code 188 = .ok (.bipush 99, 2) := by decide +kernel
theorem d_Law_answer_190 : decode prog_8_method_4_code 190 = .ok (.aload_n 3, 1) := by decide +kernel
theorem d_Law_answer_191 : decode prog_8_method_4_code 191 = .ok (.iconst 0, 1) := by decide +kernel
theorem d_Law_answer_192 : decode prog_8_method_4_code 192 = .ok (.iaload, 1) := by decide +kernel
theorem d_Law_answer_193 : decode prog_8_method_4_code 193 = .ok (.invokestatic 38, 3) := by decide +kernel
theorem d_Law_answer_196 : decode prog_8_method_4_code 196 = .ok (.invokestatic 43, 3) := by decide +kernel
theorem d_Law_answer_199 : decode prog_8_method_4_code 199 = .ok (.ireturn, 1) := by decide +kernel
def p_Law_answer_190 (Q : Int32 → AH → Prop) (a3 : Nat) (s0 : Int32) (s1 : Int32) (h : AH) : Prop := vA T1 h a3 ∧ (rS T1 h a3).1 = 100 ∧ inb 0 ((rS T1 h a3).2) ∧ p_Math_min (fun r5 h4 => p_Math_max (fun r7 h6 => Q r7 h6) s0 r5 h4) s1 (h.1 a3 0) h
def p_Law_answer_169 (Q : Int32 → AH → Prop) (x1 : Int32) (a3 : Nat) (x4 : Int32) (h : AH) : Prop := ((1 ≤ x4 → ((¬ x1 = 0 → p_Law_answer_190 Q   a3 0 99 h) ∧ (x1 = 0 → p_Law_answer_190 Q   a3 0 999 h))) ∧ (¬ 1 ≤ x4 → Q 0 h))
def p_Law_answer_163 (Q : Int32 → AH → Prop) (K22 : Nat → Int32 → Nat → Nat → Int32 → Int32 → AH → Prop) (a0 : Nat) (x1 : Int32) (a2 : Nat) (a3 : Nat) (x4 : Int32) (x5 : Int32) (h : AH) : Prop := K22 a0 x1 a2 a3 x4 (x5 + 1) h
def p_Law_answer_87 (Q : Int32 → AH → Prop) (K22 : Nat → Int32 → Nat → Nat → Int32 → Int32 → AH → Prop) (a0 : Nat) (x1 : Int32) (a2 : Nat) (a3 : Nat) (x4 : Int32) (x5 : Int32) (s0 : Nat) (s1 : Int32) (s2 : Int32) (h : AH) : Prop := vA T1 h s0 ∧ (rS T1 h s0).1 = 100 ∧ inb s1 ((rS T1 h s0).2) ∧ p_Law_answer_163 Q  K22 a0 x1 a2 a3 (x4 + 1) x5 (wI h s0 s1 s2)
def p_Law_answer_22 (Q : Int32 → AH → Prop) : Nat → Nat → Int32 → Nat → Nat → Int32 → Int32 → AH → Prop
  | 0 => fun _ _ _ _ _ _ _ => False
  | n + 1 => fun a0 x1 a2 a3 x4 x5 h => let K22 := p_Law_answer_22 Q n; vA T1 h a0 ∧ (rS T1 h a0).1 = 6 ∧ 0 < rR T1 h a0 1 ∧ vA T1 h (rR T1 h a0 1 - 1) ∧ (rS T1 h (rR T1 h a0 1 - 1)).1 = 100 ∧ inb (x1 + 1) ((rS T1 h (rR T1 h a0 1 - 1)).2) ∧ (((h.1 (rR T1 h a0 1 - 1) (x1 + 1)) ≤ x5 → p_Law_answer_169 Q   x1 a3 x4 h) ∧ (¬ (h.1 (rR T1 h a0 1 - 1) (x1 + 1)) ≤ x5 → ((160 ≤ x5 → p_Law_answer_169 Q   x1 a3 x4 h) ∧ (¬ 160 ≤ x5 → 0 < rR T1 h a0 0 ∧ vA T1 h (rR T1 h a0 0 - 1) ∧ (rS T1 h (rR T1 h a0 0 - 1)).1 = 100 ∧ inb x5 ((rS T1 h (rR T1 h a0 0 - 1)).2) ∧ (((h.1 (rR T1 h a0 0 - 1) x5) < (-6) → (((h.1 (rR T1 h a0 0 - 1) x5) < (-11) → ((2 ≤ x4 → vA T1 h a3 ∧ (rS T1 h a3).1 = 100 ∧ inb (x4 - 2) ((rS T1 h a3).2) ∧ inb (x4 - 1) ((rS T1 h a3).2) ∧ p_Law_joined (fun r16 h15 => vA T1 h15 a3 ∧ (rS T1 h15 a3).1 = 100 ∧ inb (x4 - 2) ((rS T1 h15 a3).2) ∧ p_Law_answer_163 Q  K22 a0 x1 a2 a3 (x4 + (-1)) x5 (wI h15 a3 (x4 - 2) r16)) (h.1 (rR T1 h a0 0 - 1) x5) (h.1 a3 (x4 - 2)) (h.1 a3 (x4 - 1)) h) ∧ (¬ 2 ≤ x4 → Q 0 h))) ∧ (¬ (h.1 (rR T1 h a0 0 - 1) x5) < (-11) → ((1 ≤ x4 → vA T1 h a3 ∧ (rS T1 h a3).1 = 100 ∧ inb (x4 - 1) ((rS T1 h a3).2) ∧ p_Law_signed (fun r24 h23 => vA T1 h23 a3 ∧ (rS T1 h23 a3).1 = 100 ∧ inb (x4 - 1) ((rS T1 h23 a3).2) ∧ p_Law_answer_163 Q  K22 a0 x1 a2 a3 x4 x5 (wI h23 a3 (x4 - 1) r24)) (h.1 (rR T1 h a0 0 - 1) x5) (h.1 a3 (x4 - 1)) h) ∧ (¬ 1 ≤ x4 → Q 0 h))))) ∧ (¬ (h.1 (rR T1 h a0 0 - 1) x5) < (-6) → vA T1 h a3 ∧ (rS T1 h a3).1 = 100 ∧ ((x4 < (Int32.ofNat (rS T1 h a3).2) → (((h.1 (rR T1 h a0 0 - 1) x5) < 0 → vA T1 h a2 ∧ (rS T1 h a2).1 = 100 ∧ inb ((-1) - (h.1 (rR T1 h a0 0 - 1) x5)) ((rS T1 h a2).2) ∧ p_Law_answer_87 Q  K22 a0 x1 a2 a3 x4 x5 a3 x4 (h.1 a2 ((-1) - (h.1 (rR T1 h a0 0 - 1) x5))) h) ∧ (¬ (h.1 (rR T1 h a0 0 - 1) x5) < 0 → p_Law_answer_87 Q  K22 a0 x1 a2 a3 x4 x5 a3 x4 (h.1 (rR T1 h a0 0 - 1) x5) h))) ∧ (¬ x4 < (Int32.ofNat (rS T1 h a3).2) → Q 0 h))))))))
def p_Law_answer (Q : Int32 → AH → Prop) (a0 : Nat) (x1 : Int32) (a2 : Nat) (a3 : Nat) (h : AH) : Prop := p_UF_within (fun r2 h1 => ((¬ r2 = 0 → vA T1 h1 a0 ∧ (rS T1 h1 a0).1 = 6 ∧ 0 < rR T1 h1 a0 1 ∧ vA T1 h1 (rR T1 h1 a0 1 - 1) ∧ (rS T1 h1 (rR T1 h1 a0 1 - 1)).1 = 100 ∧ inb x1 ((rS T1 h1 (rR T1 h1 a0 1 - 1)).2) ∧ ∃ n, p_Law_answer_22 Q   n a0 x1 a2 a3 0 (h1.1 (rR T1 h1 a0 1 - 1) x1) h1) ∧ (r2 = 0 → Q 0 h1))) x1 0 2 h
set_option maxRecDepth 20000 in
theorem r_Law_answer_190 {G : GG} {d : Nat} {Q : Int32 → AH → Prop} (a3 : Nat) (s0 : Int32) (s1 : Int32) (h : AH) (H : p_Law_answer_190 Q a3 s0 s1 h) : Att G T1 m_Law_answer (d + 1) 190 [none, none, none, some (.ref a3), none, none, none] [.int s1, .int s0] h 0 0 (iQ Q) := by
  refine A_aload_n d_Law_answer_190 rfl ?_
  refine A_iconst 0 (by decide) d_Law_answer_191 ?_
  obtain ⟨c1, H⟩ := H
  obtain ⟨c2, H⟩ := H
  obtain ⟨c3, H⟩ := H
  refine A_ialdv (n := _) (v := (h.1 a3 0)) d_Law_answer_192 c1 (rS_ex c2) c3 rfl ?_
  refine A_cI [.int s1, .int (h.1 a3 0)] [.int s0] (ct_Law_38 rfl) d_Law_answer_193 rfl rfl (by decide) (Nat.le_of_ble_eq_true rfl) trivial (ok_Math_min (d := d) H) (fun r5 h4 H => ?_)
  refine A_cI [.int s0, .int r5] [] (ct_Law_43 rfl) d_Law_answer_196 rfl rfl (by decide) (Nat.le_of_ble_eq_true rfl) trivial (ok_Math_max (d := d) H) (fun r7 h6 H => ?_)
  exact A_iret d_Law_answer_199 rfl rfl H
set_option maxRecDepth 20000 in
theorem r_Law_answer_169 {G : GG} {d : Nat} {Q : Int32 → AH → Prop} (x1 : Int32) (a3 : Nat) (x4 : Int32) (h : AH) (H : p_Law_answer_169 Q x1 a3 x4 h) : Att G T1 m_Law_answer (d + 1) 169 [none, some (.int x1), none, some (.ref a3), some (.int x4), none, none] [] h 0 0 (iQ Q) := by
  refine A_iload d_Law_answer_169 rfl ?_
  refine A_iconst 1 (by decide) d_Law_answer_171 ?_
  refine A_icmp_ge 177 d_Law_answer_172 (by decide) (fun z => ?_) (fun z => ?_)
  · have H := H.1 z
    refine A_iconst 0 (by decide) d_Law_answer_177 ?_
    refine A_iload_n d_Law_answer_178 rfl ?_
    refine A_if_ne 188 d_Law_answer_179 (by decide) (fun z => ?_) (fun z => ?_)
    · have H := H.1 z
      refine A_bipush 99 (by decide) d_Law_answer_188 ?_
      refine A_sub (L' := [none, none, none, some (.ref a3), none, none, none]) ⟨rfl, trivial⟩ ?_
      exact r_Law_answer_190   _ _ _ _ H
    · have H := H.2 z
      refine A_sipush 999 (by decide) d_Law_answer_182 ?_
      refine A_goto 190 d_Law_answer_185 (by decide) ?_
      refine A_sub (L' := [none, none, none, some (.ref a3), none, none, none]) ⟨rfl, trivial⟩ ?_
      exact r_Law_answer_190   _ _ _ _ H
  · have H := H.2 z
    refine A_iconst 0 (by decide) d_Law_answer_175 ?_
    exact A_iret d_Law_answer_176 rfl rfl H
set_option maxRecDepth 20000 in
theorem r_Law_answer_163 {G : GG} {d : Nat} {Q : Int32 → AH → Prop} {K22 : Nat → Int32 → Nat → Nat → Int32 → Int32 → AH → Prop} (k22 : ∀ a0 x1 a2 a3 x4 x5 h, K22 a0 x1 a2 a3 x4 x5 h → Att G T1 m_Law_answer (d + 1) 22 [some (.ref a0), some (.int x1), some (.ref a2), some (.ref a3), some (.int x4), some (.int x5), none] [] h 0 0 (iQ Q)) (a0 : Nat) (x1 : Int32) (a2 : Nat) (a3 : Nat) (x4 : Int32) (x5 : Int32) (h : AH) (H : p_Law_answer_163 Q K22 a0 x1 a2 a3 x4 x5 h) : Att G T1 m_Law_answer (d + 1) 163 [some (.ref a0), some (.int x1), some (.ref a2), some (.ref a3), some (.int x4), some (.int x5), none] [] h 0 0 (iQ Q) := by
  refine A_iinc 1 [some (.ref a0), some (.int x1), some (.ref a2), some (.ref a3), some (.int x4), some (.int (x5 + 1)), none] d_Law_answer_163 rfl (by decide) (by decide) rfl rfl ?_
  refine A_goto 22 d_Law_answer_166 (by decide) ?_
  exact k22 _ _ _ _ _ _ _ H
set_option maxRecDepth 20000 in
theorem r_Law_answer_87 {G : GG} {d : Nat} {Q : Int32 → AH → Prop} {K22 : Nat → Int32 → Nat → Nat → Int32 → Int32 → AH → Prop} (k22 : ∀ a0 x1 a2 a3 x4 x5 h, K22 a0 x1 a2 a3 x4 x5 h → Att G T1 m_Law_answer (d + 1) 22 [some (.ref a0), some (.int x1), some (.ref a2), some (.ref a3), some (.int x4), some (.int x5), none] [] h 0 0 (iQ Q)) (a0 : Nat) (x1 : Int32) (a2 : Nat) (a3 : Nat) (x4 : Int32) (x5 : Int32) (s0 : Nat) (s1 : Int32) (s2 : Int32) (h : AH) (H : p_Law_answer_87 Q K22 a0 x1 a2 a3 x4 x5 s0 s1 s2 h) : Att G T1 m_Law_answer (d + 1) 87 [some (.ref a0), some (.int x1), some (.ref a2), some (.ref a3), some (.int x4), some (.int x5), none] [.int s2, .int s1, .ref s0] h 0 0 (iQ Q) := by
  obtain ⟨c1, H⟩ := H
  obtain ⟨c2, H⟩ := H
  obtain ⟨c3, H⟩ := H
  refine A_iast (n := _) d_Law_answer_87 c1 (rS_ex c2) c3 ?_
  refine A_iinc 1 [some (.ref a0), some (.int x1), some (.ref a2), some (.ref a3), some (.int (x4 + 1)), some (.int x5), none] d_Law_answer_88 rfl (by decide) (by decide) rfl rfl ?_
  refine A_goto 163 d_Law_answer_91 (by decide) ?_
  exact r_Law_answer_163  k22 _ _ _ _ _ _ _ H
set_option maxRecDepth 20000 in
theorem r_Law_answer_22 {G : GG} {d : Nat} {Q : Int32 → AH → Prop} : ∀ (n : Nat) (a0 : Nat) (x1 : Int32) (a2 : Nat) (a3 : Nat) (x4 : Int32) (x5 : Int32) (h : AH), p_Law_answer_22 Q n a0 x1 a2 a3 x4 x5 h → Att G T1 m_Law_answer (d + 1) 22 [some (.ref a0), some (.int x1), some (.ref a2), some (.ref a3), some (.int x4), some (.int x5), none] [] h 0 0 (iQ Q) := by
  intro n
  induction n with
  | zero => intro a0 x1 a2 a3 x4 x5 h H; exact H.elim
  | succ n k22 =>
    intro a0 x1 a2 a3 x4 x5 h H
    refine A_iload d_Law_answer_22 rfl ?_
    refine A_aload_n d_Law_answer_24 rfl ?_
    obtain ⟨c1, H⟩ := H
    obtain ⟨c2, H⟩ := H
    obtain ⟨c3, H⟩ := H
    refine A_get (v := .ref (rR T1 h a0 1 - 1)) d_Law_answer_25 (fo_Law_15_6 rfl) c1 c2 (vR_pos c3) ?_
    refine A_iload_n d_Law_answer_28 rfl ?_
    refine A_iconst 1 (by decide) d_Law_answer_29 ?_
    refine A_iadd d_Law_answer_30 ?_
    obtain ⟨c4, H⟩ := H
    obtain ⟨c5, H⟩ := H
    obtain ⟨c6, H⟩ := H
    refine A_ialdv (n := _) (v := (h.1 (rR T1 h a0 1 - 1) (x1 + 1))) d_Law_answer_31 c4 (rS_ex c5) c6 rfl ?_
    refine A_icmp_ge 169 d_Law_answer_32 (by decide) (fun z => ?_) (fun z => ?_)
    · have H := H.1 z
      refine A_sub (L' := [none, some (.int x1), none, some (.ref a3), some (.int x4), none, none]) ⟨rfl, rfl, rfl, trivial⟩ ?_
      exact r_Law_answer_169   _ _ _ _ H
    · have H := H.2 z
      refine A_iload d_Law_answer_35 rfl ?_
      refine A_sipush 160 (by decide) d_Law_answer_37 ?_
      refine A_icmp_ge 169 d_Law_answer_40 (by decide) (fun z => ?_) (fun z => ?_)
      · have H := H.1 z
        refine A_sub (L' := [none, some (.int x1), none, some (.ref a3), some (.int x4), none, none]) ⟨rfl, rfl, rfl, trivial⟩ ?_
        exact r_Law_answer_169   _ _ _ _ H
      · have H := H.2 z
        refine A_aload_n d_Law_answer_43 rfl ?_
        obtain ⟨c7, H⟩ := H
        refine A_get (v := .ref (rR T1 h a0 0 - 1)) d_Law_answer_44 (fo_Law_11_6 rfl) c1 c2 (vR_pos c7) ?_
        refine A_iload d_Law_answer_47 rfl ?_
        obtain ⟨c8, H⟩ := H
        obtain ⟨c9, H⟩ := H
        obtain ⟨c10, H⟩ := H
        refine A_ialdv (n := _) (v := (h.1 (rR T1 h a0 0 - 1) x5)) d_Law_answer_49 c8 (rS_ex c9) c10 rfl ?_
        refine A_istore [some (.ref a0), some (.int x1), some (.ref a2), some (.ref a3), some (.int x4), some (.int x5), some (.int (h.1 (rR T1 h a0 0 - 1) x5))] d_Law_answer_50 (by decide) rfl rfl ?_
        refine A_iload d_Law_answer_52 rfl ?_
        refine A_bipush (-6) (by decide) d_Law_answer_54 ?_
        refine A_icmp_lt 94 d_Law_answer_56 (by decide) (fun z => ?_) (fun z => ?_)
        · have H := H.1 z
          refine A_iload d_Law_answer_94 rfl ?_
          refine A_bipush (-11) (by decide) d_Law_answer_96 ?_
          refine A_icmp_lt 129 d_Law_answer_98 (by decide) (fun z => ?_) (fun z => ?_)
          · have H := H.1 z
            refine A_iload d_Law_answer_129 rfl ?_
            refine A_iconst 2 (by decide) d_Law_answer_131 ?_
            refine A_icmp_ge 137 d_Law_answer_132 (by decide) (fun z => ?_) (fun z => ?_)
            · have H := H.1 z
              refine A_aload_n d_Law_answer_137 rfl ?_
              refine A_iload d_Law_answer_138 rfl ?_
              refine A_iconst 2 (by decide) d_Law_answer_140 ?_
              refine A_isub d_Law_answer_141 ?_
              refine A_iload d_Law_answer_142 rfl ?_
              refine A_aload_n d_Law_answer_144 rfl ?_
              refine A_iload d_Law_answer_145 rfl ?_
              refine A_iconst 2 (by decide) d_Law_answer_147 ?_
              refine A_isub d_Law_answer_148 ?_
              obtain ⟨c11, H⟩ := H
              obtain ⟨c12, H⟩ := H
              obtain ⟨c13, H⟩ := H
              refine A_ialdv (n := _) (v := (h.1 a3 (x4 - 2))) d_Law_answer_149 c11 (rS_ex c12) c13 rfl ?_
              refine A_aload_n d_Law_answer_150 rfl ?_
              refine A_iload d_Law_answer_151 rfl ?_
              refine A_iconst 1 (by decide) d_Law_answer_153 ?_
              refine A_isub d_Law_answer_154 ?_
              obtain ⟨c14, H⟩ := H
              refine A_ialdv (n := _) (v := (h.1 a3 (x4 - 1))) d_Law_answer_155 c11 (rS_ex c12) c14 rfl ?_
              refine A_cI [.int (h.1 (rR T1 h a0 0 - 1) x5), .int (h.1 a3 (x4 - 2)), .int (h.1 a3 (x4 - 1))] [.int (x4 - 2), .ref a3] (ct_Law_34 rfl) d_Law_answer_156 rfl rfl (by decide) (Nat.le_of_ble_eq_true rfl) trivial (ok_Law_joined (d := d) H) (fun r16 h15 H => ?_)
              obtain ⟨c17, H⟩ := H
              obtain ⟨c18, H⟩ := H
              obtain ⟨c19, H⟩ := H
              refine A_iast (n := _) d_Law_answer_159 c17 (rS_ex c18) c19 ?_
              refine A_iinc (-1) [some (.ref a0), some (.int x1), some (.ref a2), some (.ref a3), some (.int (x4 + (-1))), some (.int x5), some (.int (h.1 (rR T1 h a0 0 - 1) x5))] d_Law_answer_160 rfl (by decide) (by decide) rfl rfl ?_
              refine A_sub (L' := [some (.ref a0), some (.int x1), some (.ref a2), some (.ref a3), some (.int (x4 + (-1))), some (.int x5), none]) ⟨rfl, rfl, rfl, rfl, rfl, rfl, trivial⟩ ?_
              exact r_Law_answer_163  k22 _ _ _ _ _ _ _ H
            · have H := H.2 z
              refine A_iconst 0 (by decide) d_Law_answer_135 ?_
              exact A_iret d_Law_answer_136 rfl rfl H
          · have H := H.2 z
            refine A_iload d_Law_answer_101 rfl ?_
            refine A_iconst 1 (by decide) d_Law_answer_103 ?_
            refine A_icmp_ge 109 d_Law_answer_104 (by decide) (fun z => ?_) (fun z => ?_)
            · have H := H.1 z
              refine A_aload_n d_Law_answer_109 rfl ?_
              refine A_iload d_Law_answer_110 rfl ?_
              refine A_iconst 1 (by decide) d_Law_answer_112 ?_
              refine A_isub d_Law_answer_113 ?_
              refine A_iload d_Law_answer_114 rfl ?_
              refine A_aload_n d_Law_answer_116 rfl ?_
              refine A_iload d_Law_answer_117 rfl ?_
              refine A_iconst 1 (by decide) d_Law_answer_119 ?_
              refine A_isub d_Law_answer_120 ?_
              obtain ⟨c20, H⟩ := H
              obtain ⟨c21, H⟩ := H
              obtain ⟨c22, H⟩ := H
              refine A_ialdv (n := _) (v := (h.1 a3 (x4 - 1))) d_Law_answer_121 c20 (rS_ex c21) c22 rfl ?_
              refine A_cI [.int (h.1 (rR T1 h a0 0 - 1) x5), .int (h.1 a3 (x4 - 1))] [.int (x4 - 1), .ref a3] (ct_Law_30 rfl) d_Law_answer_122 rfl rfl (by decide) (Nat.le_of_ble_eq_true rfl) trivial (ok_Law_signed (d := d) H) (fun r24 h23 H => ?_)
              obtain ⟨c25, H⟩ := H
              obtain ⟨c26, H⟩ := H
              obtain ⟨c27, H⟩ := H
              refine A_iast (n := _) d_Law_answer_125 c25 (rS_ex c26) c27 ?_
              refine A_goto 163 d_Law_answer_126 (by decide) ?_
              refine A_sub (L' := [some (.ref a0), some (.int x1), some (.ref a2), some (.ref a3), some (.int x4), some (.int x5), none]) ⟨rfl, rfl, rfl, rfl, rfl, rfl, trivial⟩ ?_
              exact r_Law_answer_163  k22 _ _ _ _ _ _ _ H
            · have H := H.2 z
              refine A_iconst 0 (by decide) d_Law_answer_107 ?_
              exact A_iret d_Law_answer_108 rfl rfl H
        · have H := H.2 z
          refine A_iload d_Law_answer_59 rfl ?_
          refine A_aload_n d_Law_answer_61 rfl ?_
          obtain ⟨c28, H⟩ := H
          obtain ⟨c29, H⟩ := H
          refine A_alenI d_Law_answer_62 c28 (rS_ex c29) ?_
          refine A_icmp_lt 68 d_Law_answer_63 (by decide) (fun z => ?_) (fun z => ?_)
          · have H := H.1 z
            refine A_aload_n d_Law_answer_68 rfl ?_
            refine A_iload d_Law_answer_69 rfl ?_
            refine A_iload d_Law_answer_71 rfl ?_
            refine A_if_lt 81 d_Law_answer_73 (by decide) (fun z => ?_) (fun z => ?_)
            · have H := H.1 z
              refine A_aload_n d_Law_answer_81 rfl ?_
              refine A_iconst (-1) (by decide) d_Law_answer_82 ?_
              refine A_iload d_Law_answer_83 rfl ?_
              refine A_isub d_Law_answer_85 ?_
              obtain ⟨c30, H⟩ := H
              obtain ⟨c31, H⟩ := H
              obtain ⟨c32, H⟩ := H
              refine A_ialdv (n := _) (v := (h.1 a2 ((-1) - (h.1 (rR T1 h a0 0 - 1) x5)))) d_Law_answer_86 c30 (rS_ex c31) c32 rfl ?_
              refine A_sub (L' := [some (.ref a0), some (.int x1), some (.ref a2), some (.ref a3), some (.int x4), some (.int x5), none]) ⟨rfl, rfl, rfl, rfl, rfl, rfl, trivial⟩ ?_
              exact r_Law_answer_87  k22 _ _ _ _ _ _ _ _ _ _ H
            · have H := H.2 z
              refine A_iload d_Law_answer_76 rfl ?_
              refine A_goto 87 d_Law_answer_78 (by decide) ?_
              refine A_sub (L' := [some (.ref a0), some (.int x1), some (.ref a2), some (.ref a3), some (.int x4), some (.int x5), none]) ⟨rfl, rfl, rfl, rfl, rfl, rfl, trivial⟩ ?_
              exact r_Law_answer_87  k22 _ _ _ _ _ _ _ _ _ _ H
          · have H := H.2 z
            refine A_iconst 0 (by decide) d_Law_answer_66 ?_
            exact A_iret d_Law_answer_67 rfl rfl H
set_option maxRecDepth 20000 in
theorem r_Law_answer_0 {G : GG} {d : Nat} {Q : Int32 → AH → Prop} (a0 : Nat) (x1 : Int32) (a2 : Nat) (a3 : Nat) (h : AH) (H : p_Law_answer Q a0 x1 a2 a3 h) : Att G T1 m_Law_answer (d + 1) 0 [some (.ref a0), some (.int x1), some (.ref a2), some (.ref a3), none, none, none] [] h 0 0 (iQ Q) := by
  refine A_iload_n d_Law_answer_0 rfl ?_
  refine A_iconst 0 (by decide) d_Law_answer_1 ?_
  refine A_iconst 2 (by decide) d_Law_answer_2 ?_
  refine A_cI [.int x1, .int 0, .int 2] [] (ct_Law_26 rfl) d_Law_answer_3 rfl rfl (by decide) (Nat.le_of_ble_eq_true rfl) trivial (ok_UF_within (d := d) H) (fun r2 h1 H => ?_)
  refine A_if_ne 11 d_Law_answer_6 (by decide) (fun z => ?_) (fun z => ?_)
  · have H := H.1 z
    refine A_iconst 0 (by decide) d_Law_answer_11 ?_
    refine A_istore [some (.ref a0), some (.int x1), some (.ref a2), some (.ref a3), some (.int 0), none, none] d_Law_answer_12 (by decide) rfl rfl ?_
    refine A_aload_n d_Law_answer_14 rfl ?_
    obtain ⟨c3, H⟩ := H
    obtain ⟨c4, H⟩ := H
    obtain ⟨c5, H⟩ := H
    refine A_get (v := .ref (rR T1 h1 a0 1 - 1)) d_Law_answer_15 (fo_Law_15_6 rfl) c3 c4 (vR_pos c5) ?_
    refine A_iload_n d_Law_answer_18 rfl ?_
    obtain ⟨c6, H⟩ := H
    obtain ⟨c7, H⟩ := H
    obtain ⟨c8, H⟩ := H
    refine A_ialdv (n := _) (v := (h1.1 (rR T1 h1 a0 1 - 1) x1)) d_Law_answer_19 c6 (rS_ex c7) c8 rfl ?_
    refine A_istore [some (.ref a0), some (.int x1), some (.ref a2), some (.ref a3), some (.int 0), some (.int (h1.1 (rR T1 h1 a0 1 - 1) x1)), none] d_Law_answer_20 (by decide) rfl rfl ?_
    obtain ⟨n9, H⟩ := H
    exact r_Law_answer_22   n9 _ _ _ _ _ _ _ H
  · have H := H.2 z
    refine A_iconst 0 (by decide) d_Law_answer_9 ?_
    exact A_iret d_Law_answer_10 rfl rfl H
set_option maxRecDepth 20000 in
theorem ok_Law_answer {G : GG} {d : Nat} {Q : Int32 → AH → Prop} {a0 : Nat} {x1 : Int32} {a2 : Nat} {a3 : Nat} {h : AH} (H : p_Law_answer Q a0 x1 a2 a3 h) : WP G T1 m_Law_answer (d + 1) [.ref a0, .int x1, .ref a2, .ref a3] h 0 0 (iQ Q) := by
  exact WP.enter 3 (by decide) rfl rfl (r_Law_answer_0 a0 x1 a2 a3 h H)
theorem d_Town_loosen_0 : decode prog_12_method_4_code 0 = .ok (.aload_n 0, 1) := by decide +kernel
theorem d_Town_loosen_1 : decode prog_12_method_4_code 1 = .ok (.getfield 18, 3) := by decide +kernel
theorem d_Town_loosen_4 : decode prog_12_method_4_code 4 = .ok (.iload_n 1, 1) := by decide +kernel
theorem d_Town_loosen_5 : decode prog_12_method_4_code 5 = .ok (.iaload, 1) := by decide +kernel
theorem d_Town_loosen_6 : decode prog_12_method_4_code 6 = .ok (.istore_n 2, 1) := by decide +kernel
theorem d_Town_loosen_7 : decode prog_12_method_4_code 7 = .ok (.iload_n 2, 1) := by decide +kernel
theorem d_Town_loosen_8 : decode prog_12_method_4_code 8 = .ok (.iconst 0, 1) := by decide +kernel
theorem d_Town_loosen_9 : decode prog_12_method_4_code 9 = .ok (.bipush 6, 2) := by decide +kernel
theorem d_Town_loosen_11 : decode prog_12_method_4_code 11 = .ok (.invokestatic 34, 3) := by decide +kernel
theorem d_Town_loosen_14 : decode prog_12_method_4_code 14 = .ok (.ifCond .eq 10, 3) := by decide +kernel
theorem d_Town_loosen_17 : decode prog_12_method_4_code 17 = .ok (.aload_n 0, 1) := by decide +kernel
theorem d_Town_loosen_18 : decode prog_12_method_4_code 18 = .ok (.getfield 18, 3) := by decide +kernel
theorem d_Town_loosen_21 : decode prog_12_method_4_code 21 = .ok (.iload_n 2, 1) := by decide +kernel
theorem d_Town_loosen_22 : decode prog_12_method_4_code 22 = .ok (.iconst (-1), 1) := by decide +kernel
theorem d_Town_loosen_23 : decode prog_12_method_4_code 23 = .ok (.iastore, 1) := by decide +kernel
theorem d_Town_loosen_24 : decode prog_12_method_4_code 24 = .ok (.aload_n 0, 1) := by decide +kernel
theorem d_Town_loosen_25 : decode prog_12_method_4_code 25 = .ok (.getfield 18, 3) := by decide +kernel
theorem d_Town_loosen_28 : decode prog_12_method_4_code 28 = .ok (.iload_n 1, 1) := by decide +kernel
theorem d_Town_loosen_29 : decode prog_12_method_4_code 29 = .ok (.iconst (-1), 1) := by decide +kernel
theorem d_Town_loosen_30 : decode prog_12_method_4_code 30 = .ok (.iastore, 1) := by decide +kernel
theorem d_Town_loosen_31 : decode prog_12_method_4_code 31 = .ok (.return_, 1) := by decide +kernel
def p_Town_loosen (Q : AH → Prop) (a0 : Nat) (x1 : Int32) (h : AH) : Prop := vA T1 h a0 ∧ (rS T1 h a0).1 = 10 ∧ 0 < rR T1 h a0 2 ∧ vA T1 h (rR T1 h a0 2 - 1) ∧ (rS T1 h (rR T1 h a0 2 - 1)).1 = 100 ∧ inb x1 ((rS T1 h (rR T1 h a0 2 - 1)).2) ∧ p_UF_within (fun r8 h7 => ((r8 = 0 → vA T1 h7 a0 ∧ (rS T1 h7 a0).1 = 10 ∧ 0 < rR T1 h7 a0 2 ∧ vA T1 h7 (rR T1 h7 a0 2 - 1) ∧ (rS T1 h7 (rR T1 h7 a0 2 - 1)).1 = 100 ∧ inb x1 ((rS T1 h7 (rR T1 h7 a0 2 - 1)).2) ∧ Q (wI h7 (rR T1 h7 a0 2 - 1) x1 (-1))) ∧ (¬ r8 = 0 → vA T1 h7 a0 ∧ (rS T1 h7 a0).1 = 10 ∧ 0 < rR T1 h7 a0 2 ∧ vA T1 h7 (rR T1 h7 a0 2 - 1) ∧ (rS T1 h7 (rR T1 h7 a0 2 - 1)).1 = 100 ∧ inb (h.1 (rR T1 h a0 2 - 1) x1) ((rS T1 h7 (rR T1 h7 a0 2 - 1)).2) ∧ inb x1 ((rS T1 h7 (rR T1 h7 a0 2 - 1)).2) ∧ Q (wI (wI h7 (rR T1 h7 a0 2 - 1) (h.1 (rR T1 h a0 2 - 1) x1) (-1)) (rR T1 h7 a0 2 - 1) x1 (-1))))) (h.1 (rR T1 h a0 2 - 1) x1) 0 6 h
set_option maxRecDepth 20000 in
theorem r_Town_loosen_0 {G : GG} {d : Nat} {Q : AH → Prop} (a0 : Nat) (x1 : Int32) (h : AH) (H : p_Town_loosen Q a0 x1 h) : Att G T1 m_Town_loosen (d + 1) 0 [some (.ref a0), some (.int x1), none] [] h 0 0 (vQ Q) := by
  refine A_aload_n d_Town_loosen_0 rfl ?_
  obtain ⟨c1, H⟩ := H
  obtain ⟨c2, H⟩ := H
  obtain ⟨c3, H⟩ := H
  refine A_get (v := .ref (rR T1 h a0 2 - 1)) d_Town_loosen_1 (fo_Town_18_10 rfl) c1 c2 (vR_pos c3) ?_
  refine A_iload_n d_Town_loosen_4 rfl ?_
  obtain ⟨c4, H⟩ := H
  obtain ⟨c5, H⟩ := H
  obtain ⟨c6, H⟩ := H
  refine A_ialdv (n := _) (v := (h.1 (rR T1 h a0 2 - 1) x1)) d_Town_loosen_5 c4 (rS_ex c5) c6 rfl ?_
  refine A_istore_n [some (.ref a0), some (.int x1), some (.int (h.1 (rR T1 h a0 2 - 1) x1))] d_Town_loosen_6 (by decide) rfl rfl ?_
  refine A_iload_n d_Town_loosen_7 rfl ?_
  refine A_iconst 0 (by decide) d_Town_loosen_8 ?_
  refine A_bipush 6 (by decide) d_Town_loosen_9 ?_
  refine A_cI [.int (h.1 (rR T1 h a0 2 - 1) x1), .int 0, .int 6] [] (ct_Town_34 rfl) d_Town_loosen_11 rfl rfl (by decide) (Nat.le_of_ble_eq_true rfl) trivial (ok_UF_within (d := d) H) (fun r8 h7 H => ?_)
  refine A_if_eq 24 d_Town_loosen_14 (by decide) (fun z => ?_) (fun z => ?_)
  · have H := H.1 z
    refine A_aload_n d_Town_loosen_24 rfl ?_
    obtain ⟨c9, H⟩ := H
    obtain ⟨c10, H⟩ := H
    obtain ⟨c11, H⟩ := H
    refine A_get (v := .ref (rR T1 h7 a0 2 - 1)) d_Town_loosen_25 (fo_Town_18_10 rfl) c9 c10 (vR_pos c11) ?_
    refine A_iload_n d_Town_loosen_28 rfl ?_
    refine A_iconst (-1) (by decide) d_Town_loosen_29 ?_
    obtain ⟨c12, H⟩ := H
    obtain ⟨c13, H⟩ := H
    obtain ⟨c14, H⟩ := H
    refine A_iast (n := _) d_Town_loosen_30 c12 (rS_ex c13) c14 ?_
    exact A_ret d_Town_loosen_31 rfl H
  · have H := H.2 z
    refine A_aload_n d_Town_loosen_17 rfl ?_
    obtain ⟨c15, H⟩ := H
    obtain ⟨c16, H⟩ := H
    obtain ⟨c17, H⟩ := H
    refine A_get (v := .ref (rR T1 h7 a0 2 - 1)) d_Town_loosen_18 (fo_Town_18_10 rfl) c15 c16 (vR_pos c17) ?_
    refine A_iload_n d_Town_loosen_21 rfl ?_
    refine A_iconst (-1) (by decide) d_Town_loosen_22 ?_
    obtain ⟨c18, H⟩ := H
    obtain ⟨c19, H⟩ := H
    obtain ⟨c20, H⟩ := H
    refine A_iast (n := _) d_Town_loosen_23 c18 (rS_ex c19) c20 ?_
    refine A_aload_n d_Town_loosen_24 rfl ?_
    refine A_get (v := .ref (rR T1 h7 a0 2 - 1)) d_Town_loosen_25 (fo_Town_18_10 rfl) c15 c16 (vR_pos c17) ?_
    refine A_iload_n d_Town_loosen_28 rfl ?_
    refine A_iconst (-1) (by decide) d_Town_loosen_29 ?_
    obtain ⟨c21, H⟩ := H
    refine A_iast (n := _) d_Town_loosen_30 c18 (rS_ex c19) c21 ?_
    exact A_ret d_Town_loosen_31 rfl H
set_option maxRecDepth 20000 in
theorem ok_Town_loosen {G : GG} {d : Nat} {Q : AH → Prop} {a0 : Nat} {x1 : Int32} {h : AH} (H : p_Town_loosen Q a0 x1 h) : WP G T1 m_Town_loosen (d + 1) [.ref a0, .int x1] h 0 0 (vQ Q) := by
  exact WP.enter 1 (by decide) rfl rfl (r_Town_loosen_0 a0 x1 h H)
theorem d_UF_isSpan_0 : decode prog_1_method_39_code 0 = .ok (.iload_n 0, 1) := by decide +kernel
theorem d_UF_isSpan_1 : decode prog_1_method_39_code 1 = .ok (.iconst 0, 1) := by decide +kernel
theorem d_UF_isSpan_2 : decode prog_1_method_39_code 2 = .ok (.bipush 24, 2) := by decide +kernel
theorem d_UF_isSpan_4 : decode prog_1_method_39_code 4 = .ok (.invokestatic 95, 3) := by decide +kernel
theorem d_UF_isSpan_7 : decode prog_1_method_39_code 7 = .ok (.ireturn, 1) := by decide +kernel
def p_UF_isSpan (Q : Int32 → AH → Prop) (x0 : Int32) (h : AH) : Prop := p_UF_within (fun r2 h1 => narrow .boolean (.int r2) = .int r2 ∧ Q r2 h1) x0 0 24 h
set_option maxRecDepth 20000 in
theorem r_UF_isSpan_0 {G : GG} {d : Nat} {Q : Int32 → AH → Prop} (x0 : Int32) (h : AH) (H : p_UF_isSpan Q x0 h) : Att G T1 m_UF_isSpan (d + 1) 0 [some (.int x0)] [] h 0 0 (iQ Q) := by
  refine A_iload_n d_UF_isSpan_0 rfl ?_
  refine A_iconst 0 (by decide) d_UF_isSpan_1 ?_
  refine A_bipush 24 (by decide) d_UF_isSpan_2 ?_
  refine A_cI [.int x0, .int 0, .int 24] [] (ct_UF_95 rfl) d_UF_isSpan_4 rfl rfl (by decide) (Nat.le_of_ble_eq_true rfl) trivial (ok_UF_within (d := d) H) (fun r2 h1 H => ?_)
  exact A_iret d_UF_isSpan_7 rfl H.1 H.2
set_option maxRecDepth 20000 in
theorem ok_UF_isSpan {G : GG} {d : Nat} {Q : Int32 → AH → Prop} {x0 : Int32} {h : AH} (H : p_UF_isSpan Q x0 h) : WP G T1 m_UF_isSpan (d + 1) [.int x0] h 0 0 (iQ Q) := by
  exact WP.enter 0 (by decide) rfl rfl (r_UF_isSpan_0 x0 h H)
theorem d_Town_downBits_0 : decode prog_12_method_11_code 0 = .ok (.iconst 0, 1) := by decide +kernel
theorem d_Town_downBits_1 : decode prog_12_method_11_code 1 = .ok (.istore_n 1, 1) := by decide +kernel
theorem d_Town_downBits_2 : decode prog_12_method_11_code 2 = .ok (.iconst 0, 1) := by decide +kernel
theorem d_Town_downBits_3 : decode prog_12_method_11_code 3 = .ok (.istore_n 2, 1) := by decide +kernel
theorem d_Town_downBits_4 : decode prog_12_method_11_code 4 = .ok (.iload_n 2, 1) := by decide +kernel
theorem d_Town_downBits_5 : decode prog_12_method_11_code 5 = .ok (.aload_n 0, 1) := by decide +kernel
theorem d_Town_downBits_6 : decode prog_12_method_11_code 6 = .ok (.getfield 21, 3) := by decide +kernel
theorem d_Town_downBits_9 : decode prog_12_method_11_code 9 = .ok (.if_icmp .ge 23, 3) := by decide +kernel
theorem d_Town_downBits_12 : decode prog_12_method_11_code 12 = .ok (.aload_n 0, 1) := by decide +kernel
theorem d_Town_downBits_13 : decode prog_12_method_11_code 13 = .ok (.iload_n 2, 1) := by decide +kernel
theorem d_Town_downBits_14 : decode prog_12_method_11_code 14 = .ok (.invokevirtual 46, 3) := by decide +kernel
theorem d_Town_downBits_17 : decode prog_12_method_11_code 17 = .ok (.ifCond .eq 9, 3) := by decide +kernel
theorem d_Town_downBits_20 : decode prog_12_method_11_code 20 = .ok (.iload_n 1, 1) := by decide +kernel
theorem d_Town_downBits_21 : decode prog_12_method_11_code 21 = .ok (.iconst 1, 1) := by decide +kernel
theorem d_Town_downBits_22 : decode prog_12_method_11_code 22 = .ok (.iload_n 2, 1) := by decide +kernel
theorem d_Town_downBits_23 : decode prog_12_method_11_code 23 = .ok (.ishl, 1) := by decide +kernel
theorem d_Town_downBits_24 : decode prog_12_method_11_code 24 = .ok (.ior, 1) := by decide +kernel
theorem d_Town_downBits_25 : decode prog_12_method_11_code 25 = .ok (.istore_n 1, 1) := by decide +kernel
theorem d_Town_downBits_26 : decode prog_12_method_11_code 26 = .ok (.iinc 2 1, 3) := by decide +kernel
theorem d_Town_downBits_29 : decode prog_12_method_11_code 29 = .ok (.goto (-25), 3) := by decide +kernel
theorem d_Town_downBits_32 : decode prog_12_method_11_code 32 = .ok (.iload_n 1, 1) := by decide +kernel
theorem d_Town_downBits_33 : decode prog_12_method_11_code 33 = .ok (.ireturn, 1) := by decide +kernel
def p_Town_downBits_26 (Q : Int32 → AH → Prop) (K4 : Nat → Int32 → Int32 → AH → Prop) (a0 : Nat) (x1 : Int32) (x2 : Int32) (h : AH) : Prop := K4 a0 x1 (x2 + 1) h
def p_Town_downBits_4 (Q : Int32 → AH → Prop) : Nat → Nat → Int32 → Int32 → AH → Prop
  | 0 => fun _ _ _ _ => False
  | n + 1 => fun a0 x1 x2 h => let K4 := p_Town_downBits_4 Q n; vA T1 h a0 ∧ (rS T1 h a0).1 = 10 ∧ (((h.1 a0 3) ≤ x2 → Q x1 h) ∧ (¬ (h.1 a0 3) ≤ x2 → p_Town_isDown (fun r4 h3 => ((r4 = 0 → p_Town_downBits_26 Q  K4 a0 x1 x2 h3) ∧ (¬ r4 = 0 → p_Town_downBits_26 Q  K4 a0 (x1 ||| (1 <<< (x2 &&& 31))) x2 h3))) a0 x2 h))
def p_Town_downBits (Q : Int32 → AH → Prop) (a0 : Nat) (h : AH) : Prop := ∃ n, p_Town_downBits_4 Q   n a0 0 0 h
set_option maxRecDepth 20000 in
theorem r_Town_downBits_26 {G : GG} {d : Nat} {Q : Int32 → AH → Prop} {K4 : Nat → Int32 → Int32 → AH → Prop} (k4 : ∀ a0 x1 x2 h, K4 a0 x1 x2 h → Att G T1 m_Town_downBits (d + 1) 4 [some (.ref a0), some (.int x1), some (.int x2)] [] h 0 0 (iQ Q)) (a0 : Nat) (x1 : Int32) (x2 : Int32) (h : AH) (H : p_Town_downBits_26 Q K4 a0 x1 x2 h) : Att G T1 m_Town_downBits (d + 1) 26 [some (.ref a0), some (.int x1), some (.int x2)] [] h 0 0 (iQ Q) := by
  refine A_iinc 1 [some (.ref a0), some (.int x1), some (.int (x2 + 1))] d_Town_downBits_26 rfl (by decide) (by decide) rfl rfl ?_
  refine A_goto 4 d_Town_downBits_29 (by decide) ?_
  exact k4 _ _ _ _ H
set_option maxRecDepth 20000 in
theorem r_Town_downBits_4 {G : GG} {d : Nat} {Q : Int32 → AH → Prop} : ∀ (n : Nat) (a0 : Nat) (x1 : Int32) (x2 : Int32) (h : AH), p_Town_downBits_4 Q n a0 x1 x2 h → Att G T1 m_Town_downBits (d + 1) 4 [some (.ref a0), some (.int x1), some (.int x2)] [] h 0 0 (iQ Q) := by
  intro n
  induction n with
  | zero => intro a0 x1 x2 h H; exact H.elim
  | succ n k4 =>
    intro a0 x1 x2 h H
    refine A_iload_n d_Town_downBits_4 rfl ?_
    refine A_aload_n d_Town_downBits_5 rfl ?_
    obtain ⟨c1, H⟩ := H
    obtain ⟨c2, H⟩ := H
    refine A_get (v := .int (h.1 a0 3)) d_Town_downBits_6 (fo_Town_21_10 rfl) c1 c2 (by first | rfl | (show Value.int _ = Value.int _; simp [wI, wL, wR, wC, up])) ?_
    refine A_icmp_ge 32 d_Town_downBits_9 (by decide) (fun z => ?_) (fun z => ?_)
    · have H := H.1 z
      refine A_iload_n d_Town_downBits_32 rfl ?_
      exact A_iret d_Town_downBits_33 rfl rfl H
    · have H := H.2 z
      refine A_aload_n d_Town_downBits_12 rfl ?_
      refine A_iload_n d_Town_downBits_13 rfl ?_
      refine A_cI [.ref a0, .int x2] [] (ct_Town_46 rfl) d_Town_downBits_14 rfl rfl (by decide) (Nat.le_of_ble_eq_true rfl) (rcA_o (c := 10) rfl c1 c2 (by decide) rfl) (ok_Town_isDown (d := d) H) (fun r4 h3 H => ?_)
      refine A_if_eq 26 d_Town_downBits_17 (by decide) (fun z => ?_) (fun z => ?_)
      · have H := H.1 z
        exact r_Town_downBits_26  k4 _ _ _ _ H
      · have H := H.2 z
        refine A_iload_n d_Town_downBits_20 rfl ?_
        refine A_iconst 1 (by decide) d_Town_downBits_21 ?_
        refine A_iload_n d_Town_downBits_22 rfl ?_
        refine A_ishl d_Town_downBits_23 ?_
        refine A_ior d_Town_downBits_24 ?_
        refine A_istore_n [some (.ref a0), some (.int (x1 ||| (1 <<< (x2 &&& 31)))), some (.int x2)] d_Town_downBits_25 (by decide) rfl rfl ?_
        exact r_Town_downBits_26  k4 _ _ _ _ H
set_option maxRecDepth 20000 in
theorem r_Town_downBits_0 {G : GG} {d : Nat} {Q : Int32 → AH → Prop} (a0 : Nat) (h : AH) (H : p_Town_downBits Q a0 h) : Att G T1 m_Town_downBits (d + 1) 0 [some (.ref a0), none, none] [] h 0 0 (iQ Q) := by
  refine A_iconst 0 (by decide) d_Town_downBits_0 ?_
  refine A_istore_n [some (.ref a0), some (.int 0), none] d_Town_downBits_1 (by decide) rfl rfl ?_
  refine A_iconst 0 (by decide) d_Town_downBits_2 ?_
  refine A_istore_n [some (.ref a0), some (.int 0), some (.int 0)] d_Town_downBits_3 (by decide) rfl rfl ?_
  obtain ⟨n9, H⟩ := H
  exact r_Town_downBits_4   n9 _ _ _ _ H
set_option maxRecDepth 20000 in
theorem ok_Town_downBits {G : GG} {d : Nat} {Q : Int32 → AH → Prop} {a0 : Nat} {h : AH} (H : p_Town_downBits Q a0 h) : WP G T1 m_Town_downBits (d + 1) [.ref a0] h 0 0 (iQ Q) := by
  exact WP.enter 2 (by decide) rfl rfl (r_Town_downBits_0 a0 h H)
theorem d_UF_dawn_0 : decode prog_1_method_22_code 0 = .ok (.iload_n 1, 1) := by decide +kernel
theorem d_UF_dawn_1 : decode prog_1_method_22_code 1 = .ok (.iconst 0, 1) := by decide +kernel
theorem d_UF_dawn_2 : decode prog_1_method_22_code 2 = .ok (.bipush 9, 2) := by decide +kernel
theorem d_UF_dawn_4 : decode prog_1_method_22_code 4 = .ok (.invokestatic 95, 3) := by decide +kernel
theorem d_UF_dawn_7 : decode prog_1_method_22_code 7 = .ok (.ifCond .ne 6, 3) := by decide +kernel
theorem d_UF_dawn_10 : decode prog_1_method_22_code 10 = .ok (.bipush (-2), 2) := by decide +kernel
theorem d_UF_dawn_12 : decode prog_1_method_22_code 12 = .ok (.ireturn, 1) := by decide +kernel
theorem d_UF_dawn_13 : decode prog_1_method_22_code 13 = .ok (.iconst 0, 1) := by decide +kernel
theorem d_UF_dawn_14 : decode prog_1_method_22_code 14 = .ok (.istore_n 2, 1) := by decide +kernel
theorem d_UF_dawn_15 : decode prog_1_method_22_code 15 = .ok (.iconst 0, 1) := by decide +kernel
theorem d_UF_dawn_16 : decode prog_1_method_22_code 16 = .ok (.istore_n 3, 1) := by decide +kernel
theorem d_UF_dawn_17 : decode prog_1_method_22_code 17 = .ok (.iload_n 3, 1) := by decide +kernel
theorem d_UF_dawn_18 : decode prog_1_method_22_code 18 = .ok (.aload_n 0, 1) := by decide +kernel
theorem d_UF_dawn_19 : decode prog_1_method_22_code 19 = .ok (.getfield 34, 3) := by decide +kernel
theorem d_UF_dawn_22 : decode prog_1_method_22_code 22 = .ok (.getfield 80, 3) := by decide +kernel
theorem d_UF_dawn_25 : decode prog_1_method_22_code 25 = .ok (.if_icmp .ge 56, 3) := by decide +kernel
theorem d_UF_dawn_28 : decode prog_1_method_22_code 28 = .ok (.bipush 9, 2) := by decide +kernel
theorem d_UF_dawn_30 : decode prog_1_method_22_code 30 = .ok (.aload_n 0, 1) := by decide +kernel
theorem d_UF_dawn_31 : decode prog_1_method_22_code 31 = .ok (.getfield 34, 3) := by decide +kernel
theorem d_UF_dawn_34 : decode prog_1_method_22_code 34 = .ok (.getfield 121, 3) := by decide +kernel
theorem d_UF_dawn_37 : decode prog_1_method_22_code 37 = .ok (.iload_n 3, 1) := by decide +kernel
theorem d_UF_dawn_38 : decode prog_1_method_22_code 38 = .ok (.iaload, 1) := by decide +kernel
theorem d_UF_dawn_39 : decode prog_1_method_22_code 39 = .ok (.iload_n 1, 1) := by decide +kernel
theorem d_UF_dawn_40 : decode prog_1_method_22_code 40 = .ok (.iadd, 1) := by decide +kernel
theorem d_UF_dawn_41 : decode prog_1_method_22_code 41 = .ok (.invokestatic 193, 3) := by decide +kernel
theorem d_UF_dawn_44 : decode prog_1_method_22_code 44 = .ok (.aload_n 0, 1) := by decide +kernel
theorem d_UF_dawn_45 : decode prog_1_method_22_code 45 = .ok (.getfield 34, 3) := by decide +kernel
theorem d_UF_dawn_48 : decode prog_1_method_22_code 48 = .ok (.getfield 121, 3) := by decide +kernel
theorem d_UF_dawn_51 : decode prog_1_method_22_code 51 = .ok (.iload_n 3, 1) := by decide +kernel
theorem d_UF_dawn_52 : decode prog_1_method_22_code 52 = .ok (.iaload, 1) := by decide +kernel
theorem d_UF_dawn_53 : decode prog_1_method_22_code 53 = .ok (.isub, 1) := by decide +kernel
theorem d_UF_dawn_54 : decode prog_1_method_22_code 54 = .ok (.istore 4, 2) := by decide +kernel
theorem d_UF_dawn_56 : decode prog_1_method_22_code 56 = .ok (.aload_n 0, 1) := by decide +kernel
theorem d_UF_dawn_57 : decode prog_1_method_22_code 57 = .ok (.getfield 34, 3) := by decide +kernel
theorem d_UF_dawn_60 : decode prog_1_method_22_code 60 = .ok (.getfield 121, 3) := by decide +kernel
theorem d_UF_dawn_63 : decode prog_1_method_22_code 63 = .ok (.iload_n 3, 1) := by decide +kernel
theorem d_UF_dawn_64 : decode prog_1_method_22_code 64 = .ok (.dup2, 1) := by decide +kernel
theorem d_UF_dawn_65 : decode prog_1_method_22_code 65 = .ok (.iaload, 1) := by decide +kernel
theorem d_UF_dawn_66 : decode prog_1_method_22_code 66 = .ok (.iload 4, 2) := by decide +kernel
theorem d_UF_dawn_68 : decode prog_1_method_22_code 68 = .ok (.iadd, 1) := by decide +kernel
theorem d_UF_dawn_69 : decode prog_1_method_22_code 69 = .ok (.iastore, 1) := by decide +kernel
theorem d_UF_dawn_70 : decode prog_1_method_22_code 70 = .ok (.iload_n 2, 1) := by decide +kernel
theorem d_UF_dawn_71 : decode prog_1_method_22_code 71 = .ok (.iload 4, 2) := by decide +kernel
theorem d_UF_dawn_73 : decode prog_1_method_22_code 73 = .ok (.iadd, 1) := by decide +kernel
theorem d_UF_dawn_74 : decode prog_1_method_22_code 74 = .ok (.istore_n 2, 1) := by decide +kernel
theorem d_UF_dawn_75 : decode prog_1_method_22_code 75 = .ok (.iinc 3 1, 3) := by decide +kernel
theorem d_UF_dawn_78 : decode prog_1_method_22_code 78 = .ok (.goto (-61), 3) := by decide +kernel
theorem d_UF_dawn_81 : decode prog_1_method_22_code 81 = .ok (.iload_n 2, 1) := by decide +kernel
theorem d_UF_dawn_82 : decode prog_1_method_22_code 82 = .ok (.ireturn, 1) := by decide +kernel
def p_UF_dawn_17 (Q : Int32 → AH → Prop) : Nat → Int32 → Int32 → Int32 → AH → Prop
  | 0 => fun _ _ _ _ => False
  | n + 1 => fun x1 x2 x3 h => let K17 := p_UF_dawn_17 Q n; (((h.1 5 3) ≤ x3 → Q x2 h) ∧ (¬ (h.1 5 3) ≤ x3 → inb x3 7 ∧ p_Math_min (fun r3 h2 => inb x3 7 ∧ K17 x1 (x2 + (r3 - (h2.1 6 x3))) (x3 + 1) (wI h2 6 x3 ((h2.1 6 x3) + (r3 - (h2.1 6 x3))))) 9 ((h.1 6 x3) + x1) h))
def p_UF_dawn (Q : Int32 → AH → Prop) (x1 : Int32) (h : AH) : Prop := p_UF_within (fun r2 h1 => ((¬ r2 = 0 → ∃ n, p_UF_dawn_17 Q   n x1 0 0 h1) ∧ (r2 = 0 → Q (-2) h1))) x1 0 9 h
set_option maxRecDepth 20000 in
theorem r_UF_dawn_17 {G : GG} {d : Nat} {Q : Int32 → AH → Prop} : ∀ (n : Nat) (x1 : Int32) (x2 : Int32) (x3 : Int32) (h : AH), p_UF_dawn_17 Q n x1 x2 x3 h → Att G T1 m_UF_dawn (d + 1) 17 [some (.ref 0), some (.int x1), some (.int x2), some (.int x3), none] [] h 0 0 (iQ Q) := by
  intro n
  induction n with
  | zero => intro x1 x2 x3 h H; exact H.elim
  | succ n k17 =>
    intro x1 x2 x3 h H
    refine A_iload_n d_UF_dawn_17 rfl ?_
    refine A_aload_n d_UF_dawn_18 rfl ?_
    refine A_get (v := .ref 5) d_UF_dawn_19 (fo_UF_34_11 rfl) (vA_s (by decide)) rfl (by first | rfl | (show Value.int _ = Value.int _; simp [wI, wL, wR, wC, up])) ?_
    refine A_get (v := .int (h.1 5 3)) d_UF_dawn_22 (fo_UF_80_10 rfl) (vA_s (by decide)) rfl (by first | rfl | (show Value.int _ = Value.int _; simp [wI, wL, wR, wC, up])) ?_
    refine A_icmp_ge 81 d_UF_dawn_25 (by decide) (fun z => ?_) (fun z => ?_)
    · have H := H.1 z
      refine A_iload_n d_UF_dawn_81 rfl ?_
      exact A_iret d_UF_dawn_82 rfl rfl H
    · have H := H.2 z
      refine A_bipush 9 (by decide) d_UF_dawn_28 ?_
      refine A_aload_n d_UF_dawn_30 rfl ?_
      refine A_get (v := .ref 5) d_UF_dawn_31 (fo_UF_34_11 rfl) (vA_s (by decide)) rfl (by first | rfl | (show Value.int _ = Value.int _; simp [wI, wL, wR, wC, up])) ?_
      refine A_get (v := .ref 6) d_UF_dawn_34 (fo_UF_121_10 rfl) (vA_s (by decide)) rfl (by first | rfl | (show Value.int _ = Value.int _; simp [wI, wL, wR, wC, up])) ?_
      refine A_iload_n d_UF_dawn_37 rfl ?_
      obtain ⟨c1, H⟩ := H
      refine A_ialdv (n := 7) (v := (h.1 6 x3)) d_UF_dawn_38 (vA_s (by decide)) rfl c1 rfl ?_
      refine A_iload_n d_UF_dawn_39 rfl ?_
      refine A_iadd d_UF_dawn_40 ?_
      refine A_cI [.int 9, .int ((h.1 6 x3) + x1)] [] (ct_UF_193 rfl) d_UF_dawn_41 rfl rfl (by decide) (Nat.le_of_ble_eq_true rfl) trivial (ok_Math_min (d := d) H) (fun r3 h2 H => ?_)
      refine A_aload_n d_UF_dawn_44 rfl ?_
      refine A_get (v := .ref 5) d_UF_dawn_45 (fo_UF_34_11 rfl) (vA_s (by decide)) rfl (by first | rfl | (show Value.int _ = Value.int _; simp [wI, wL, wR, wC, up])) ?_
      refine A_get (v := .ref 6) d_UF_dawn_48 (fo_UF_121_10 rfl) (vA_s (by decide)) rfl (by first | rfl | (show Value.int _ = Value.int _; simp [wI, wL, wR, wC, up])) ?_
      refine A_iload_n d_UF_dawn_51 rfl ?_
      obtain ⟨c4, H⟩ := H
      refine A_ialdv (n := 7) (v := (h2.1 6 x3)) d_UF_dawn_52 (vA_s (by decide)) rfl c4 rfl ?_
      refine A_isub d_UF_dawn_53 ?_
      refine A_istore [some (.ref 0), some (.int x1), some (.int x2), some (.int x3), some (.int (r3 - (h2.1 6 x3)))] d_UF_dawn_54 (by decide) rfl rfl ?_
      refine A_aload_n d_UF_dawn_56 rfl ?_
      refine A_get (v := .ref 5) d_UF_dawn_57 (fo_UF_34_11 rfl) (vA_s (by decide)) rfl (by first | rfl | (show Value.int _ = Value.int _; simp [wI, wL, wR, wC, up])) ?_
      refine A_get (v := .ref 6) d_UF_dawn_60 (fo_UF_121_10 rfl) (vA_s (by decide)) rfl (by first | rfl | (show Value.int _ = Value.int _; simp [wI, wL, wR, wC, up])) ?_
      refine A_iload_n d_UF_dawn_63 rfl ?_
      refine A_dup2 rfl rfl d_UF_dawn_64 ?_
      refine A_ialdv (n := 7) (v := (h2.1 6 x3)) d_UF_dawn_65 (vA_s (by decide)) rfl c4 rfl ?_
      refine A_iload d_UF_dawn_66 rfl ?_
      refine A_iadd d_UF_dawn_68 ?_
      refine A_iast (n := 7) d_UF_dawn_69 (vA_s (by decide)) rfl c4 ?_
      refine A_iload_n d_UF_dawn_70 rfl ?_
      refine A_iload d_UF_dawn_71 rfl ?_
      refine A_iadd d_UF_dawn_73 ?_
      refine A_istore_n [some (.ref 0), some (.int x1), some (.int (x2 + (r3 - (h2.1 6 x3)))), some (.int x3), some (.int (r3 - (h2.1 6 x3)))] d_UF_dawn_74 (by decide) rfl rfl ?_
      refine A_iinc 1 [some (.ref 0), some (.int x1), some (.int (x2 + (r3 - (h2.1 6 x3)))), some (.int (x3 + 1)), some (.int (r3 - (h2.1 6 x3)))] d_UF_dawn_75 rfl (by decide) (by decide) rfl rfl ?_
      refine A_goto 17 d_UF_dawn_78 (by decide) ?_
      refine A_sub (L' := [some (.ref 0), some (.int x1), some (.int (x2 + (r3 - (h2.1 6 x3)))), some (.int (x3 + 1)), none]) ⟨rfl, rfl, rfl, rfl, trivial⟩ ?_
      exact k17 _ _ _ _ H
set_option maxRecDepth 20000 in
theorem r_UF_dawn_0 {G : GG} {d : Nat} {Q : Int32 → AH → Prop} (x1 : Int32) (h : AH) (H : p_UF_dawn Q x1 h) : Att G T1 m_UF_dawn (d + 1) 0 [some (.ref 0), some (.int x1), none, none, none] [] h 0 0 (iQ Q) := by
  refine A_iload_n d_UF_dawn_0 rfl ?_
  refine A_iconst 0 (by decide) d_UF_dawn_1 ?_
  refine A_bipush 9 (by decide) d_UF_dawn_2 ?_
  refine A_cI [.int x1, .int 0, .int 9] [] (ct_UF_95 rfl) d_UF_dawn_4 rfl rfl (by decide) (Nat.le_of_ble_eq_true rfl) trivial (ok_UF_within (d := d) H) (fun r2 h1 H => ?_)
  refine A_if_ne 13 d_UF_dawn_7 (by decide) (fun z => ?_) (fun z => ?_)
  · have H := H.1 z
    refine A_iconst 0 (by decide) d_UF_dawn_13 ?_
    refine A_istore_n [some (.ref 0), some (.int x1), some (.int 0), none, none] d_UF_dawn_14 (by decide) rfl rfl ?_
    refine A_iconst 0 (by decide) d_UF_dawn_15 ?_
    refine A_istore_n [some (.ref 0), some (.int x1), some (.int 0), some (.int 0), none] d_UF_dawn_16 (by decide) rfl rfl ?_
    obtain ⟨n9, H⟩ := H
    exact r_UF_dawn_17   n9 _ _ _ _ H
  · have H := H.2 z
    refine A_bipush (-2) (by decide) d_UF_dawn_10 ?_
    exact A_iret d_UF_dawn_12 rfl rfl H
set_option maxRecDepth 20000 in
theorem ok_UF_dawn {G : GG} {d : Nat} {Q : Int32 → AH → Prop} {x1 : Int32} {h : AH} (H : p_UF_dawn Q x1 h) : WP G T1 m_UF_dawn (d + 1) [.ref 0, .int x1] h 0 0 (iQ Q) := by
  exact WP.enter 3 (by decide) rfl rfl (r_UF_dawn_0 x1 h H)
theorem d_UF_isSheet_0 : decode prog_1_method_40_code 0 = .ok (.iload_n 0, 1) := by decide +kernel
theorem d_UF_isSheet_1 : decode prog_1_method_40_code 1 = .ok (.iconst 0, 1) := by decide +kernel
theorem d_UF_isSheet_2 : decode prog_1_method_40_code 2 = .ok (.iconst 3, 1) := by decide +kernel
theorem d_UF_isSheet_3 : decode prog_1_method_40_code 3 = .ok (.invokestatic 95, 3) := by decide +kernel
theorem d_UF_isSheet_6 : decode prog_1_method_40_code 6 = .ok (.ireturn, 1) := by decide +kernel
def p_UF_isSheet (Q : Int32 → AH → Prop) (x0 : Int32) (h : AH) : Prop := p_UF_within (fun r2 h1 => narrow .boolean (.int r2) = .int r2 ∧ Q r2 h1) x0 0 3 h
set_option maxRecDepth 20000 in
theorem r_UF_isSheet_0 {G : GG} {d : Nat} {Q : Int32 → AH → Prop} (x0 : Int32) (h : AH) (H : p_UF_isSheet Q x0 h) : Att G T1 m_UF_isSheet (d + 1) 0 [some (.int x0)] [] h 0 0 (iQ Q) := by
  refine A_iload_n d_UF_isSheet_0 rfl ?_
  refine A_iconst 0 (by decide) d_UF_isSheet_1 ?_
  refine A_iconst 3 (by decide) d_UF_isSheet_2 ?_
  refine A_cI [.int x0, .int 0, .int 3] [] (ct_UF_95 rfl) d_UF_isSheet_3 rfl rfl (by decide) (Nat.le_of_ble_eq_true rfl) trivial (ok_UF_within (d := d) H) (fun r2 h1 H => ?_)
  exact A_iret d_UF_isSheet_6 rfl H.1 H.2
set_option maxRecDepth 20000 in
theorem ok_UF_isSheet {G : GG} {d : Nat} {Q : Int32 → AH → Prop} {x0 : Int32} {h : AH} (H : p_UF_isSheet Q x0 h) : WP G T1 m_UF_isSheet (d + 1) [.int x0] h 0 0 (iQ Q) := by
  exact WP.enter 0 (by decide) rfl rfl (r_UF_isSheet_0 x0 h H)
theorem d_Sheet_write_0 : decode prog_10_method_4_code 0 = .ok (.aload_n 0, 1) := by decide +kernel
theorem d_Sheet_write_1 : decode prog_10_method_4_code 1 = .ok (.iload_n 1, 1) := by decide +kernel
theorem d_Sheet_write_2 : decode prog_10_method_4_code 2 = .ok (.invokevirtual 22, 3) := by decide +kernel
theorem d_Sheet_write_5 : decode prog_10_method_4_code 5 = .ok (.ifCond .ne 4, 3) := by decide +kernel
theorem d_Sheet_write_8 : decode prog_10_method_4_code 8 = .ok (.return_, 1) := by decide +kernel
theorem d_Sheet_write_9 : decode prog_10_method_4_code 9 = .ok (.aload_n 0, 1) := by decide +kernel
theorem d_Sheet_write_10 : decode prog_10_method_4_code 10 = .ok (.getfield 15, 3) := by decide +kernel
theorem d_Sheet_write_13 : decode prog_10_method_4_code 13 = .ok (.ifCond .ne 14, 3) := by decide +kernel
theorem d_Sheet_write_16 : decode prog_10_method_4_code 16 = .ok (.aload_n 0, 1) := by decide +kernel
theorem d_Sheet_write_17 : decode prog_10_method_4_code 17 = .ok (.getfield 9, 3) := by decide +kernel
theorem d_Sheet_write_20 : decode prog_10_method_4_code 20 = .ok (.iload_n 1, 1) := by decide +kernel
theorem d_Sheet_write_21 : decode prog_10_method_4_code 21 = .ok (.iload_n 2, 1) := by decide +kernel
theorem d_Sheet_write_22 : decode prog_10_method_4_code 22 = .ok (.i2b, 1) := by decide +kernel
theorem d_Sheet_write_23 : decode prog_10_method_4_code 23 = .ok (.iastore, 1) := by decide +kernel
theorem d_Sheet_write_24 : decode prog_10_method_4_code 24 = .ok (.goto 29, 3) := by decide +kernel
theorem d_Sheet_write_27 : decode prog_10_method_4_code 27 = .ok (.aload_n 0, 1) := by decide +kernel
theorem d_Sheet_write_28 : decode prog_10_method_4_code 28 = .ok (.getfield 15, 3) := by decide +kernel
theorem d_Sheet_write_31 : decode prog_10_method_4_code 31 = .ok (.iconst 1, 1) := by decide +kernel
theorem d_Sheet_write_32 : decode prog_10_method_4_code 32 = .ok (.if_icmp .ne 14, 3) := by decide +kernel
theorem d_Sheet_write_35 : decode prog_10_method_4_code 35 = .ok (.aload_n 0, 1) := by decide +kernel
theorem d_Sheet_write_36 : decode prog_10_method_4_code 36 = .ok (.getfield 9, 3) := by decide +kernel
theorem d_Sheet_write_39 : decode prog_10_method_4_code 39 = .ok (.iload_n 1, 1) := by decide +kernel
theorem d_Sheet_write_40 : decode prog_10_method_4_code 40 = .ok (.iload_n 2, 1) := by decide +kernel
theorem d_Sheet_write_41 : decode prog_10_method_4_code 41 = .ok (.i2s, 1) := by decide +kernel
theorem d_Sheet_write_42 : decode prog_10_method_4_code 42 = .ok (.iastore, 1) := by decide +kernel
theorem d_Sheet_write_43 : decode prog_10_method_4_code 43 = .ok (.goto 10, 3) := by decide +kernel
theorem d_Sheet_write_46 : decode prog_10_method_4_code 46 = .ok (.aload_n 0, 1) := by decide +kernel
theorem d_Sheet_write_47 : decode prog_10_method_4_code 47 = .ok (.getfield 9, 3) := by decide +kernel
theorem d_Sheet_write_50 : decode prog_10_method_4_code 50 = .ok (.iload_n 1, 1) := by decide +kernel
theorem d_Sheet_write_51 : decode prog_10_method_4_code 51 = .ok (.iload_n 2, 1) := by decide +kernel
theorem d_Sheet_write_52 : decode prog_10_method_4_code 52 = .ok (.iastore, 1) := by decide +kernel
theorem d_Sheet_write_53 : decode prog_10_method_4_code 53 = .ok (.return_, 1) := by decide +kernel
def p_Sheet_write (Q : AH → Prop) (a0 : Nat) (x1 : Int32) (x2 : Int32) (h : AH) : Prop := vA T1 h a0 ∧ (rS T1 h a0).1 = 8 ∧ p_Sheet_has (fun r4 h3 => ((¬ r4 = 0 → vA T1 h3 a0 ∧ (rS T1 h3 a0).1 = 8 ∧ ((¬ (h3.1 a0 1) = 0 → ((¬ (h3.1 a0 1) = 1 → 0 < rR T1 h3 a0 0 ∧ vA T1 h3 (rR T1 h3 a0 0 - 1) ∧ (rS T1 h3 (rR T1 h3 a0 0 - 1)).1 = 100 ∧ inb x1 ((rS T1 h3 (rR T1 h3 a0 0 - 1)).2) ∧ Q (wI h3 (rR T1 h3 a0 0 - 1) x1 x2)) ∧ ((h3.1 a0 1) = 1 → 0 < rR T1 h3 a0 0 ∧ vA T1 h3 (rR T1 h3 a0 0 - 1) ∧ (rS T1 h3 (rR T1 h3 a0 0 - 1)).1 = 100 ∧ inb x1 ((rS T1 h3 (rR T1 h3 a0 0 - 1)).2) ∧ Q (wI h3 (rR T1 h3 a0 0 - 1) x1 x2.toInt16.toInt32)))) ∧ ((h3.1 a0 1) = 0 → 0 < rR T1 h3 a0 0 ∧ vA T1 h3 (rR T1 h3 a0 0 - 1) ∧ (rS T1 h3 (rR T1 h3 a0 0 - 1)).1 = 100 ∧ inb x1 ((rS T1 h3 (rR T1 h3 a0 0 - 1)).2) ∧ Q (wI h3 (rR T1 h3 a0 0 - 1) x1 x2.toInt8.toInt32)))) ∧ (r4 = 0 → Q h3))) a0 x1 h
set_option maxRecDepth 20000 in
theorem r_Sheet_write_0 {G : GG} {d : Nat} {Q : AH → Prop} (a0 : Nat) (x1 : Int32) (x2 : Int32) (h : AH) (H : p_Sheet_write Q a0 x1 x2 h) : Att G T1 m_Sheet_write (d + 1) 0 [some (.ref a0), some (.int x1), some (.int x2)] [] h 0 0 (vQ Q) := by
  refine A_aload_n d_Sheet_write_0 rfl ?_
  refine A_iload_n d_Sheet_write_1 rfl ?_
  obtain ⟨c1, H⟩ := H
  obtain ⟨c2, H⟩ := H
  refine A_cI [.ref a0, .int x1] [] (ct_Sheet_22 rfl) d_Sheet_write_2 rfl rfl (by decide) (Nat.le_of_ble_eq_true rfl) (rcA_o (c := 8) rfl c1 c2 (by decide) rfl) (ok_Sheet_has (d := d) H) (fun r4 h3 H => ?_)
  refine A_if_ne 9 d_Sheet_write_5 (by decide) (fun z => ?_) (fun z => ?_)
  · have H := H.1 z
    refine A_aload_n d_Sheet_write_9 rfl ?_
    obtain ⟨c5, H⟩ := H
    obtain ⟨c6, H⟩ := H
    refine A_get (v := .int (h3.1 a0 1)) d_Sheet_write_10 (fo_Sheet_15_8 rfl) c5 c6 (by first | rfl | (show Value.int _ = Value.int _; simp [wI, wL, wR, wC, up])) ?_
    refine A_if_ne 27 d_Sheet_write_13 (by decide) (fun z => ?_) (fun z => ?_)
    · have H := H.1 z
      refine A_aload_n d_Sheet_write_27 rfl ?_
      refine A_get (v := .int (h3.1 a0 1)) d_Sheet_write_28 (fo_Sheet_15_8 rfl) c5 c6 (by first | rfl | (show Value.int _ = Value.int _; simp [wI, wL, wR, wC, up])) ?_
      refine A_iconst 1 (by decide) d_Sheet_write_31 ?_
      refine A_icmp_ne 46 d_Sheet_write_32 (by decide) (fun z => ?_) (fun z => ?_)
      · have H := H.1 z
        refine A_aload_n d_Sheet_write_46 rfl ?_
        obtain ⟨c7, H⟩ := H
        refine A_get (v := .ref (rR T1 h3 a0 0 - 1)) d_Sheet_write_47 (fo_Sheet_9_8 rfl) c5 c6 (vR_pos c7) ?_
        refine A_iload_n d_Sheet_write_50 rfl ?_
        refine A_iload_n d_Sheet_write_51 rfl ?_
        obtain ⟨c8, H⟩ := H
        obtain ⟨c9, H⟩ := H
        obtain ⟨c10, H⟩ := H
        refine A_iast (n := _) d_Sheet_write_52 c8 (rS_ex c9) c10 ?_
        exact A_ret d_Sheet_write_53 rfl H
      · have H := H.2 z
        refine A_aload_n d_Sheet_write_35 rfl ?_
        obtain ⟨c11, H⟩ := H
        refine A_get (v := .ref (rR T1 h3 a0 0 - 1)) d_Sheet_write_36 (fo_Sheet_9_8 rfl) c5 c6 (vR_pos c11) ?_
        refine A_iload_n d_Sheet_write_39 rfl ?_
        refine A_iload_n d_Sheet_write_40 rfl ?_
        refine A_i2s d_Sheet_write_41 ?_
        obtain ⟨c12, H⟩ := H
        obtain ⟨c13, H⟩ := H
        obtain ⟨c14, H⟩ := H
        refine A_iast (n := _) d_Sheet_write_42 c12 (rS_ex c13) c14 ?_
        refine A_goto 53 d_Sheet_write_43 (by decide) ?_
        exact A_ret d_Sheet_write_53 rfl H
    · have H := H.2 z
      refine A_aload_n d_Sheet_write_16 rfl ?_
      obtain ⟨c15, H⟩ := H
      refine A_get (v := .ref (rR T1 h3 a0 0 - 1)) d_Sheet_write_17 (fo_Sheet_9_8 rfl) c5 c6 (vR_pos c15) ?_
      refine A_iload_n d_Sheet_write_20 rfl ?_
      refine A_iload_n d_Sheet_write_21 rfl ?_
      refine A_i2b d_Sheet_write_22 ?_
      obtain ⟨c16, H⟩ := H
      obtain ⟨c17, H⟩ := H
      obtain ⟨c18, H⟩ := H
      refine A_iast (n := _) d_Sheet_write_23 c16 (rS_ex c17) c18 ?_
      refine A_goto 53 d_Sheet_write_24 (by decide) ?_
      exact A_ret d_Sheet_write_53 rfl H
  · have H := H.2 z
    exact A_ret d_Sheet_write_8 rfl H
set_option maxRecDepth 20000 in
theorem ok_Sheet_write {G : GG} {d : Nat} {Q : AH → Prop} {a0 : Nat} {x1 : Int32} {x2 : Int32} {h : AH} (H : p_Sheet_write Q a0 x1 x2 h) : WP G T1 m_Sheet_write (d + 1) [.ref a0, .int x1, .int x2] h 0 0 (vQ Q) := by
  exact WP.enter 0 (by decide) rfl rfl (r_Sheet_write_0 a0 x1 x2 h H)
theorem d_MO_next_0 : decode prog_14_method_13_code 0 = .ok (.aload_n 0, 1) := by decide +kernel
theorem d_MO_next_1 : decode prog_14_method_13_code 1 = .ok (.getfield 116, 3) := by decide +kernel
theorem d_MO_next_4 : decode prog_14_method_13_code 4 = .ok (.aload_n 0, 1) := by decide +kernel
theorem d_MO_next_5 : decode prog_14_method_13_code 5 = .ok (.getfield 82, 3) := by decide +kernel
theorem d_MO_next_8 : decode prog_14_method_13_code 8 = .ok (.if_icmp .ge 44, 3) := by decide +kernel
theorem d_MO_next_11 : decode prog_14_method_13_code 11 = .ok (.aload_n 0, 1) := by decide +kernel
theorem d_MO_next_12 : decode prog_14_method_13_code 12 = .ok (.getfield 28, 3) := by decide +kernel
theorem d_MO_next_15 : decode prog_14_method_13_code 15 = .ok (.aload_n 0, 1) := by decide +kernel
theorem d_MO_next_16 : decode prog_14_method_13_code 16 = .ok (.getfield 116, 3) := by decide +kernel
theorem d_MO_next_19 : decode prog_14_method_13_code 19 = .ok (.iaload, 1) := by decide +kernel
theorem d_MO_next_20 : decode prog_14_method_13_code 20 = .ok (.bipush 32, 2) := by decide +kernel
theorem d_MO_next_22 : decode prog_14_method_13_code 22 = .ok (.if_icmp .eq 17, 3) := by decide +kernel
theorem d_MO_next_25 : decode prog_14_method_13_code 25 = .ok (.aload_n 0, 1) := by decide +kernel
theorem d_MO_next_26 : decode prog_14_method_13_code 26 = .ok (.getfield 28, 3) := by decide +kernel
theorem d_MO_next_29 : decode prog_14_method_13_code 29 = .ok (.aload_n 0, 1) := by decide +kernel
theorem d_MO_next_30 : decode prog_14_method_13_code 30 = .ok (.getfield 116, 3) := by decide +kernel
theorem d_MO_next_33 : decode prog_14_method_13_code 33 = .ok (.iaload, 1) := by decide +kernel
theorem d_MO_next_34 : decode prog_14_method_13_code 34 = .ok (.bipush 10, 2) := by decide +kernel
theorem d_MO_next_36 : decode prog_14_method_13_code 36 = .ok (.if_icmp .ne 16, 3) := by decide +kernel
theorem d_MO_next_39 : decode prog_14_method_13_code 39 = .ok (.aload_n 0, 1) := by decide +kernel
theorem d_MO_next_40 : decode prog_14_method_13_code 40 = .ok (.dup, 1) := by decide +kernel
theorem d_MO_next_41 : decode prog_14_method_13_code 41 = .ok (.getfield 116, 3) := by decide +kernel
theorem d_MO_next_44 : decode prog_14_method_13_code 44 = .ok (.iconst 1, 1) := by decide +kernel
theorem d_MO_next_45 : decode prog_14_method_13_code 45 = .ok (.iadd, 1) := by decide +kernel
theorem d_MO_next_46 : decode prog_14_method_13_code 46 = .ok (.putfield 116, 3) := by decide +kernel
theorem d_MO_next_49 : decode prog_14_method_13_code 49 = .ok (.goto (-49), 3) := by decide +kernel
theorem d_MO_next_52 : decode prog_14_method_13_code 52 = .ok (.aload_n 0, 1) := by decide +kernel
theorem d_MO_next_53 : decode prog_14_method_13_code 53 = .ok (.aload_n 0, 1) := by decide +kernel
theorem d_MO_next_54 : decode prog_14_method_13_code 54 = .ok (.getfield 116, 3) := by decide +kernel
theorem d_MO_next_57 : decode prog_14_method_13_code 57 = .ok (.putfield 119, 3) := by decide +kernel
theorem d_MO_next_60 : decode prog_14_method_13_code 60 = .ok (.aload_n 0, 1) := by decide +kernel
theorem d_MO_next_61 : decode prog_14_method_13_code 61 = .ok (.iconst 0, 1) := by decide +kernel
theorem d_MO_next_62 : decode prog_14_method_13_code 62 = .ok (.putfield 122, 3) := by decide +kernel
theorem d_MO_next_65 : decode prog_14_method_13_code 65 = .ok (.aload_n 0, 1) := by decide +kernel
theorem d_MO_next_66 : decode prog_14_method_13_code 66 = .ok (.iconst 0, 1) := by decide +kernel
theorem d_MO_next_67 : decode prog_14_method_13_code 67 = .ok (.putfield 125, 3) := by decide +kernel
theorem d_MO_next_70 : decode prog_14_method_13_code 70 = .ok (.aload_n 0, 1) := by decide +kernel
theorem d_MO_next_71 : decode prog_14_method_13_code 71 = .ok (.getfield 116, 3) := by decide +kernel
theorem d_MO_next_74 : decode prog_14_method_13_code 74 = .ok (.aload_n 0, 1) := by decide +kernel
theorem d_MO_next_75 : decode prog_14_method_13_code 75 = .ok (.getfield 82, 3) := by decide +kernel
theorem d_MO_next_78 : decode prog_14_method_13_code 78 = .ok (.if_icmp .ne 4, 3) := by decide +kernel
theorem d_MO_next_81 : decode prog_14_method_13_code 81 = .ok (.return_, 1) := by decide +kernel
theorem d_MO_next_82 : decode prog_14_method_13_code 82 = .ok (.aload_n 0, 1) := by decide +kernel
theorem d_MO_next_83 : decode prog_14_method_13_code 83 = .ok (.getfield 28, 3) := by decide +kernel
theorem d_MO_next_86 : decode prog_14_method_13_code 86 = .ok (.aload_n 0, 1) := by decide +kernel
theorem d_MO_next_87 : decode prog_14_method_13_code 87 = .ok (.getfield 116, 3) := by decide +kernel
theorem d_MO_next_90 : decode prog_14_method_13_code 90 = .ok (.iaload, 1) := by decide +kernel
theorem d_MO_next_91 : decode prog_14_method_13_code 91 = .ok (.istore_n 1, 1) := by decide +kernel
theorem d_MO_next_92 : decode prog_14_method_13_code 92 = .ok (.iload_n 1, 1) := by decide +kernel
theorem d_MO_next_93 : decode prog_14_method_13_code 93 = .ok (.bipush 97, 2) := by decide +kernel
theorem d_MO_next_95 : decode prog_14_method_13_code 95 = .ok (.bipush 122, 2) := by decide +kernel
theorem d_MO_next_97 : decode prog_14_method_13_code 97 = .ok (.invokestatic 93, 3) := by decide +kernel
theorem d_MO_next_100 : decode prog_14_method_13_code 100 = .ok (.ifCond .eq 117, 3) := by decide +kernel
theorem d_MO_next_103 : decode prog_14_method_13_code 103 = .ok (.aload_n 0, 1) := by decide +kernel
theorem d_MO_next_104 : decode prog_14_method_13_code 104 = .ok (.getfield 116, 3) := by decide +kernel
theorem d_MO_next_107 : decode prog_14_method_13_code 107 = .ok (.aload_n 0, 1) := by decide +kernel
theorem d_MO_next_108 : decode prog_14_method_13_code 108 = .ok (.getfield 82, 3) := by decide +kernel
theorem d_MO_next_111 : decode prog_14_method_13_code 111 = .ok (.if_icmp .ge 35, 3) := by decide +kernel
theorem d_MO_next_114 : decode prog_14_method_13_code 114 = .ok (.aload_n 0, 1) := by decide +kernel
theorem d_MO_next_115 : decode prog_14_method_13_code 115 = .ok (.getfield 28, 3) := by decide +kernel
theorem d_MO_next_118 : decode prog_14_method_13_code 118 = .ok (.aload_n 0, 1) := by decide +kernel
theorem d_MO_next_119 : decode prog_14_method_13_code 119 = .ok (.getfield 116, 3) := by decide +kernel
theorem d_MO_next_122 : decode prog_14_method_13_code 122 = .ok (.iaload, 1) := by decide +kernel
theorem d_MO_next_123 : decode prog_14_method_13_code 123 = .ok (.bipush 97, 2) := by decide +kernel
theorem d_MO_next_125 : decode prog_14_method_13_code 125 = .ok (.bipush 122, 2) := by decide +kernel
theorem d_MO_next_127 : decode prog_14_method_13_code 127 = .ok (.invokestatic 93, 3) := by decide +kernel
theorem d_MO_next_130 : decode prog_14_method_13_code 130 = .ok (.ifCond .eq 16, 3) := by decide +kernel
theorem d_MO_next_133 : decode prog_14_method_13_code 133 = .ok (.aload_n 0, 1) := by decide +kernel
theorem d_MO_next_134 : decode prog_14_method_13_code 134 = .ok (.dup, 1) := by decide +kernel
theorem d_MO_next_135 : decode prog_14_method_13_code 135 = .ok (.getfield 116, 3) := by decide +kernel
theorem d_MO_next_138 : decode prog_14_method_13_code 138 = .ok (.iconst 1, 1) := by decide +kernel
theorem d_MO_next_139 : decode prog_14_method_13_code 139 = .ok (.iadd, 1) := by decide +kernel
theorem d_MO_next_140 : decode prog_14_method_13_code 140 = .ok (.putfield 116, 3) := by decide +kernel
theorem d_MO_next_143 : decode prog_14_method_13_code 143 = .ok (.goto (-40), 3) := by decide +kernel
theorem d_MO_next_146 : decode prog_14_method_13_code 146 = .ok (.aload_n 0, 1) := by decide +kernel
theorem d_MO_next_147 : decode prog_14_method_13_code 147 = .ok (.aload_n 0, 1) := by decide +kernel
theorem d_MO_next_148 : decode prog_14_method_13_code 148 = .ok (.getfield 119, 3) := by decide +kernel
theorem d_MO_next_151 : decode prog_14_method_13_code 151 = .ok (.aload_n 0, 1) := by decide +kernel
theorem d_MO_next_152 : decode prog_14_method_13_code 152 = .ok (.getfield 116, 3) := by decide +kernel
theorem d_MO_next_155 : decode prog_14_method_13_code 155 = .ok (.invokevirtual 128, 3) := by decide +kernel
theorem d_MO_next_158 : decode prog_14_method_13_code 158 = .ok (.istore_n 2, 1) := by decide +kernel
theorem d_MO_next_159 : decode prog_14_method_13_code 159 = .ok (.aload_n 0, 1) := by decide +kernel
theorem d_MO_next_160 : decode prog_14_method_13_code 160 = .ok (.iload_n 2, 1) := by decide +kernel
theorem d_MO_next_161 : decode prog_14_method_13_code 161 = .ok (.iconst 3, 1) := by decide +kernel
theorem d_MO_next_162 : decode prog_14_method_13_code 162 = .ok (.if_icmp .ge 7, 3) := by decide +kernel
theorem d_MO_next_165 : decode prog_14_method_13_code 165 = .ok (.iconst 3, 1) := by decide +kernel
theorem d_MO_next_166 : decode prog_14_method_13_code 166 = .ok (.goto 29, 3) := by decide +kernel
theorem d_MO_next_169 : decode prog_14_method_13_code 169 = .ok (.iload_n 2, 1) := by decide +kernel
theorem d_MO_next_170 : decode prog_14_method_13_code 170 = .ok (.bipush 9, 2) := by decide +kernel
theorem d_MO_next_172 : decode prog_14_method_13_code 172 = .ok (.if_icmp .ge 7, 3) := by decide +kernel
theorem d_MO_next_175 : decode prog_14_method_13_code 175 = .ok (.iconst 2, 1) := by decide +kernel
theorem d_MO_next_176 : decode prog_14_method_13_code 176 = .ok (.goto 19, 3) := by decide +kernel
theorem d_MO_next_179 : decode prog_14_method_13_code 179 = .ok (.iload_n 2, 1) := by decide +kernel
theorem d_MO_next_180 : decode prog_14_method_13_code 180 = .ok (.bipush 12, 2) := by decide +kernel
theorem d_MO_next_182 : decode prog_14_method_13_code 182 = .ok (.if_icmp .ne 7, 3) := by decide +kernel
theorem d_MO_next_185 : decode prog_14_method_13_code 185 = .ok (.iconst (-1), 1) := by decide +kernel
theorem d_MO_next_186 : decode prog_14_method_13_code 186 = .ok (.goto 9, 3) := by decide +kernel
theorem d_MO_next_189 : decode prog_14_method_13_code 189 = .ok (.iconst 4, 1) := by decide +kernel
theorem d_MO_next_190 : decode prog_14_method_13_code 190 = .ok (.iload_n 2, 1) := by decide +kernel
theorem d_MO_next_191 : decode prog_14_method_13_code 191 = .ok (.iadd, 1) := by decide +kernel
theorem d_MO_next_192 : decode prog_14_method_13_code 192 = .ok (.bipush 9, 2) := by decide +kernel
theorem d_MO_next_194 : decode prog_14_method_13_code 194 = .ok (.isub, 1) := by decide +kernel
theorem d_MO_next_195 : decode prog_14_method_13_code 195 = .ok (.putfield 122, 3) := by decide +kernel
theorem d_MO_next_198 : decode prog_14_method_13_code 198 = .ok (.aload_n 0, 1) := by decide +kernel
theorem d_MO_next_199 : decode prog_14_method_13_code 199 = .ok (.iload_n 2, 1) := by decide +kernel
theorem d_MO_next_200 : decode prog_14_method_13_code 200 = .ok (.iconst 3, 1) := by decide +kernel
theorem d_MO_next_201 : decode prog_14_method_13_code 201 = .ok (.if_icmp .ge 7, 3) := by decide +kernel
theorem d_MO_next_204 : decode prog_14_method_13_code 204 = .ok (.iload_n 2, 1) := by decide +kernel
theorem d_MO_next_205 : decode prog_14_method_13_code 205 = .ok (.goto 6, 3) := by decide +kernel
theorem d_MO_next_208 : decode prog_14_method_13_code 208 = .ok (.iload_n 2, 1) := by decide +kernel
theorem d_MO_next_209 : decode prog_14_method_13_code 209 = .ok (.iconst 3, 1) := by decide +kernel
theorem d_MO_next_210 : decode prog_14_method_13_code 210 = .ok (.isub, 1) := by decide +kernel
theorem d_MO_next_211 : decode prog_14_method_13_code 211 = .ok (.putfield 125, 3) := by decide +kernel
theorem d_MO_next_214 : decode prog_14_method_13_code 214 = .ok (.goto 189, 3) := by decide +kernel
theorem d_MO_next_217 : decode prog_14_method_13_code 217 = .ok (.iload_n 1, 1) := by decide +kernel
theorem d_MO_next_218 : decode prog_14_method_13_code 218 = .ok (.bipush 48, 2) := by decide +kernel
theorem d_MO_next_220 : decode prog_14_method_13_code 220 = .ok (.bipush 57, 2) := by decide +kernel
theorem d_MO_next_222 : decode prog_14_method_13_code 222 = .ok (.invokestatic 93, 3) := by decide +kernel
theorem d_MO_next_225 : decode prog_14_method_13_code 225 = .ok (.ifCond .eq 101, 3) := by decide +kernel
theorem d_MO_next_228 : decode prog_14_method_13_code 228 = .ok (.iconst 0, 1) := by decide +kernel
theorem d_MO_next_229 : decode prog_14_method_13_code 229 = .ok (.istore_n 2, 1) := by decide +kernel
theorem d_MO_next_230 : decode prog_14_method_13_code 230 = .ok (.aload_n 0, 1) := by decide +kernel
theorem d_MO_next_231 : decode prog_14_method_13_code 231 = .ok (.getfield 116, 3) := by decide +kernel
theorem d_MO_next_234 : decode prog_14_method_13_code 234 = .ok (.aload_n 0, 1) := by decide +kernel
theorem d_MO_next_235 : decode prog_14_method_13_code 235 = .ok (.getfield 82, 3) := by decide +kernel
theorem d_MO_next_238 : decode prog_14_method_13_code 238 = .ok (.if_icmp .ge 71, 3) := by decide +kernel
theorem d_MO_next_241 : decode prog_14_method_13_code 241 = .ok (.aload_n 0, 1) := by decide +kernel
theorem d_MO_next_242 : decode prog_14_method_13_code 242 = .ok (.getfield 28, 3) := by decide +kernel
theorem d_MO_next_245 : decode prog_14_method_13_code 245 = .ok (.aload_n 0, 1) := by decide +kernel
theorem d_MO_next_246 : decode prog_14_method_13_code 246 = .ok (.getfield 116, 3) := by decide +kernel
theorem d_MO_next_249 : decode prog_14_method_13_code 249 = .ok (.iaload, 1) := by decide +kernel
theorem d_MO_next_250 : decode prog_14_method_13_code 250 = .ok (.bipush 48, 2) := by decide +kernel
theorem d_MO_next_252 : decode prog_14_method_13_code 252 = .ok (.bipush 57, 2) := by decide +kernel
theorem d_MO_next_254 : decode prog_14_method_13_code 254 = .ok (.invokestatic 93, 3) := by decide +kernel
theorem d_MO_next_257 : decode prog_14_method_13_code 257 = .ok (.ifCond .eq 52, 3) := by decide +kernel
theorem d_MO_next_260 : decode prog_14_method_13_code 260 = .ok (.aload_n 0, 1) := by decide +kernel
theorem d_MO_next_261 : decode prog_14_method_13_code 261 = .ok (.iload_n 2, 1) := by decide +kernel
theorem d_MO_next_262 : decode prog_14_method_13_code 262 = .ok (.iconst 4, 1) := by decide +kernel
theorem d_MO_next_263 : decode prog_14_method_13_code 263 = .ok (.if_icmp .ge 26, 3) := by decide +kernel
theorem d_MO_next_266 : decode prog_14_method_13_code 266 = .ok (.bipush 10, 2) := by decide +kernel
theorem d_MO_next_268 : decode prog_14_method_13_code 268 = .ok (.aload_n 0, 1) := by decide +kernel
theorem d_MO_next_269 : decode prog_14_method_13_code 269 = .ok (.getfield 125, 3) := by decide +kernel
theorem d_MO_next_272 : decode prog_14_method_13_code 272 = .ok (.imul, 1) := by decide +kernel
theorem d_MO_next_273 : decode prog_14_method_13_code 273 = .ok (.aload_n 0, 1) := by decide +kernel
theorem d_MO_next_274 : decode prog_14_method_13_code 274 = .ok (.getfield 28, 3) := by decide +kernel
theorem d_MO_next_277 : decode prog_14_method_13_code 277 = .ok (.aload_n 0, 1) := by decide +kernel
theorem d_MO_next_278 : decode prog_14_method_13_code 278 = .ok (.getfield 116, 3) := by decide +kernel
theorem d_MO_next_281 : decode prog_14_method_13_code 281 = .ok (.iaload, 1) := by decide +kernel
theorem d_MO_next_282 : decode prog_14_method_13_code 282 = .ok (.iadd, 1) := by decide +kernel
theorem d_MO_next_283 : decode prog_14_method_13_code 283 = .ok (.bipush 48, 2) := by decide +kernel
theorem d_MO_next_285 : decode prog_14_method_13_code 285 = .ok (.isub, 1) := by decide +kernel
theorem d_MO_next_286 : decode prog_14_method_13_code 286 = .ok (.goto 4, 3) := by decide +kernel
theorem d_MO_next_289 : decode prog_14_method_13_code 289 = .ok (.iconst 0, 1) := by decide +kernel
theorem d_MO_next_290 : decode prog_14_method_13_code 290 = .ok (.putfield 125, 3) := by decide +kernel
theorem d_MO_next_293 : decode prog_14_method_13_code 293 = .ok (.iinc 2 1, 3) := by decide +kernel
theorem d_MO_next_296 : decode prog_14_method_13_code 296 = .ok (.aload_n 0, 1) := by decide +kernel
theorem d_MO_next_297 : decode prog_14_method_13_code 297 = .ok (.dup, 1) := by decide +kernel
theorem d_MO_next_298 : decode prog_14_method_13_code 298 = .ok (.getfield 116, 3) := by decide +kernel
theorem d_MO_next_301 : decode prog_14_method_13_code 301 = .ok (.iconst 1, 1) := by decide +kernel
theorem d_MO_next_302 : decode prog_14_method_13_code 302 = .ok (.iadd, 1) := by decide +kernel
theorem d_MO_next_303 : decode prog_14_method_13_code 303 = .ok (.putfield 116, 3) := by decide +kernel
theorem d_MO_next_306 : decode prog_14_method_13_code 306 = .ok (.goto (-76), 3) := by decide +kernel
theorem d_MO_next_309 : decode prog_14_method_13_code 309 = .ok (.aload_n 0, 1) := by decide +kernel
theorem d_MO_next_310 : decode prog_14_method_13_code 310 = .ok (.iload_n 2, 1) := by decide +kernel
theorem d_MO_next_311 : decode prog_14_method_13_code 311 = .ok (.iconst 4, 1) := by decide +kernel
theorem d_MO_next_312 : decode prog_14_method_13_code 312 = .ok (.if_icmp .le 7, 3) := by decide +kernel
theorem d_MO_next_315 : decode prog_14_method_13_code 315 = .ok (.iconst (-1), 1) := by decide +kernel
theorem d_MO_next_316 : decode prog_14_method_13_code 316 = .ok (.goto 4, 3) := by decide +kernel
theorem d_MO_next_319 : decode prog_14_method_13_code 319 = .ok (.iconst 1, 1) := by decide +kernel
theorem d_MO_next_320 : decode prog_14_method_13_code 320 = .ok (.putfield 122, 3) := by decide +kernel
theorem d_MO_next_323 : decode prog_14_method_13_code 323 = .ok (.goto 80, 3) := by decide +kernel
theorem d_MO_next_326 : decode prog_14_method_13_code 326 = .ok (.iload_n 1, 1) := by decide +kernel
theorem d_MO_next_327 : decode prog_14_method_13_code 327 = .ok (.bipush 40, 2) := by decide +kernel
theorem d_MO_next_329 : decode prog_14_method_13_code 329 = .ok (.if_icmp .eq 45, 3) := by decide +kernel
theorem d_MO_next_332 : decode prog_14_method_13_code 332 = .ok (.iload_n 1, 1) := by decide +kernel
theorem d_MO_next_333 : decode prog_14_method_13_code 333 = .ok (.bipush 41, 2) := by decide +kernel
theorem d_MO_next_335 : decode prog_14_method_13_code 335 = .ok (.if_icmp .eq 39, 3) := by decide +kernel
theorem d_MO_next_338 : decode prog_14_method_13_code 338 = .ok (.iload_n 1, 1) := by decide +kernel
theorem d_MO_next_339 : decode prog_14_method_13_code 339 = .ok (.bipush 59, 2) := by decide +kernel
theorem d_MO_next_341 : decode prog_14_method_13_code 341 = .ok (.if_icmp .eq 33, 3) := by decide +kernel
theorem d_MO_next_344 : decode prog_14_method_13_code 344 = .ok (.iload_n 1, 1) := by decide +kernel
theorem d_MO_next_345 : decode prog_14_method_13_code 345 = .ok (.bipush 43, 2) := by decide +kernel
theorem d_MO_next_347 : decode prog_14_method_13_code 347 = .ok (.if_icmp .eq 27, 3) := by decide +kernel
theorem d_MO_next_350 : decode prog_14_method_13_code 350 = .ok (.iload_n 1, 1) := by decide +kernel
theorem d_MO_next_351 : decode prog_14_method_13_code 351 = .ok (.bipush 45, 2) := by decide +kernel
theorem d_MO_next_353 : decode prog_14_method_13_code 353 = .ok (.if_icmp .eq 21, 3) := by decide +kernel
theorem d_MO_next_356 : decode prog_14_method_13_code 356 = .ok (.iload_n 1, 1) := by decide +kernel
theorem d_MO_next_357 : decode prog_14_method_13_code 357 = .ok (.bipush 42, 2) := by decide +kernel
theorem d_MO_next_359 : decode prog_14_method_13_code 359 = .ok (.if_icmp .eq 15, 3) := by decide +kernel
theorem d_MO_next_362 : decode prog_14_method_13_code 362 = .ok (.iload_n 1, 1) := by decide +kernel
theorem d_MO_next_363 : decode prog_14_method_13_code 363 = .ok (.bipush 60, 2) := by decide +kernel
theorem d_MO_next_365 : decode prog_14_method_13_code 365 = .ok (.if_icmp .eq 9, 3) := by decide +kernel
theorem d_MO_next_368 : decode prog_14_method_13_code 368 = .ok (.iload_n 1, 1) := by decide +kernel
theorem d_MO_next_369 : decode prog_14_method_13_code 369 = .ok (.bipush 61, 2) := by decide +kernel
theorem d_MO_next_371 : decode prog_14_method_13_code 371 = .ok (.if_icmp .ne 7, 3) := by decide +kernel
theorem d_MO_next_374 : decode prog_14_method_13_code 374 = .ok (.iconst 1, 1) := by decide +kernel
theorem d_MO_next_375 : decode prog_14_method_13_code 375 = .ok (.goto 4, 3) := by decide +kernel
theorem d_MO_next_378 : decode prog_14_method_13_code 378 = .ok (.iconst 0, 1) := by decide +kernel
theorem d_MO_next_379 : decode prog_14_method_13_code 379 = .ok (.istore_n 2, 1) := by decide +kernel
theorem d_MO_next_380 : decode prog_14_method_13_code 380 = .ok (.aload_n 0, 1) := by decide +kernel
theorem d_MO_next_381 : decode prog_14_method_13_code 381 = .ok (.iload_n 2, 1) := by decide +kernel
theorem d_MO_next_382 : decode prog_14_method_13_code 382 = .ok (.ifCond .eq 7, 3) := by decide +kernel
theorem d_MO_next_385 : decode prog_14_method_13_code 385 = .ok (.iload_n 1, 1) := by decide +kernel
theorem d_MO_next_386 : decode prog_14_method_13_code 386 = .ok (.goto 4, 3) := by decide +kernel
theorem d_MO_next_389 : decode prog_14_method_13_code 389 = .ok (.iconst (-1), 1) := by decide +kernel
theorem d_MO_next_390 : decode prog_14_method_13_code 390 = .ok (.putfield 122, 3) := by decide +kernel
theorem d_MO_next_393 : decode prog_14_method_13_code 393 = .ok (.aload_n 0, 1) := by decide +kernel
theorem d_MO_next_394 : decode prog_14_method_13_code 394 = .ok (.dup, 1) := by decide +kernel
theorem d_MO_next_395 : decode prog_14_method_13_code 395 = .ok (.getfield 116, 3) := by decide +kernel
theorem d_MO_next_398 : decode prog_14_method_13_code 398 = .ok (.iconst 1, 1) := by decide +kernel
theorem d_MO_next_399 : decode prog_14_method_13_code 399 = .ok (.iadd, 1) := by decide +kernel
theorem d_MO_next_400 : decode prog_14_method_13_code 400 = .ok (.putfield 116, 3) := by decide +kernel
theorem d_MO_next_403 : decode prog_14_method_13_code 403 = .ok (.return_, 1) := by decide +kernel
def p_MO_next_379 (Q : AH → Prop) (x1 : Int32) (s0 : Int32) (h : AH) : Prop := ((s0 = 0 → Q (wI (wI h 59 23 (-1)) 59 21 ((h.1 59 21) + 1))) ∧ (¬ s0 = 0 → Q (wI (wI h 59 23 x1) 59 21 ((h.1 59 21) + 1))))
def p_MO_next_374 (Q : AH → Prop) (x1 : Int32) (h : AH) : Prop := p_MO_next_379 Q   x1 1 h
def p_MO_next_309 (Q : AH → Prop) (x2 : Int32) (h : AH) : Prop := ((x2 ≤ 4 → Q (wI h 59 23 1)) ∧ (¬ x2 ≤ 4 → Q (wI h 59 23 (-1))))
def p_MO_next_290 (Q : AH → Prop) (K230 : Int32 → AH → Prop) (x2 : Int32) (s1 : Int32) (h : AH) : Prop := K230 (x2 + 1) (wI (wI h 59 24 s1) 59 21 ((h.1 59 21) + 1))
def p_MO_next_230 (Q : AH → Prop) : Nat → Int32 → AH → Prop
  | 0 => fun _ _ => False
  | n + 1 => fun x2 h => let K230 := p_MO_next_230 Q n; (((h.1 59 8) ≤ (h.1 59 21) → p_MO_next_309 Q   x2 h) ∧ (¬ (h.1 59 8) ≤ (h.1 59 21) → inb (h.1 59 21) 160 ∧ p_MO_in (fun r3 h2 => ((r3 = 0 → p_MO_next_309 Q   x2 h2) ∧ (¬ r3 = 0 → ((4 ≤ x2 → p_MO_next_290 Q  K230 x2 0 h2) ∧ (¬ 4 ≤ x2 → inb (h2.1 59 21) 160 ∧ p_MO_next_290 Q  K230 x2 (((10 * (h2.1 59 24)) + (h2.1 66 (h2.1 59 21))) - 48) h2))))) (h.1 66 (h.1 59 21)) 48 57 h))
def p_MO_next_195 (Q : AH → Prop) (x2 : Int32) (s1 : Int32) (h : AH) : Prop := ((3 ≤ x2 → Q (wI (wI h 59 23 s1) 59 24 (x2 - 3))) ∧ (¬ 3 ≤ x2 → Q (wI (wI h 59 23 s1) 59 24 x2)))
def p_MO_next_146 (Q : AH → Prop) (h : AH) : Prop := p_MO_wordFrom (fun r2 h1 => ((3 ≤ r2 → ((9 ≤ r2 → ((¬ r2 = 12 → p_MO_next_195 Q   r2 ((4 + r2) - 9) h1) ∧ (r2 = 12 → p_MO_next_195 Q   r2 (-1) h1))) ∧ (¬ 9 ≤ r2 → p_MO_next_195 Q   r2 2 h1))) ∧ (¬ 3 ≤ r2 → p_MO_next_195 Q   r2 3 h1))) (h.1 59 22) (h.1 59 21) h
def p_MO_next_103 (Q : AH → Prop) : Nat → AH → Prop
  | 0 => fun  _ => False
  | n + 1 => fun h => let K103 := p_MO_next_103 Q n; (((h.1 59 8) ≤ (h.1 59 21) → p_MO_next_146 Q   h) ∧ (¬ (h.1 59 8) ≤ (h.1 59 21) → inb (h.1 59 21) 160 ∧ p_MO_in (fun r3 h2 => ((r3 = 0 → p_MO_next_146 Q   h2) ∧ (¬ r3 = 0 → K103 (wI h2 59 21 ((h2.1 59 21) + 1))))) (h.1 66 (h.1 59 21)) 97 122 h))
def p_MO_next_52 (Q : AH → Prop) (h : AH) : Prop := ((¬ (h.1 59 21) = (h.1 59 8) → inb (h.1 59 21) 160 ∧ p_MO_in (fun r3 h2 => ((r3 = 0 → p_MO_in (fun r5 h4 => ((r5 = 0 → (((h.1 66 (h.1 59 21)) = 40 → p_MO_next_374 Q   (h.1 66 (h.1 59 21)) h4) ∧ (¬ (h.1 66 (h.1 59 21)) = 40 → (((h.1 66 (h.1 59 21)) = 41 → p_MO_next_374 Q   (h.1 66 (h.1 59 21)) h4) ∧ (¬ (h.1 66 (h.1 59 21)) = 41 → (((h.1 66 (h.1 59 21)) = 59 → p_MO_next_374 Q   (h.1 66 (h.1 59 21)) h4) ∧ (¬ (h.1 66 (h.1 59 21)) = 59 → (((h.1 66 (h.1 59 21)) = 43 → p_MO_next_374 Q   (h.1 66 (h.1 59 21)) h4) ∧ (¬ (h.1 66 (h.1 59 21)) = 43 → (((h.1 66 (h.1 59 21)) = 45 → p_MO_next_374 Q   (h.1 66 (h.1 59 21)) h4) ∧ (¬ (h.1 66 (h.1 59 21)) = 45 → (((h.1 66 (h.1 59 21)) = 42 → p_MO_next_374 Q   (h.1 66 (h.1 59 21)) h4) ∧ (¬ (h.1 66 (h.1 59 21)) = 42 → (((h.1 66 (h.1 59 21)) = 60 → p_MO_next_374 Q   (h.1 66 (h.1 59 21)) h4) ∧ (¬ (h.1 66 (h.1 59 21)) = 60 → ((¬ (h.1 66 (h.1 59 21)) = 61 → p_MO_next_379 Q   (h.1 66 (h.1 59 21)) 0 h4) ∧ ((h.1 66 (h.1 59 21)) = 61 → p_MO_next_374 Q   (h.1 66 (h.1 59 21)) h4))))))))))))))))) ∧ (¬ r5 = 0 → ∃ n, p_MO_next_230 Q   n 0 h4))) (h.1 66 (h.1 59 21)) 48 57 h2) ∧ (¬ r3 = 0 → ∃ n, p_MO_next_103 Q   n h2))) (h.1 66 (h.1 59 21)) 97 122 (wI (wI (wI h 59 22 (h.1 59 21)) 59 23 0) 59 24 0)) ∧ ((h.1 59 21) = (h.1 59 8) → Q (wI (wI (wI h 59 22 (h.1 59 21)) 59 23 0) 59 24 0)))
def p_MO_next_39 (Q : AH → Prop) (K0 : AH → Prop) (h : AH) : Prop := K0 (wI h 59 21 ((h.1 59 21) + 1))
def p_MO_next_0 (Q : AH → Prop) : Nat → AH → Prop
  | 0 => fun  _ => False
  | n + 1 => fun h => let K0 := p_MO_next_0 Q n; (((h.1 59 8) ≤ (h.1 59 21) → p_MO_next_52 Q   h) ∧ (¬ (h.1 59 8) ≤ (h.1 59 21) → inb (h.1 59 21) 160 ∧ (((h.1 66 (h.1 59 21)) = 32 → p_MO_next_39 Q  K0 h) ∧ (¬ (h.1 66 (h.1 59 21)) = 32 → ((¬ (h.1 66 (h.1 59 21)) = 10 → p_MO_next_52 Q   h) ∧ ((h.1 66 (h.1 59 21)) = 10 → p_MO_next_39 Q  K0 h))))))
def p_MO_next (Q : AH → Prop) (h : AH) : Prop := ∃ n, p_MO_next_0 Q   n h
set_option maxRecDepth 20000 in
theorem r_MO_next_379 {G : GG} {d : Nat} {Q : AH → Prop} (x1 : Int32) (s0 : Int32) (h : AH) (H : p_MO_next_379 Q x1 s0 h) : Att G T1 m_MO_next (d + 1) 379 [some (.ref 59), some (.int x1), none] [.int s0] h 0 0 (vQ Q) := by
  refine A_istore_n [some (.ref 59), some (.int x1), some (.int s0)] d_MO_next_379 (by decide) rfl rfl ?_
  refine A_aload_n d_MO_next_380 rfl ?_
  refine A_iload_n d_MO_next_381 rfl ?_
  refine A_if_eq 389 d_MO_next_382 (by decide) (fun z => ?_) (fun z => ?_)
  · have H := H.1 z
    refine A_iconst (-1) (by decide) d_MO_next_389 ?_
    refine A_putI (k := 23) d_MO_next_390 (fo_MO_122_12 rfl) (Or.inr ⟨rfl, _, ft_12_23⟩) (fun z => by cases z) rfl (vA_s (by decide)) rfl rfl rfl ?_
    refine A_aload_n d_MO_next_393 rfl ?_
    refine A_dup rfl d_MO_next_394 ?_
    refine A_get (v := .int (h.1 59 21)) d_MO_next_395 (fo_MO_116_12 rfl) (vA_s (by decide)) rfl (by first | rfl | (show Value.int _ = Value.int _; simp [wI, wL, wR, wC, up])) ?_
    refine A_iconst 1 (by decide) d_MO_next_398 ?_
    refine A_iadd d_MO_next_399 ?_
    refine A_putI (k := 21) d_MO_next_400 (fo_MO_116_12 rfl) (Or.inr ⟨rfl, _, ft_12_21⟩) (fun z => by cases z) rfl (vA_s (by decide)) rfl rfl rfl ?_
    exact A_ret d_MO_next_403 rfl H
  · have H := H.2 z
    refine A_iload_n d_MO_next_385 rfl ?_
    refine A_goto 390 d_MO_next_386 (by decide) ?_
    refine A_putI (k := 23) d_MO_next_390 (fo_MO_122_12 rfl) (Or.inr ⟨rfl, _, ft_12_23⟩) (fun z => by cases z) rfl (vA_s (by decide)) rfl rfl rfl ?_
    refine A_aload_n d_MO_next_393 rfl ?_
    refine A_dup rfl d_MO_next_394 ?_
    refine A_get (v := .int (h.1 59 21)) d_MO_next_395 (fo_MO_116_12 rfl) (vA_s (by decide)) rfl (by first | rfl | (show Value.int _ = Value.int _; simp [wI, wL, wR, wC, up])) ?_
    refine A_iconst 1 (by decide) d_MO_next_398 ?_
    refine A_iadd d_MO_next_399 ?_
    refine A_putI (k := 21) d_MO_next_400 (fo_MO_116_12 rfl) (Or.inr ⟨rfl, _, ft_12_21⟩) (fun z => by cases z) rfl (vA_s (by decide)) rfl rfl rfl ?_
    exact A_ret d_MO_next_403 rfl H
set_option maxRecDepth 20000 in
theorem r_MO_next_374 {G : GG} {d : Nat} {Q : AH → Prop} (x1 : Int32) (h : AH) (H : p_MO_next_374 Q x1 h) : Att G T1 m_MO_next (d + 1) 374 [some (.ref 59), some (.int x1), none] [] h 0 0 (vQ Q) := by
  refine A_iconst 1 (by decide) d_MO_next_374 ?_
  refine A_goto 379 d_MO_next_375 (by decide) ?_
  exact r_MO_next_379   _ _ _ H
set_option maxRecDepth 20000 in
theorem r_MO_next_309 {G : GG} {d : Nat} {Q : AH → Prop} (x2 : Int32) (h : AH) (H : p_MO_next_309 Q x2 h) : Att G T1 m_MO_next (d + 1) 309 [some (.ref 59), none, some (.int x2)] [] h 0 0 (vQ Q) := by
  refine A_aload_n d_MO_next_309 rfl ?_
  refine A_iload_n d_MO_next_310 rfl ?_
  refine A_iconst 4 (by decide) d_MO_next_311 ?_
  refine A_icmp_le 319 d_MO_next_312 (by decide) (fun z => ?_) (fun z => ?_)
  · have H := H.1 z
    refine A_iconst 1 (by decide) d_MO_next_319 ?_
    refine A_putI (k := 23) d_MO_next_320 (fo_MO_122_12 rfl) (Or.inr ⟨rfl, _, ft_12_23⟩) (fun z => by cases z) rfl (vA_s (by decide)) rfl rfl rfl ?_
    refine A_goto 403 d_MO_next_323 (by decide) ?_
    exact A_ret d_MO_next_403 rfl H
  · have H := H.2 z
    refine A_iconst (-1) (by decide) d_MO_next_315 ?_
    refine A_goto 320 d_MO_next_316 (by decide) ?_
    refine A_putI (k := 23) d_MO_next_320 (fo_MO_122_12 rfl) (Or.inr ⟨rfl, _, ft_12_23⟩) (fun z => by cases z) rfl (vA_s (by decide)) rfl rfl rfl ?_
    refine A_goto 403 d_MO_next_323 (by decide) ?_
    exact A_ret d_MO_next_403 rfl H
set_option maxRecDepth 20000 in
theorem r_MO_next_290 {G : GG} {d : Nat} {Q : AH → Prop} {K230 : Int32 → AH → Prop} (k230 : ∀ x2 h, K230 x2 h → Att G T1 m_MO_next (d + 1) 230 [some (.ref 59), none, some (.int x2)] [] h 0 0 (vQ Q)) (x2 : Int32) (s1 : Int32) (h : AH) (H : p_MO_next_290 Q K230 x2 s1 h) : Att G T1 m_MO_next (d + 1) 290 [some (.ref 59), none, some (.int x2)] [.int s1, .ref 59] h 0 0 (vQ Q) := by
  refine A_putI (k := 24) d_MO_next_290 (fo_MO_125_12 rfl) (Or.inr ⟨rfl, _, ft_12_24⟩) (fun z => by cases z) rfl (vA_s (by decide)) rfl rfl rfl ?_
  refine A_iinc 1 [some (.ref 59), none, some (.int (x2 + 1))] d_MO_next_293 rfl (by decide) (by decide) rfl rfl ?_
  refine A_aload_n d_MO_next_296 rfl ?_
  refine A_dup rfl d_MO_next_297 ?_
  refine A_get (v := .int (h.1 59 21)) d_MO_next_298 (fo_MO_116_12 rfl) (vA_s (by decide)) rfl (by first | rfl | (show Value.int _ = Value.int _; simp [wI, wL, wR, wC, up])) ?_
  refine A_iconst 1 (by decide) d_MO_next_301 ?_
  refine A_iadd d_MO_next_302 ?_
  refine A_putI (k := 21) d_MO_next_303 (fo_MO_116_12 rfl) (Or.inr ⟨rfl, _, ft_12_21⟩) (fun z => by cases z) rfl (vA_s (by decide)) rfl rfl rfl ?_
  refine A_goto 230 d_MO_next_306 (by decide) ?_
  exact k230 _ _ H
set_option maxRecDepth 20000 in
theorem r_MO_next_230 {G : GG} {d : Nat} {Q : AH → Prop} : ∀ (n : Nat) (x2 : Int32) (h : AH), p_MO_next_230 Q n x2 h → Att G T1 m_MO_next (d + 1) 230 [some (.ref 59), none, some (.int x2)] [] h 0 0 (vQ Q) := by
  intro n
  induction n with
  | zero => intro x2 h H; exact H.elim
  | succ n k230 =>
    intro x2 h H
    refine A_aload_n d_MO_next_230 rfl ?_
    refine A_get (v := .int (h.1 59 21)) d_MO_next_231 (fo_MO_116_12 rfl) (vA_s (by decide)) rfl (by first | rfl | (show Value.int _ = Value.int _; simp [wI, wL, wR, wC, up])) ?_
    refine A_aload_n d_MO_next_234 rfl ?_
    refine A_get (v := .int (h.1 59 8)) d_MO_next_235 (fo_MO_82_12 rfl) (vA_s (by decide)) rfl (by first | rfl | (show Value.int _ = Value.int _; simp [wI, wL, wR, wC, up])) ?_
    refine A_icmp_ge 309 d_MO_next_238 (by decide) (fun z => ?_) (fun z => ?_)
    · have H := H.1 z
      exact r_MO_next_309   _ _ H
    · have H := H.2 z
      refine A_aload_n d_MO_next_241 rfl ?_
      refine A_get (v := .ref 66) d_MO_next_242 (fo_MO_28_12 rfl) (vA_s (by decide)) rfl (by first | rfl | (show Value.int _ = Value.int _; simp [wI, wL, wR, wC, up])) ?_
      refine A_aload_n d_MO_next_245 rfl ?_
      refine A_get (v := .int (h.1 59 21)) d_MO_next_246 (fo_MO_116_12 rfl) (vA_s (by decide)) rfl (by first | rfl | (show Value.int _ = Value.int _; simp [wI, wL, wR, wC, up])) ?_
      obtain ⟨c1, H⟩ := H
      refine A_ialdv (n := 160) (v := (h.1 66 (h.1 59 21))) d_MO_next_249 (vA_s (by decide)) rfl c1 rfl ?_
      refine A_bipush 48 (by decide) d_MO_next_250 ?_
      refine A_bipush 57 (by decide) d_MO_next_252 ?_
      refine A_cI [.int (h.1 66 (h.1 59 21)), .int 48, .int 57] [] (ct_MO_93 rfl) d_MO_next_254 rfl rfl (by decide) (Nat.le_of_ble_eq_true rfl) trivial (ok_MO_in (d := d) H) (fun r3 h2 H => ?_)
      refine A_if_eq 309 d_MO_next_257 (by decide) (fun z => ?_) (fun z => ?_)
      · have H := H.1 z
        exact r_MO_next_309   _ _ H
      · have H := H.2 z
        refine A_aload_n d_MO_next_260 rfl ?_
        refine A_iload_n d_MO_next_261 rfl ?_
        refine A_iconst 4 (by decide) d_MO_next_262 ?_
        refine A_icmp_ge 289 d_MO_next_263 (by decide) (fun z => ?_) (fun z => ?_)
        · have H := H.1 z
          refine A_iconst 0 (by decide) d_MO_next_289 ?_
          exact r_MO_next_290  k230 _ _ _ H
        · have H := H.2 z
          refine A_bipush 10 (by decide) d_MO_next_266 ?_
          refine A_aload_n d_MO_next_268 rfl ?_
          refine A_get (v := .int (h2.1 59 24)) d_MO_next_269 (fo_MO_125_12 rfl) (vA_s (by decide)) rfl (by first | rfl | (show Value.int _ = Value.int _; simp [wI, wL, wR, wC, up])) ?_
          refine A_imul d_MO_next_272 ?_
          refine A_aload_n d_MO_next_273 rfl ?_
          refine A_get (v := .ref 66) d_MO_next_274 (fo_MO_28_12 rfl) (vA_s (by decide)) rfl (by first | rfl | (show Value.int _ = Value.int _; simp [wI, wL, wR, wC, up])) ?_
          refine A_aload_n d_MO_next_277 rfl ?_
          refine A_get (v := .int (h2.1 59 21)) d_MO_next_278 (fo_MO_116_12 rfl) (vA_s (by decide)) rfl (by first | rfl | (show Value.int _ = Value.int _; simp [wI, wL, wR, wC, up])) ?_
          obtain ⟨c4, H⟩ := H
          refine A_ialdv (n := 160) (v := (h2.1 66 (h2.1 59 21))) d_MO_next_281 (vA_s (by decide)) rfl c4 rfl ?_
          refine A_iadd d_MO_next_282 ?_
          refine A_bipush 48 (by decide) d_MO_next_283 ?_
          refine A_isub d_MO_next_285 ?_
          refine A_goto 290 d_MO_next_286 (by decide) ?_
          exact r_MO_next_290  k230 _ _ _ H
set_option maxRecDepth 20000 in
theorem r_MO_next_195 {G : GG} {d : Nat} {Q : AH → Prop} (x2 : Int32) (s1 : Int32) (h : AH) (H : p_MO_next_195 Q x2 s1 h) : Att G T1 m_MO_next (d + 1) 195 [some (.ref 59), none, some (.int x2)] [.int s1, .ref 59] h 0 0 (vQ Q) := by
  refine A_putI (k := 23) d_MO_next_195 (fo_MO_122_12 rfl) (Or.inr ⟨rfl, _, ft_12_23⟩) (fun z => by cases z) rfl (vA_s (by decide)) rfl rfl rfl ?_
  refine A_aload_n d_MO_next_198 rfl ?_
  refine A_iload_n d_MO_next_199 rfl ?_
  refine A_iconst 3 (by decide) d_MO_next_200 ?_
  refine A_icmp_ge 208 d_MO_next_201 (by decide) (fun z => ?_) (fun z => ?_)
  · have H := H.1 z
    refine A_iload_n d_MO_next_208 rfl ?_
    refine A_iconst 3 (by decide) d_MO_next_209 ?_
    refine A_isub d_MO_next_210 ?_
    refine A_putI (k := 24) d_MO_next_211 (fo_MO_125_12 rfl) (Or.inr ⟨rfl, _, ft_12_24⟩) (fun z => by cases z) rfl (vA_s (by decide)) rfl rfl rfl ?_
    refine A_goto 403 d_MO_next_214 (by decide) ?_
    exact A_ret d_MO_next_403 rfl H
  · have H := H.2 z
    refine A_iload_n d_MO_next_204 rfl ?_
    refine A_goto 211 d_MO_next_205 (by decide) ?_
    refine A_putI (k := 24) d_MO_next_211 (fo_MO_125_12 rfl) (Or.inr ⟨rfl, _, ft_12_24⟩) (fun z => by cases z) rfl (vA_s (by decide)) rfl rfl rfl ?_
    refine A_goto 403 d_MO_next_214 (by decide) ?_
    exact A_ret d_MO_next_403 rfl H
set_option maxRecDepth 20000 in
theorem r_MO_next_146 {G : GG} {d : Nat} {Q : AH → Prop} (h : AH) (H : p_MO_next_146 Q h) : Att G T1 m_MO_next (d + 1) 146 [some (.ref 59), none, none] [] h 0 0 (vQ Q) := by
  refine A_aload_n d_MO_next_146 rfl ?_
  refine A_aload_n d_MO_next_147 rfl ?_
  refine A_get (v := .int (h.1 59 22)) d_MO_next_148 (fo_MO_119_12 rfl) (vA_s (by decide)) rfl (by first | rfl | (show Value.int _ = Value.int _; simp [wI, wL, wR, wC, up])) ?_
  refine A_aload_n d_MO_next_151 rfl ?_
  refine A_get (v := .int (h.1 59 21)) d_MO_next_152 (fo_MO_116_12 rfl) (vA_s (by decide)) rfl (by first | rfl | (show Value.int _ = Value.int _; simp [wI, wL, wR, wC, up])) ?_
  refine A_cI [.ref 59, .int (h.1 59 22), .int (h.1 59 21)] [] (ct_MO_128 rfl) d_MO_next_155 rfl rfl (by decide) (Nat.le_of_ble_eq_true rfl) (rcA_o (c := 12) rfl (vA_s (by decide)) rfl (by decide) rfl) (ok_MO_wordFrom (d := d) H) (fun r2 h1 H => ?_)
  refine A_istore_n [some (.ref 59), none, some (.int r2)] d_MO_next_158 (by decide) rfl rfl ?_
  refine A_aload_n d_MO_next_159 rfl ?_
  refine A_iload_n d_MO_next_160 rfl ?_
  refine A_iconst 3 (by decide) d_MO_next_161 ?_
  refine A_icmp_ge 169 d_MO_next_162 (by decide) (fun z => ?_) (fun z => ?_)
  · have H := H.1 z
    refine A_iload_n d_MO_next_169 rfl ?_
    refine A_bipush 9 (by decide) d_MO_next_170 ?_
    refine A_icmp_ge 179 d_MO_next_172 (by decide) (fun z => ?_) (fun z => ?_)
    · have H := H.1 z
      refine A_iload_n d_MO_next_179 rfl ?_
      refine A_bipush 12 (by decide) d_MO_next_180 ?_
      refine A_icmp_ne 189 d_MO_next_182 (by decide) (fun z => ?_) (fun z => ?_)
      · have H := H.1 z
        refine A_iconst 4 (by decide) d_MO_next_189 ?_
        refine A_iload_n d_MO_next_190 rfl ?_
        refine A_iadd d_MO_next_191 ?_
        refine A_bipush 9 (by decide) d_MO_next_192 ?_
        refine A_isub d_MO_next_194 ?_
        exact r_MO_next_195   _ _ _ H
      · have H := H.2 z
        refine A_iconst (-1) (by decide) d_MO_next_185 ?_
        refine A_goto 195 d_MO_next_186 (by decide) ?_
        exact r_MO_next_195   _ _ _ H
    · have H := H.2 z
      refine A_iconst 2 (by decide) d_MO_next_175 ?_
      refine A_goto 195 d_MO_next_176 (by decide) ?_
      exact r_MO_next_195   _ _ _ H
  · have H := H.2 z
    refine A_iconst 3 (by decide) d_MO_next_165 ?_
    refine A_goto 195 d_MO_next_166 (by decide) ?_
    exact r_MO_next_195   _ _ _ H
set_option maxRecDepth 20000 in
theorem r_MO_next_103 {G : GG} {d : Nat} {Q : AH → Prop} : ∀ (n : Nat) (h : AH), p_MO_next_103 Q n h → Att G T1 m_MO_next (d + 1) 103 [some (.ref 59), none, none] [] h 0 0 (vQ Q) := by
  intro n
  induction n with
  | zero => intro h H; exact H.elim
  | succ n k103 =>
    intro h H
    refine A_aload_n d_MO_next_103 rfl ?_
    refine A_get (v := .int (h.1 59 21)) d_MO_next_104 (fo_MO_116_12 rfl) (vA_s (by decide)) rfl (by first | rfl | (show Value.int _ = Value.int _; simp [wI, wL, wR, wC, up])) ?_
    refine A_aload_n d_MO_next_107 rfl ?_
    refine A_get (v := .int (h.1 59 8)) d_MO_next_108 (fo_MO_82_12 rfl) (vA_s (by decide)) rfl (by first | rfl | (show Value.int _ = Value.int _; simp [wI, wL, wR, wC, up])) ?_
    refine A_icmp_ge 146 d_MO_next_111 (by decide) (fun z => ?_) (fun z => ?_)
    · have H := H.1 z
      exact r_MO_next_146   _ H
    · have H := H.2 z
      refine A_aload_n d_MO_next_114 rfl ?_
      refine A_get (v := .ref 66) d_MO_next_115 (fo_MO_28_12 rfl) (vA_s (by decide)) rfl (by first | rfl | (show Value.int _ = Value.int _; simp [wI, wL, wR, wC, up])) ?_
      refine A_aload_n d_MO_next_118 rfl ?_
      refine A_get (v := .int (h.1 59 21)) d_MO_next_119 (fo_MO_116_12 rfl) (vA_s (by decide)) rfl (by first | rfl | (show Value.int _ = Value.int _; simp [wI, wL, wR, wC, up])) ?_
      obtain ⟨c1, H⟩ := H
      refine A_ialdv (n := 160) (v := (h.1 66 (h.1 59 21))) d_MO_next_122 (vA_s (by decide)) rfl c1 rfl ?_
      refine A_bipush 97 (by decide) d_MO_next_123 ?_
      refine A_bipush 122 (by decide) d_MO_next_125 ?_
      refine A_cI [.int (h.1 66 (h.1 59 21)), .int 97, .int 122] [] (ct_MO_93 rfl) d_MO_next_127 rfl rfl (by decide) (Nat.le_of_ble_eq_true rfl) trivial (ok_MO_in (d := d) H) (fun r3 h2 H => ?_)
      refine A_if_eq 146 d_MO_next_130 (by decide) (fun z => ?_) (fun z => ?_)
      · have H := H.1 z
        exact r_MO_next_146   _ H
      · have H := H.2 z
        refine A_aload_n d_MO_next_133 rfl ?_
        refine A_dup rfl d_MO_next_134 ?_
        refine A_get (v := .int (h2.1 59 21)) d_MO_next_135 (fo_MO_116_12 rfl) (vA_s (by decide)) rfl (by first | rfl | (show Value.int _ = Value.int _; simp [wI, wL, wR, wC, up])) ?_
        refine A_iconst 1 (by decide) d_MO_next_138 ?_
        refine A_iadd d_MO_next_139 ?_
        refine A_putI (k := 21) d_MO_next_140 (fo_MO_116_12 rfl) (Or.inr ⟨rfl, _, ft_12_21⟩) (fun z => by cases z) rfl (vA_s (by decide)) rfl rfl rfl ?_
        refine A_goto 103 d_MO_next_143 (by decide) ?_
        exact k103 _ H
set_option maxRecDepth 20000 in
theorem r_MO_next_52 {G : GG} {d : Nat} {Q : AH → Prop} (h : AH) (H : p_MO_next_52 Q h) : Att G T1 m_MO_next (d + 1) 52 [some (.ref 59), none, none] [] h 0 0 (vQ Q) := by
  refine A_aload_n d_MO_next_52 rfl ?_
  refine A_aload_n d_MO_next_53 rfl ?_
  refine A_get (v := .int (h.1 59 21)) d_MO_next_54 (fo_MO_116_12 rfl) (vA_s (by decide)) rfl (by first | rfl | (show Value.int _ = Value.int _; simp [wI, wL, wR, wC, up])) ?_
  refine A_putI (k := 22) d_MO_next_57 (fo_MO_119_12 rfl) (Or.inr ⟨rfl, _, ft_12_22⟩) (fun z => by cases z) rfl (vA_s (by decide)) rfl rfl rfl ?_
  refine A_aload_n d_MO_next_60 rfl ?_
  refine A_iconst 0 (by decide) d_MO_next_61 ?_
  refine A_putI (k := 23) d_MO_next_62 (fo_MO_122_12 rfl) (Or.inr ⟨rfl, _, ft_12_23⟩) (fun z => by cases z) rfl (vA_s (by decide)) rfl rfl rfl ?_
  refine A_aload_n d_MO_next_65 rfl ?_
  refine A_iconst 0 (by decide) d_MO_next_66 ?_
  refine A_putI (k := 24) d_MO_next_67 (fo_MO_125_12 rfl) (Or.inr ⟨rfl, _, ft_12_24⟩) (fun z => by cases z) rfl (vA_s (by decide)) rfl rfl rfl ?_
  refine A_aload_n d_MO_next_70 rfl ?_
  refine A_get (v := .int (h.1 59 21)) d_MO_next_71 (fo_MO_116_12 rfl) (vA_s (by decide)) rfl (by first | rfl | (show Value.int _ = Value.int _; simp [wI, wL, wR, wC, up])) ?_
  refine A_aload_n d_MO_next_74 rfl ?_
  refine A_get (v := .int (h.1 59 8)) d_MO_next_75 (fo_MO_82_12 rfl) (vA_s (by decide)) rfl (by first | rfl | (show Value.int _ = Value.int _; simp [wI, wL, wR, wC, up])) ?_
  refine A_icmp_ne 82 d_MO_next_78 (by decide) (fun z => ?_) (fun z => ?_)
  · have H := H.1 z
    refine A_aload_n d_MO_next_82 rfl ?_
    refine A_get (v := .ref 66) d_MO_next_83 (fo_MO_28_12 rfl) (vA_s (by decide)) rfl (by first | rfl | (show Value.int _ = Value.int _; simp [wI, wL, wR, wC, up])) ?_
    refine A_aload_n d_MO_next_86 rfl ?_
    refine A_get (v := .int (h.1 59 21)) d_MO_next_87 (fo_MO_116_12 rfl) (vA_s (by decide)) rfl (by first | rfl | (show Value.int _ = Value.int _; simp [wI, wL, wR, wC, up])) ?_
    obtain ⟨c1, H⟩ := H
    refine A_ialdv (n := 160) (v := (h.1 66 (h.1 59 21))) d_MO_next_90 (vA_s (by decide)) rfl c1 (by first | rfl | simp [wI, wL, wR, wC, up]) ?_
    refine A_istore_n [some (.ref 59), some (.int (h.1 66 (h.1 59 21))), none] d_MO_next_91 (by decide) rfl rfl ?_
    refine A_iload_n d_MO_next_92 rfl ?_
    refine A_bipush 97 (by decide) d_MO_next_93 ?_
    refine A_bipush 122 (by decide) d_MO_next_95 ?_
    refine A_cI [.int (h.1 66 (h.1 59 21)), .int 97, .int 122] [] (ct_MO_93 rfl) d_MO_next_97 rfl rfl (by decide) (Nat.le_of_ble_eq_true rfl) trivial (ok_MO_in (d := d) H) (fun r3 h2 H => ?_)
    refine A_if_eq 217 d_MO_next_100 (by decide) (fun z => ?_) (fun z => ?_)
    · have H := H.1 z
      refine A_iload_n d_MO_next_217 rfl ?_
      refine A_bipush 48 (by decide) d_MO_next_218 ?_
      refine A_bipush 57 (by decide) d_MO_next_220 ?_
      refine A_cI [.int (h.1 66 (h.1 59 21)), .int 48, .int 57] [] (ct_MO_93 rfl) d_MO_next_222 rfl rfl (by decide) (Nat.le_of_ble_eq_true rfl) trivial (ok_MO_in (d := d) H) (fun r5 h4 H => ?_)
      refine A_if_eq 326 d_MO_next_225 (by decide) (fun z => ?_) (fun z => ?_)
      · have H := H.1 z
        refine A_iload_n d_MO_next_326 rfl ?_
        refine A_bipush 40 (by decide) d_MO_next_327 ?_
        refine A_icmp_eq 374 d_MO_next_329 (by decide) (fun z => ?_) (fun z => ?_)
        · have H := H.1 z
          exact r_MO_next_374   _ _ H
        · have H := H.2 z
          refine A_iload_n d_MO_next_332 rfl ?_
          refine A_bipush 41 (by decide) d_MO_next_333 ?_
          refine A_icmp_eq 374 d_MO_next_335 (by decide) (fun z => ?_) (fun z => ?_)
          · have H := H.1 z
            exact r_MO_next_374   _ _ H
          · have H := H.2 z
            refine A_iload_n d_MO_next_338 rfl ?_
            refine A_bipush 59 (by decide) d_MO_next_339 ?_
            refine A_icmp_eq 374 d_MO_next_341 (by decide) (fun z => ?_) (fun z => ?_)
            · have H := H.1 z
              exact r_MO_next_374   _ _ H
            · have H := H.2 z
              refine A_iload_n d_MO_next_344 rfl ?_
              refine A_bipush 43 (by decide) d_MO_next_345 ?_
              refine A_icmp_eq 374 d_MO_next_347 (by decide) (fun z => ?_) (fun z => ?_)
              · have H := H.1 z
                exact r_MO_next_374   _ _ H
              · have H := H.2 z
                refine A_iload_n d_MO_next_350 rfl ?_
                refine A_bipush 45 (by decide) d_MO_next_351 ?_
                refine A_icmp_eq 374 d_MO_next_353 (by decide) (fun z => ?_) (fun z => ?_)
                · have H := H.1 z
                  exact r_MO_next_374   _ _ H
                · have H := H.2 z
                  refine A_iload_n d_MO_next_356 rfl ?_
                  refine A_bipush 42 (by decide) d_MO_next_357 ?_
                  refine A_icmp_eq 374 d_MO_next_359 (by decide) (fun z => ?_) (fun z => ?_)
                  · have H := H.1 z
                    exact r_MO_next_374   _ _ H
                  · have H := H.2 z
                    refine A_iload_n d_MO_next_362 rfl ?_
                    refine A_bipush 60 (by decide) d_MO_next_363 ?_
                    refine A_icmp_eq 374 d_MO_next_365 (by decide) (fun z => ?_) (fun z => ?_)
                    · have H := H.1 z
                      exact r_MO_next_374   _ _ H
                    · have H := H.2 z
                      refine A_iload_n d_MO_next_368 rfl ?_
                      refine A_bipush 61 (by decide) d_MO_next_369 ?_
                      refine A_icmp_ne 378 d_MO_next_371 (by decide) (fun z => ?_) (fun z => ?_)
                      · have H := H.1 z
                        refine A_iconst 0 (by decide) d_MO_next_378 ?_
                        exact r_MO_next_379   _ _ _ H
                      · have H := H.2 z
                        exact r_MO_next_374   _ _ H
      · have H := H.2 z
        refine A_iconst 0 (by decide) d_MO_next_228 ?_
        refine A_istore_n [some (.ref 59), some (.int (h.1 66 (h.1 59 21))), some (.int 0)] d_MO_next_229 (by decide) rfl rfl ?_
        refine A_sub (L' := [some (.ref 59), none, some (.int 0)]) ⟨rfl, rfl, trivial⟩ ?_
        obtain ⟨n9, H⟩ := H
        exact r_MO_next_230   n9 _ _ H
    · have H := H.2 z
      refine A_sub (L' := [some (.ref 59), none, none]) ⟨rfl, trivial⟩ ?_
      obtain ⟨n9, H⟩ := H
      exact r_MO_next_103   n9 _ H
  · have H := H.2 z
    exact A_ret d_MO_next_81 rfl H
set_option maxRecDepth 20000 in
theorem r_MO_next_39 {G : GG} {d : Nat} {Q : AH → Prop} {K0 : AH → Prop} (k0 : ∀ h, K0 h → Att G T1 m_MO_next (d + 1) 0 [some (.ref 59), none, none] [] h 0 0 (vQ Q)) (h : AH) (H : p_MO_next_39 Q K0 h) : Att G T1 m_MO_next (d + 1) 39 [some (.ref 59), none, none] [] h 0 0 (vQ Q) := by
  refine A_aload_n d_MO_next_39 rfl ?_
  refine A_dup rfl d_MO_next_40 ?_
  refine A_get (v := .int (h.1 59 21)) d_MO_next_41 (fo_MO_116_12 rfl) (vA_s (by decide)) rfl (by first | rfl | (show Value.int _ = Value.int _; simp [wI, wL, wR, wC, up])) ?_
  refine A_iconst 1 (by decide) d_MO_next_44 ?_
  refine A_iadd d_MO_next_45 ?_
  refine A_putI (k := 21) d_MO_next_46 (fo_MO_116_12 rfl) (Or.inr ⟨rfl, _, ft_12_21⟩) (fun z => by cases z) rfl (vA_s (by decide)) rfl rfl rfl ?_
  refine A_goto 0 d_MO_next_49 (by decide) ?_
  exact k0 _ H
set_option maxRecDepth 20000 in
theorem r_MO_next_0 {G : GG} {d : Nat} {Q : AH → Prop} : ∀ (n : Nat) (h : AH), p_MO_next_0 Q n h → Att G T1 m_MO_next (d + 1) 0 [some (.ref 59), none, none] [] h 0 0 (vQ Q) := by
  intro n
  induction n with
  | zero => intro h H; exact H.elim
  | succ n k0 =>
    intro h H
    refine A_aload_n d_MO_next_0 rfl ?_
    refine A_get (v := .int (h.1 59 21)) d_MO_next_1 (fo_MO_116_12 rfl) (vA_s (by decide)) rfl (by first | rfl | (show Value.int _ = Value.int _; simp [wI, wL, wR, wC, up])) ?_
    refine A_aload_n d_MO_next_4 rfl ?_
    refine A_get (v := .int (h.1 59 8)) d_MO_next_5 (fo_MO_82_12 rfl) (vA_s (by decide)) rfl (by first | rfl | (show Value.int _ = Value.int _; simp [wI, wL, wR, wC, up])) ?_
    refine A_icmp_ge 52 d_MO_next_8 (by decide) (fun z => ?_) (fun z => ?_)
    · have H := H.1 z
      exact r_MO_next_52   _ H
    · have H := H.2 z
      refine A_aload_n d_MO_next_11 rfl ?_
      refine A_get (v := .ref 66) d_MO_next_12 (fo_MO_28_12 rfl) (vA_s (by decide)) rfl (by first | rfl | (show Value.int _ = Value.int _; simp [wI, wL, wR, wC, up])) ?_
      refine A_aload_n d_MO_next_15 rfl ?_
      refine A_get (v := .int (h.1 59 21)) d_MO_next_16 (fo_MO_116_12 rfl) (vA_s (by decide)) rfl (by first | rfl | (show Value.int _ = Value.int _; simp [wI, wL, wR, wC, up])) ?_
      obtain ⟨c1, H⟩ := H
      refine A_ialdv (n := 160) (v := (h.1 66 (h.1 59 21))) d_MO_next_19 (vA_s (by decide)) rfl c1 rfl ?_
      refine A_bipush 32 (by decide) d_MO_next_20 ?_
      refine A_icmp_eq 39 d_MO_next_22 (by decide) (fun z => ?_) (fun z => ?_)
      · have H := H.1 z
        exact r_MO_next_39  k0 _ H
      · have H := H.2 z
        refine A_aload_n d_MO_next_25 rfl ?_
        refine A_get (v := .ref 66) d_MO_next_26 (fo_MO_28_12 rfl) (vA_s (by decide)) rfl (by first | rfl | (show Value.int _ = Value.int _; simp [wI, wL, wR, wC, up])) ?_
        refine A_aload_n d_MO_next_29 rfl ?_
        refine A_get (v := .int (h.1 59 21)) d_MO_next_30 (fo_MO_116_12 rfl) (vA_s (by decide)) rfl (by first | rfl | (show Value.int _ = Value.int _; simp [wI, wL, wR, wC, up])) ?_
        refine A_ialdv (n := 160) (v := (h.1 66 (h.1 59 21))) d_MO_next_33 (vA_s (by decide)) rfl c1 rfl ?_
        refine A_bipush 10 (by decide) d_MO_next_34 ?_
        refine A_icmp_ne 52 d_MO_next_36 (by decide) (fun z => ?_) (fun z => ?_)
        · have H := H.1 z
          exact r_MO_next_52   _ H
        · have H := H.2 z
          exact r_MO_next_39  k0 _ H
set_option maxRecDepth 20000 in
theorem r_MO_next_e {G : GG} {d : Nat} {Q : AH → Prop} (h : AH) (H : p_MO_next Q h) : Att G T1 m_MO_next (d + 1) 0 [some (.ref 59), none, none] [] h 0 0 (vQ Q) := by
  obtain ⟨n9, H⟩ := H
  exact r_MO_next_0   n9 _ H
set_option maxRecDepth 20000 in
theorem ok_MO_next {G : GG} {d : Nat} {Q : AH → Prop} {h : AH} (H : p_MO_next Q h) : WP G T1 m_MO_next (d + 1) [.ref 59] h 0 0 (vQ Q) := by
  exact WP.enter 2 (by decide) rfl rfl (r_MO_next_e h H)
theorem d_MO_unwinds_0 : decode prog_14_method_16_code 0 = .ok (.aload_n 0, 1) := by decide +kernel
theorem d_MO_unwinds_1 : decode prog_14_method_16_code 1 = .ok (.getfield 135, 3) := by decide +kernel
theorem d_MO_unwinds_4 : decode prog_14_method_16_code 4 = .ok (.ifCond .le 75, 3) := by decide +kernel
theorem d_MO_unwinds_7 : decode prog_14_method_16_code 7 = .ok (.aload_n 0, 1) := by decide +kernel
theorem d_MO_unwinds_8 : decode prog_14_method_16_code 8 = .ok (.getfield 55, 3) := by decide +kernel
theorem d_MO_unwinds_11 : decode prog_14_method_16_code 11 = .ok (.aload_n 0, 1) := by decide +kernel
theorem d_MO_unwinds_12 : decode prog_14_method_16_code 12 = .ok (.getfield 135, 3) := by decide +kernel
theorem d_MO_unwinds_15 : decode prog_14_method_16_code 15 = .ok (.iconst 1, 1) := by decide +kernel
theorem d_MO_unwinds_16 : decode prog_14_method_16_code 16 = .ok (.isub, 1) := by decide +kernel
theorem d_MO_unwinds_17 : decode prog_14_method_16_code 17 = .ok (.iaload, 1) := by decide +kernel
theorem d_MO_unwinds_18 : decode prog_14_method_16_code 18 = .ok (.invokestatic 138, 3) := by decide +kernel
theorem d_MO_unwinds_21 : decode prog_14_method_16_code 21 = .ok (.iload_n 1, 1) := by decide +kernel
theorem d_MO_unwinds_22 : decode prog_14_method_16_code 22 = .ok (.if_icmp .lt 57, 3) := by decide +kernel
theorem d_MO_unwinds_25 : decode prog_14_method_16_code 25 = .ok (.aload_n 0, 1) := by decide +kernel
theorem d_MO_unwinds_26 : decode prog_14_method_16_code 26 = .ok (.dup, 1) := by decide +kernel
theorem d_MO_unwinds_27 : decode prog_14_method_16_code 27 = .ok (.getfield 135, 3) := by decide +kernel
theorem d_MO_unwinds_30 : decode prog_14_method_16_code 30 = .ok (.iconst 1, 1) := by decide +kernel
theorem d_MO_unwinds_31 : decode prog_14_method_16_code 31 = .ok (.isub, 1) := by decide +kernel
theorem d_MO_unwinds_32 : decode prog_14_method_16_code 32 = .ok (.putfield 135, 3) := by decide +kernel
theorem d_MO_unwinds_35 : decode prog_14_method_16_code 35 = .ok (.aload_n 0, 1) := by decide +kernel
theorem d_MO_unwinds_36 : decode prog_14_method_16_code 36 = .ok (.getfield 55, 3) := by decide +kernel
theorem d_MO_unwinds_39 : decode prog_14_method_16_code 39 = .ok (.aload_n 0, 1) := by decide +kernel
theorem d_MO_unwinds_40 : decode prog_14_method_16_code 40 = .ok (.getfield 135, 3) := by decide +kernel
theorem d_MO_unwinds_43 : decode prog_14_method_16_code 43 = .ok (.iaload, 1) := by decide +kernel
theorem d_MO_unwinds_44 : decode prog_14_method_16_code 44 = .ok (.istore_n 2, 1) := by decide +kernel
theorem d_MO_unwinds_45 : decode prog_14_method_16_code 45 = .ok (.aload_n 0, 1) := by decide +kernel
theorem d_MO_unwinds_46 : decode prog_14_method_16_code 46 = .ok (.dup, 1) := by decide +kernel
theorem d_MO_unwinds_47 : decode prog_14_method_16_code 47 = .ok (.getfield 142, 3) := by decide +kernel
theorem d_MO_unwinds_50 : decode prog_14_method_16_code 50 = .ok (.iload_n 2, 1) := by decide +kernel
theorem d_MO_unwinds_51 : decode prog_14_method_16_code 51 = .ok (.bipush 13, 2) := by decide +kernel
theorem d_MO_unwinds_53 : decode prog_14_method_16_code 53 = .ok (.if_icmp .eq 9, 3) := by decide +kernel
theorem d_MO_unwinds_56 : decode prog_14_method_16_code 56 = .ok (.iload_n 2, 1) := by decide +kernel
theorem d_MO_unwinds_57 : decode prog_14_method_16_code 57 = .ok (.bipush 19, 2) := by decide +kernel
theorem d_MO_unwinds_59 : decode prog_14_method_16_code 59 = .ok (.if_icmp .ne 7, 3) := by decide +kernel
theorem d_MO_unwinds_62 : decode prog_14_method_16_code 62 = .ok (.iconst 1, 1) := by decide +kernel
theorem d_MO_unwinds_63 : decode prog_14_method_16_code 63 = .ok (.goto 4, 3) := by decide +kernel
theorem d_MO_unwinds_66 : decode prog_14_method_16_code 66 = .ok (.iconst 0, 1) := by decide +kernel
theorem d_MO_unwinds_67 : decode prog_14_method_16_code 67 = .ok (.isub, 1) := by decide +kernel
theorem d_MO_unwinds_68 : decode prog_14_method_16_code 68 = .ok (.putfield 142, 3) := by decide +kernel
theorem d_MO_unwinds_71 : decode prog_14_method_16_code 71 = .ok (.aload_n 0, 1) := by decide +kernel
theorem d_MO_unwinds_72 : decode prog_14_method_16_code 72 = .ok (.iload_n 2, 1) := by decide +kernel
theorem d_MO_unwinds_73 : decode prog_14_method_16_code 73 = .ok (.invokevirtual 145, 3) := by decide +kernel
theorem d_MO_unwinds_76 : decode prog_14_method_16_code 76 = .ok (.goto (-76), 3) := by decide +kernel
theorem d_MO_unwinds_79 : decode prog_14_method_16_code 79 = .ok (.return_, 1) := by decide +kernel
def p_MO_unwinds_67 (Q : AH → Prop) (K0 : Int32 → AH → Prop) (x1 : Int32) (x2 : Int32) (s1 : Int32) (s2 : Int32) (h : AH) : Prop := p_MO_puts (fun h1 => K0 x1 h1) x2 (wI h 59 28 (s1 - s2))
def p_MO_unwinds_62 (Q : AH → Prop) (K0 : Int32 → AH → Prop) (x1 : Int32) (x2 : Int32) (s1 : Int32) (h : AH) : Prop := p_MO_unwinds_67 Q  K0 x1 x2 s1 1 h
def p_MO_unwinds_0 (Q : AH → Prop) : Nat → Int32 → AH → Prop
  | 0 => fun _ _ => False
  | n + 1 => fun x1 h => let K0 := p_MO_unwinds_0 Q n; (((h.1 59 27) ≤ 0 → Q h) ∧ (¬ (h.1 59 27) ≤ 0 → inb ((h.1 59 27) - 1) 200 ∧ p_MO_rank (fun r3 h2 => ((r3 < x1 → Q h2) ∧ (¬ r3 < x1 → inb ((h2.1 59 27) - 1) 200 ∧ (((h2.1 75 ((h2.1 59 27) - 1)) = 13 → p_MO_unwinds_62 Q  K0 x1 (h2.1 75 ((h2.1 59 27) - 1)) (h2.1 59 28) (wI h2 59 27 ((h2.1 59 27) - 1))) ∧ (¬ (h2.1 75 ((h2.1 59 27) - 1)) = 13 → ((¬ (h2.1 75 ((h2.1 59 27) - 1)) = 19 → p_MO_unwinds_67 Q  K0 x1 (h2.1 75 ((h2.1 59 27) - 1)) (h2.1 59 28) 0 (wI h2 59 27 ((h2.1 59 27) - 1))) ∧ ((h2.1 75 ((h2.1 59 27) - 1)) = 19 → p_MO_unwinds_62 Q  K0 x1 (h2.1 75 ((h2.1 59 27) - 1)) (h2.1 59 28) (wI h2 59 27 ((h2.1 59 27) - 1))))))))) (h.1 75 ((h.1 59 27) - 1)) h))
def p_MO_unwinds (Q : AH → Prop) (x1 : Int32) (h : AH) : Prop := ∃ n, p_MO_unwinds_0 Q   n x1 h
set_option maxRecDepth 20000 in
theorem r_MO_unwinds_67 {G : GG} {d : Nat} {Q : AH → Prop} {K0 : Int32 → AH → Prop} (k0 : ∀ x1 h, K0 x1 h → Att G T1 m_MO_unwinds (d + 1) 0 [some (.ref 59), some (.int x1), none] [] h 0 0 (vQ Q)) (x1 : Int32) (x2 : Int32) (s1 : Int32) (s2 : Int32) (h : AH) (H : p_MO_unwinds_67 Q K0 x1 x2 s1 s2 h) : Att G T1 m_MO_unwinds (d + 1) 67 [some (.ref 59), some (.int x1), some (.int x2)] [.int s2, .int s1, .ref 59] h 0 0 (vQ Q) := by
  refine A_isub d_MO_unwinds_67 ?_
  refine A_putI (k := 28) d_MO_unwinds_68 (fo_MO_142_12 rfl) (Or.inr ⟨rfl, _, ft_12_28⟩) (fun z => by cases z) rfl (vA_s (by decide)) rfl rfl rfl ?_
  refine A_aload_n d_MO_unwinds_71 rfl ?_
  refine A_iload_n d_MO_unwinds_72 rfl ?_
  refine A_cV [.ref 59, .int x2] [] (ct_MO_145 rfl) d_MO_unwinds_73 rfl rfl (by decide) (Nat.le_of_ble_eq_true rfl) (rcA_o (c := 12) rfl (vA_s (by decide)) rfl (by decide) rfl) (ok_MO_puts (d := d) H) (fun h1 H => ?_)
  refine A_goto 0 d_MO_unwinds_76 (by decide) ?_
  refine A_sub (L' := [some (.ref 59), some (.int x1), none]) ⟨rfl, rfl, trivial⟩ ?_
  exact k0 _ _ H
set_option maxRecDepth 20000 in
theorem r_MO_unwinds_62 {G : GG} {d : Nat} {Q : AH → Prop} {K0 : Int32 → AH → Prop} (k0 : ∀ x1 h, K0 x1 h → Att G T1 m_MO_unwinds (d + 1) 0 [some (.ref 59), some (.int x1), none] [] h 0 0 (vQ Q)) (x1 : Int32) (x2 : Int32) (s1 : Int32) (h : AH) (H : p_MO_unwinds_62 Q K0 x1 x2 s1 h) : Att G T1 m_MO_unwinds (d + 1) 62 [some (.ref 59), some (.int x1), some (.int x2)] [.int s1, .ref 59] h 0 0 (vQ Q) := by
  refine A_iconst 1 (by decide) d_MO_unwinds_62 ?_
  refine A_goto 67 d_MO_unwinds_63 (by decide) ?_
  exact r_MO_unwinds_67  k0 _ _ _ _ _ H
set_option maxRecDepth 20000 in
theorem r_MO_unwinds_0 {G : GG} {d : Nat} {Q : AH → Prop} : ∀ (n : Nat) (x1 : Int32) (h : AH), p_MO_unwinds_0 Q n x1 h → Att G T1 m_MO_unwinds (d + 1) 0 [some (.ref 59), some (.int x1), none] [] h 0 0 (vQ Q) := by
  intro n
  induction n with
  | zero => intro x1 h H; exact H.elim
  | succ n k0 =>
    intro x1 h H
    refine A_aload_n d_MO_unwinds_0 rfl ?_
    refine A_get (v := .int (h.1 59 27)) d_MO_unwinds_1 (fo_MO_135_12 rfl) (vA_s (by decide)) rfl (by first | rfl | (show Value.int _ = Value.int _; simp [wI, wL, wR, wC, up])) ?_
    refine A_if_le 79 d_MO_unwinds_4 (by decide) (fun z => ?_) (fun z => ?_)
    · have H := H.1 z
      exact A_ret d_MO_unwinds_79 rfl H
    · have H := H.2 z
      refine A_aload_n d_MO_unwinds_7 rfl ?_
      refine A_get (v := .ref 75) d_MO_unwinds_8 (fo_MO_55_12 rfl) (vA_s (by decide)) rfl (by first | rfl | (show Value.int _ = Value.int _; simp [wI, wL, wR, wC, up])) ?_
      refine A_aload_n d_MO_unwinds_11 rfl ?_
      refine A_get (v := .int (h.1 59 27)) d_MO_unwinds_12 (fo_MO_135_12 rfl) (vA_s (by decide)) rfl (by first | rfl | (show Value.int _ = Value.int _; simp [wI, wL, wR, wC, up])) ?_
      refine A_iconst 1 (by decide) d_MO_unwinds_15 ?_
      refine A_isub d_MO_unwinds_16 ?_
      obtain ⟨c1, H⟩ := H
      refine A_ialdv (n := 200) (v := (h.1 75 ((h.1 59 27) - 1))) d_MO_unwinds_17 (vA_s (by decide)) rfl c1 rfl ?_
      refine A_cI [.int (h.1 75 ((h.1 59 27) - 1))] [] (ct_MO_138 rfl) d_MO_unwinds_18 rfl rfl (by decide) (Nat.le_of_ble_eq_true rfl) trivial (ok_MO_rank (d := d) H) (fun r3 h2 H => ?_)
      refine A_iload_n d_MO_unwinds_21 rfl ?_
      refine A_icmp_lt 79 d_MO_unwinds_22 (by decide) (fun z => ?_) (fun z => ?_)
      · have H := H.1 z
        exact A_ret d_MO_unwinds_79 rfl H
      · have H := H.2 z
        refine A_aload_n d_MO_unwinds_25 rfl ?_
        refine A_dup rfl d_MO_unwinds_26 ?_
        refine A_get (v := .int (h2.1 59 27)) d_MO_unwinds_27 (fo_MO_135_12 rfl) (vA_s (by decide)) rfl (by first | rfl | (show Value.int _ = Value.int _; simp [wI, wL, wR, wC, up])) ?_
        refine A_iconst 1 (by decide) d_MO_unwinds_30 ?_
        refine A_isub d_MO_unwinds_31 ?_
        refine A_putI (k := 27) d_MO_unwinds_32 (fo_MO_135_12 rfl) (Or.inr ⟨rfl, _, ft_12_27⟩) (fun z => by cases z) rfl (vA_s (by decide)) rfl rfl rfl ?_
        refine A_aload_n d_MO_unwinds_35 rfl ?_
        refine A_get (v := .ref 75) d_MO_unwinds_36 (fo_MO_55_12 rfl) (vA_s (by decide)) rfl (by first | rfl | (show Value.int _ = Value.int _; simp [wI, wL, wR, wC, up])) ?_
        refine A_aload_n d_MO_unwinds_39 rfl ?_
        refine A_get (v := .int ((h2.1 59 27) - 1)) d_MO_unwinds_40 (fo_MO_135_12 rfl) (vA_s (by decide)) rfl (by first | rfl | (show Value.int _ = Value.int _; simp [wI, wL, wR, wC, up])) ?_
        obtain ⟨c4, H⟩ := H
        refine A_ialdv (n := 200) (v := (h2.1 75 ((h2.1 59 27) - 1))) d_MO_unwinds_43 (vA_s (by decide)) rfl c4 (by first | rfl | simp [wI, wL, wR, wC, up]) ?_
        refine A_istore_n [some (.ref 59), some (.int x1), some (.int (h2.1 75 ((h2.1 59 27) - 1)))] d_MO_unwinds_44 (by decide) rfl rfl ?_
        refine A_aload_n d_MO_unwinds_45 rfl ?_
        refine A_dup rfl d_MO_unwinds_46 ?_
        refine A_get (v := .int (h2.1 59 28)) d_MO_unwinds_47 (fo_MO_142_12 rfl) (vA_s (by decide)) rfl (by first | rfl | (show Value.int _ = Value.int _; simp [wI, wL, wR, wC, up])) ?_
        refine A_iload_n d_MO_unwinds_50 rfl ?_
        refine A_bipush 13 (by decide) d_MO_unwinds_51 ?_
        refine A_icmp_eq 62 d_MO_unwinds_53 (by decide) (fun z => ?_) (fun z => ?_)
        · have H := H.1 z
          exact r_MO_unwinds_62  k0 _ _ _ _ H
        · have H := H.2 z
          refine A_iload_n d_MO_unwinds_56 rfl ?_
          refine A_bipush 19 (by decide) d_MO_unwinds_57 ?_
          refine A_icmp_ne 66 d_MO_unwinds_59 (by decide) (fun z => ?_) (fun z => ?_)
          · have H := H.1 z
            refine A_iconst 0 (by decide) d_MO_unwinds_66 ?_
            exact r_MO_unwinds_67  k0 _ _ _ _ _ H
          · have H := H.2 z
            exact r_MO_unwinds_62  k0 _ _ _ _ H
set_option maxRecDepth 20000 in
theorem r_MO_unwinds_e {G : GG} {d : Nat} {Q : AH → Prop} (x1 : Int32) (h : AH) (H : p_MO_unwinds Q x1 h) : Att G T1 m_MO_unwinds (d + 1) 0 [some (.ref 59), some (.int x1), none] [] h 0 0 (vQ Q) := by
  obtain ⟨n9, H⟩ := H
  exact r_MO_unwinds_0   n9 _ _ H
set_option maxRecDepth 20000 in
theorem ok_MO_unwinds {G : GG} {d : Nat} {Q : AH → Prop} {x1 : Int32} {h : AH} (H : p_MO_unwinds Q x1 h) : WP G T1 m_MO_unwinds (d + 1) [.ref 59, .int x1] h 0 0 (vQ Q) := by
  exact WP.enter 1 (by decide) rfl rfl (r_MO_unwinds_e x1 h H)
theorem d_MO_opensOne_0 : decode prog_14_method_18_code 0 = .ok (.aload_n 0, 1) := by decide +kernel
theorem d_MO_opensOne_1 : decode prog_14_method_18_code 1 = .ok (.getfield 142, 3) := by decide +kernel
theorem d_MO_opensOne_4 : decode prog_14_method_18_code 4 = .ok (.iconst 5, 1) := by decide +kernel
theorem d_MO_opensOne_5 : decode prog_14_method_18_code 5 = .ok (.if_icmp .ne 5, 3) := by decide +kernel
theorem d_MO_opensOne_8 : decode prog_14_method_18_code 8 = .ok (.iconst 0, 1) := by decide +kernel
theorem d_MO_opensOne_9 : decode prog_14_method_18_code 9 = .ok (.ireturn, 1) := by decide +kernel
theorem d_MO_opensOne_10 : decode prog_14_method_18_code 10 = .ok (.aload_n 0, 1) := by decide +kernel
theorem d_MO_opensOne_11 : decode prog_14_method_18_code 11 = .ok (.dup, 1) := by decide +kernel
theorem d_MO_opensOne_12 : decode prog_14_method_18_code 12 = .ok (.getfield 142, 3) := by decide +kernel
theorem d_MO_opensOne_15 : decode prog_14_method_18_code 15 = .ok (.iconst 1, 1) := by decide +kernel
theorem d_MO_opensOne_16 : decode prog_14_method_18_code 16 = .ok (.iadd, 1) := by decide +kernel
theorem d_MO_opensOne_17 : decode prog_14_method_18_code 17 = .ok (.putfield 142, 3) := by decide +kernel
theorem d_MO_opensOne_20 : decode prog_14_method_18_code 20 = .ok (.aload_n 0, 1) := by decide +kernel
theorem d_MO_opensOne_21 : decode prog_14_method_18_code 21 = .ok (.iload_n 1, 1) := by decide +kernel
theorem d_MO_opensOne_22 : decode prog_14_method_18_code 22 = .ok (.invokevirtual 149, 3) := by decide +kernel
theorem d_MO_opensOne_25 : decode prog_14_method_18_code 25 = .ok (.iconst 1, 1) := by decide +kernel
theorem d_MO_opensOne_26 : decode prog_14_method_18_code 26 = .ok (.ireturn, 1) := by decide +kernel
def p_MO_opensOne (Q : Int32 → AH → Prop) (x1 : Int32) (h : AH) : Prop := ((¬ (h.1 59 28) = 5 → p_MO_holds (fun h1 => Q 1 h1) x1 (wI h 59 28 ((h.1 59 28) + 1))) ∧ ((h.1 59 28) = 5 → Q 0 h))
set_option maxRecDepth 20000 in
theorem r_MO_opensOne_0 {G : GG} {d : Nat} {Q : Int32 → AH → Prop} (x1 : Int32) (h : AH) (H : p_MO_opensOne Q x1 h) : Att G T1 m_MO_opensOne (d + 1) 0 [some (.ref 59), some (.int x1)] [] h 0 0 (iQ Q) := by
  refine A_aload_n d_MO_opensOne_0 rfl ?_
  refine A_get (v := .int (h.1 59 28)) d_MO_opensOne_1 (fo_MO_142_12 rfl) (vA_s (by decide)) rfl (by first | rfl | (show Value.int _ = Value.int _; simp [wI, wL, wR, wC, up])) ?_
  refine A_iconst 5 (by decide) d_MO_opensOne_4 ?_
  refine A_icmp_ne 10 d_MO_opensOne_5 (by decide) (fun z => ?_) (fun z => ?_)
  · have H := H.1 z
    refine A_aload_n d_MO_opensOne_10 rfl ?_
    refine A_dup rfl d_MO_opensOne_11 ?_
    refine A_get (v := .int (h.1 59 28)) d_MO_opensOne_12 (fo_MO_142_12 rfl) (vA_s (by decide)) rfl (by first | rfl | (show Value.int _ = Value.int _; simp [wI, wL, wR, wC, up])) ?_
    refine A_iconst 1 (by decide) d_MO_opensOne_15 ?_
    refine A_iadd d_MO_opensOne_16 ?_
    refine A_putI (k := 28) d_MO_opensOne_17 (fo_MO_142_12 rfl) (Or.inr ⟨rfl, _, ft_12_28⟩) (fun z => by cases z) rfl (vA_s (by decide)) rfl rfl rfl ?_
    refine A_aload_n d_MO_opensOne_20 rfl ?_
    refine A_iload_n d_MO_opensOne_21 rfl ?_
    refine A_cV [.ref 59, .int x1] [] (ct_MO_149 rfl) d_MO_opensOne_22 rfl rfl (by decide) (Nat.le_of_ble_eq_true rfl) (rcA_o (c := 12) rfl (vA_s (by decide)) rfl (by decide) rfl) (ok_MO_holds (d := d) H) (fun h1 H => ?_)
    refine A_iconst 1 (by decide) d_MO_opensOne_25 ?_
    exact A_iret d_MO_opensOne_26 rfl rfl H
  · have H := H.2 z
    refine A_iconst 0 (by decide) d_MO_opensOne_8 ?_
    exact A_iret d_MO_opensOne_9 rfl rfl H
set_option maxRecDepth 20000 in
theorem ok_MO_opensOne {G : GG} {d : Nat} {Q : Int32 → AH → Prop} {x1 : Int32} {h : AH} (H : p_MO_opensOne Q x1 h) : WP G T1 m_MO_opensOne (d + 1) [.ref 59, .int x1] h 0 0 (iQ Q) := by
  exact WP.enter 0 (by decide) rfl rfl (r_MO_opensOne_0 x1 h H)
