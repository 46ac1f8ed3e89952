theorem d_Dusk_says_0 : decode prog_4_method_12_code 0 = .ok (.aload_n 0, 1) := by decide +kernel
theorem d_Dusk_says_1 : decode prog_4_method_12_code 1 = .ok (.getfield 39, 3) := by decide +kernel
theorem d_Dusk_says_4 : decode prog_4_method_12_code 4 = .ok (.iconst 0, 1) := by decide +kernel
theorem d_Dusk_says_5 : decode prog_4_method_12_code 5 = .ok (.aload_n 0, 1) := by decide +kernel
theorem d_Dusk_says_6 : decode prog_4_method_12_code 6 = .ok (.getfield 20, 3) := by decide +kernel
theorem d_Dusk_says_9 : decode prog_4_method_12_code 9 = .ok (.iload_n 2, 1) := by decide +kernel
theorem d_Dusk_says_10 : decode prog_4_method_12_code 10 = .ok (.aaload, 1) := by decide +kernel
theorem d_Dusk_says_11 : decode prog_4_method_12_code 11 = .ok (.getfield 115, 3) := by decide +kernel
theorem d_Dusk_says_14 : decode prog_4_method_12_code 14 = .ok (.iastore, 1) := by decide +kernel
theorem d_Dusk_says_15 : decode prog_4_method_12_code 15 = .ok (.aload_n 0, 1) := by decide +kernel
theorem d_Dusk_says_16 : decode prog_4_method_12_code 16 = .ok (.getfield 39, 3) := by decide +kernel
theorem d_Dusk_says_19 : decode prog_4_method_12_code 19 = .ok (.iconst 1, 1) := by decide +kernel
theorem d_Dusk_says_20 : decode prog_4_method_12_code 20 = .ok (.aload_n 0, 1) := by decide +kernel
theorem d_Dusk_says_21 : decode prog_4_method_12_code 21 = .ok (.getfield 12, 3) := by decide +kernel
theorem d_Dusk_says_24 : decode prog_4_method_12_code 24 = .ok (.getfield 118, 3) := by decide +kernel
theorem d_Dusk_says_27 : decode prog_4_method_12_code 27 = .ok (.iload_n 2, 1) := by decide +kernel
theorem d_Dusk_says_28 : decode prog_4_method_12_code 28 = .ok (.iaload, 1) := by decide +kernel
theorem d_Dusk_says_29 : decode prog_4_method_12_code 29 = .ok (.iastore, 1) := by decide +kernel
theorem d_Dusk_says_30 : decode prog_4_method_12_code 30 = .ok (.aload_n 0, 1) := by decide +kernel
theorem d_Dusk_says_31 : decode prog_4_method_12_code 31 = .ok (.getfield 39, 3) := by decide +kernel
theorem d_Dusk_says_34 : decode prog_4_method_12_code 34 = .ok (.iconst 2, 1) := by decide +kernel
theorem d_Dusk_says_35 : decode prog_4_method_12_code 35 = .ok (.aload_n 0, 1) := by decide +kernel
theorem d_Dusk_says_36 : decode prog_4_method_12_code 36 = .ok (.getfield 20, 3) := by decide +kernel
theorem d_Dusk_says_39 : decode prog_4_method_12_code 39 = .ok (.iload_n 2, 1) := by decide +kernel
theorem d_Dusk_says_40 : decode prog_4_method_12_code 40 = .ok (.aaload, 1) := by decide +kernel
theorem d_Dusk_says_41 : decode prog_4_method_12_code 41 = .ok (.getfield 121, 3) := by decide +kernel
theorem d_Dusk_says_44 : decode prog_4_method_12_code 44 = .ok (.iastore, 1) := by decide +kernel
theorem d_Dusk_says_45 : decode prog_4_method_12_code 45 = .ok (.aload_n 0, 1) := by decide +kernel
theorem d_Dusk_says_46 : decode prog_4_method_12_code 46 = .ok (.getfield 39, 3) := by decide +kernel
theorem d_Dusk_says_49 : decode prog_4_method_12_code 49 = .ok (.iconst 3, 1) := by decide +kernel
theorem d_Dusk_says_50 : decode prog_4_method_12_code 50 = .ok (.aload_n 0, 1) := by decide +kernel
theorem d_Dusk_says_51 : decode prog_4_method_12_code 51 = .ok (.getfield 12, 3) := by decide +kernel
theorem d_Dusk_says_54 : decode prog_4_method_12_code 54 = .ok (.getfield 78, 3) := by decide +kernel
theorem d_Dusk_says_57 : decode prog_4_method_12_code 57 = .ok (.iload_n 2, 1) := by decide +kernel
theorem d_Dusk_says_58 : decode prog_4_method_12_code 58 = .ok (.iaload, 1) := by decide +kernel
theorem d_Dusk_says_59 : decode prog_4_method_12_code 59 = .ok (.iastore, 1) := by decide +kernel
theorem d_Dusk_says_60 : decode prog_4_method_12_code 60 = .ok (.aload_n 0, 1) := by decide +kernel
theorem d_Dusk_says_61 : decode prog_4_method_12_code 61 = .ok (.getfield 39, 3) := by decide +kernel
theorem d_Dusk_says_64 : decode prog_4_method_12_code 64 = .ok (.iconst 4, 1) := by decide +kernel
theorem d_Dusk_says_65 : decode prog_4_method_12_code 65 = .ok (.iload_n 3, 1) := by decide +kernel
theorem d_Dusk_says_66 : decode prog_4_method_12_code 66 = .ok (.iastore, 1) := by decide +kernel
theorem d_Dusk_says_67 : decode prog_4_method_12_code 67 = .ok (.aload_n 0, 1) := by decide +kernel
theorem d_Dusk_says_68 : decode prog_4_method_12_code 68 = .ok (.getfield 39, 3) := by decide +kernel
theorem d_Dusk_says_71 : decode prog_4_method_12_code 71 = .ok (.iconst 5, 1) := by decide +kernel
theorem d_Dusk_says_72 : decode prog_4_method_12_code 72 = .ok (.iload 4, 2) := by decide +kernel
theorem d_Dusk_says_74 : decode prog_4_method_12_code 74 = .ok (.iastore, 1) := by decide +kernel
theorem d_Dusk_says_75 : decode prog_4_method_12_code 75 = .ok (.aload_n 0, 1) := by decide +kernel
theorem d_Dusk_says_76 : decode prog_4_method_12_code 76 = .ok (.getfield 49, 3) := by decide +kernel
theorem d_Dusk_says_79 : decode prog_4_method_12_code 79 = .ok (.iload_n 1, 1) := by decide +kernel
theorem d_Dusk_says_80 : decode prog_4_method_12_code 80 = .ok (.aload_n 0, 1) := by decide +kernel
theorem d_Dusk_says_81 : decode prog_4_method_12_code 81 = .ok (.getfield 39, 3) := by decide +kernel
theorem d_Dusk_says_84 : decode prog_4_method_12_code 84 = .ok (.aload_n 0, 1) := by decide +kernel
theorem d_Dusk_says_85 : decode prog_4_method_12_code 85 = .ok (.getfield 42, 3) := by decide +kernel
theorem d_Dusk_says_88 : decode prog_4_method_12_code 88 = .ok (.invokevirtual 124, 3) := by decide +kernel
theorem d_Dusk_says_91 : decode prog_4_method_12_code 91 = .ok (.ireturn, 1) := by decide +kernel
def p_Dusk_says (Q : Int32 → AH → Prop) (x1 : Int32) (x2 : Int32) (x3 : Int32) (x4 : Int32) (h : AH) : Prop := inb x2 7 ∧ 0 < rR T1 h 18 x2.toNatClampNeg ∧ famA T1 h (rR T1 h 18 x2.toNatClampNeg - 1) ∧ 0 < rR T1 (wI (wI h 23 0 (h.1 (rR T1 h 18 x2.toNatClampNeg - 1) 1)) 23 1 ((wI h 23 0 (h.1 (rR T1 h 18 x2.toNatClampNeg - 1) 1)).1 16 x2)) 18 x2.toNatClampNeg ∧ famA T1 (wI (wI h 23 0 (h.1 (rR T1 h 18 x2.toNatClampNeg - 1) 1)) 23 1 ((wI h 23 0 (h.1 (rR T1 h 18 x2.toNatClampNeg - 1) 1)).1 16 x2)) (rR T1 (wI (wI h 23 0 (h.1 (rR T1 h 18 x2.toNatClampNeg - 1) 1)) 23 1 ((wI h 23 0 (h.1 (rR T1 h 18 x2.toNatClampNeg - 1) 1)).1 16 x2)) 18 x2.toNatClampNeg - 1) ∧ 0 < rR T1 (wI (wI (wI (wI (wI (wI h 23 0 (h.1 (rR T1 h 18 x2.toNatClampNeg - 1) 1)) 23 1 ((wI h 23 0 (h.1 (rR T1 h 18 x2.toNatClampNeg - 1) 1)).1 16 x2)) 23 2 ((wI (wI h 23 0 (h.1 (rR T1 h 18 x2.toNatClampNeg - 1) 1)) 23 1 ((wI h 23 0 (h.1 (rR T1 h 18 x2.toNatClampNeg - 1) 1)).1 16 x2)).1 (rR T1 (wI (wI h 23 0 (h.1 (rR T1 h 18 x2.toNatClampNeg - 1) 1)) 23 1 ((wI h 23 0 (h.1 (rR T1 h 18 x2.toNatClampNeg - 1) 1)).1 16 x2)) 18 x2.toNatClampNeg - 1) 2)) 23 3 ((wI (wI (wI h 23 0 (h.1 (rR T1 h 18 x2.toNatClampNeg - 1) 1)) 23 1 ((wI h 23 0 (h.1 (rR T1 h 18 x2.toNatClampNeg - 1) 1)).1 16 x2)) 23 2 ((wI (wI h 23 0 (h.1 (rR T1 h 18 x2.toNatClampNeg - 1) 1)) 23 1 ((wI h 23 0 (h.1 (rR T1 h 18 x2.toNatClampNeg - 1) 1)).1 16 x2)).1 (rR T1 (wI (wI h 23 0 (h.1 (rR T1 h 18 x2.toNatClampNeg - 1) 1)) 23 1 ((wI h 23 0 (h.1 (rR T1 h 18 x2.toNatClampNeg - 1) 1)).1 16 x2)) 18 x2.toNatClampNeg - 1) 2)).1 15 x2)) 23 4 x3) 23 5 x4) 13 8 ∧ vA T1 (wI (wI (wI (wI (wI (wI h 23 0 (h.1 (rR T1 h 18 x2.toNatClampNeg - 1) 1)) 23 1 ((wI h 23 0 (h.1 (rR T1 h 18 x2.toNatClampNeg - 1) 1)).1 16 x2)) 23 2 ((wI (wI h 23 0 (h.1 (rR T1 h 18 x2.toNatClampNeg - 1) 1)) 23 1 ((wI h 23 0 (h.1 (rR T1 h 18 x2.toNatClampNeg - 1) 1)).1 16 x2)).1 (rR T1 (wI (wI h 23 0 (h.1 (rR T1 h 18 x2.toNatClampNeg - 1) 1)) 23 1 ((wI h 23 0 (h.1 (rR T1 h 18 x2.toNatClampNeg - 1) 1)).1 16 x2)) 18 x2.toNatClampNeg - 1) 2)) 23 3 ((wI (wI (wI h 23 0 (h.1 (rR T1 h 18 x2.toNatClampNeg - 1) 1)) 23 1 ((wI h 23 0 (h.1 (rR T1 h 18 x2.toNatClampNeg - 1) 1)).1 16 x2)) 23 2 ((wI (wI h 23 0 (h.1 (rR T1 h 18 x2.toNatClampNeg - 1) 1)) 23 1 ((wI h 23 0 (h.1 (rR T1 h 18 x2.toNatClampNeg - 1) 1)).1 16 x2)).1 (rR T1 (wI (wI h 23 0 (h.1 (rR T1 h 18 x2.toNatClampNeg - 1) 1)) 23 1 ((wI h 23 0 (h.1 (rR T1 h 18 x2.toNatClampNeg - 1) 1)).1 16 x2)) 18 x2.toNatClampNeg - 1) 2)).1 15 x2)) 23 4 x3) 23 5 x4) (rR T1 (wI (wI (wI (wI (wI (wI h 23 0 (h.1 (rR T1 h 18 x2.toNatClampNeg - 1) 1)) 23 1 ((wI h 23 0 (h.1 (rR T1 h 18 x2.toNatClampNeg - 1) 1)).1 16 x2)) 23 2 ((wI (wI h 23 0 (h.1 (rR T1 h 18 x2.toNatClampNeg - 1) 1)) 23 1 ((wI h 23 0 (h.1 (rR T1 h 18 x2.toNatClampNeg - 1) 1)).1 16 x2)).1 (rR T1 (wI (wI h 23 0 (h.1 (rR T1 h 18 x2.toNatClampNeg - 1) 1)) 23 1 ((wI h 23 0 (h.1 (rR T1 h 18 x2.toNatClampNeg - 1) 1)).1 16 x2)) 18 x2.toNatClampNeg - 1) 2)) 23 3 ((wI (wI (wI h 23 0 (h.1 (rR T1 h 18 x2.toNatClampNeg - 1) 1)) 23 1 ((wI h 23 0 (h.1 (rR T1 h 18 x2.toNatClampNeg - 1) 1)).1 16 x2)) 23 2 ((wI (wI h 23 0 (h.1 (rR T1 h 18 x2.toNatClampNeg - 1) 1)) 23 1 ((wI h 23 0 (h.1 (rR T1 h 18 x2.toNatClampNeg - 1) 1)).1 16 x2)).1 (rR T1 (wI (wI h 23 0 (h.1 (rR T1 h 18 x2.toNatClampNeg - 1) 1)) 23 1 ((wI h 23 0 (h.1 (rR T1 h 18 x2.toNatClampNeg - 1) 1)).1 16 x2)) 18 x2.toNatClampNeg - 1) 2)).1 15 x2)) 23 4 x3) 23 5 x4) 13 8 - 1) ∧ (rS T1 (wI (wI (wI (wI (wI (wI h 23 0 (h.1 (rR T1 h 18 x2.toNatClampNeg - 1) 1)) 23 1 ((wI h 23 0 (h.1 (rR T1 h 18 x2.toNatClampNeg - 1) 1)).1 16 x2)) 23 2 ((wI (wI h 23 0 (h.1 (rR T1 h 18 x2.toNatClampNeg - 1) 1)) 23 1 ((wI h 23 0 (h.1 (rR T1 h 18 x2.toNatClampNeg - 1) 1)).1 16 x2)).1 (rR T1 (wI (wI h 23 0 (h.1 (rR T1 h 18 x2.toNatClampNeg - 1) 1)) 23 1 ((wI h 23 0 (h.1 (rR T1 h 18 x2.toNatClampNeg - 1) 1)).1 16 x2)) 18 x2.toNatClampNeg - 1) 2)) 23 3 ((wI (wI (wI h 23 0 (h.1 (rR T1 h 18 x2.toNatClampNeg - 1) 1)) 23 1 ((wI h 23 0 (h.1 (rR T1 h 18 x2.toNatClampNeg - 1) 1)).1 16 x2)) 23 2 ((wI (wI h 23 0 (h.1 (rR T1 h 18 x2.toNatClampNeg - 1) 1)) 23 1 ((wI h 23 0 (h.1 (rR T1 h 18 x2.toNatClampNeg - 1) 1)).1 16 x2)).1 (rR T1 (wI (wI h 23 0 (h.1 (rR T1 h 18 x2.toNatClampNeg - 1) 1)) 23 1 ((wI h 23 0 (h.1 (rR T1 h 18 x2.toNatClampNeg - 1) 1)).1 16 x2)) 18 x2.toNatClampNeg - 1) 2)).1 15 x2)) 23 4 x3) 23 5 x4) (rR T1 (wI (wI (wI (wI (wI (wI h 23 0 (h.1 (rR T1 h 18 x2.toNatClampNeg - 1) 1)) 23 1 ((wI h 23 0 (h.1 (rR T1 h 18 x2.toNatClampNeg - 1) 1)).1 16 x2)) 23 2 ((wI (wI h 23 0 (h.1 (rR T1 h 18 x2.toNatClampNeg - 1) 1)) 23 1 ((wI h 23 0 (h.1 (rR T1 h 18 x2.toNatClampNeg - 1) 1)).1 16 x2)).1 (rR T1 (wI (wI h 23 0 (h.1 (rR T1 h 18 x2.toNatClampNeg - 1) 1)) 23 1 ((wI h 23 0 (h.1 (rR T1 h 18 x2.toNatClampNeg - 1) 1)).1 16 x2)) 18 x2.toNatClampNeg - 1) 2)) 23 3 ((wI (wI (wI h 23 0 (h.1 (rR T1 h 18 x2.toNatClampNeg - 1) 1)) 23 1 ((wI h 23 0 (h.1 (rR T1 h 18 x2.toNatClampNeg - 1) 1)).1 16 x2)) 23 2 ((wI (wI h 23 0 (h.1 (rR T1 h 18 x2.toNatClampNeg - 1) 1)) 23 1 ((wI h 23 0 (h.1 (rR T1 h 18 x2.toNatClampNeg - 1) 1)).1 16 x2)).1 (rR T1 (wI (wI h 23 0 (h.1 (rR T1 h 18 x2.toNatClampNeg - 1) 1)) 23 1 ((wI h 23 0 (h.1 (rR T1 h 18 x2.toNatClampNeg - 1) 1)).1 16 x2)) 18 x2.toNatClampNeg - 1) 2)).1 15 x2)) 23 4 x3) 23 5 x4) 13 8 - 1)).1 = 6 ∧ p_Law_answer (fun r10 h9 => Q r10 h9) (rR T1 (wI (wI (wI (wI (wI (wI h 23 0 (h.1 (rR T1 h 18 x2.toNatClampNeg - 1) 1)) 23 1 ((wI h 23 0 (h.1 (rR T1 h 18 x2.toNatClampNeg - 1) 1)).1 16 x2)) 23 2 ((wI (wI h 23 0 (h.1 (rR T1 h 18 x2.toNatClampNeg - 1) 1)) 23 1 ((wI h 23 0 (h.1 (rR T1 h 18 x2.toNatClampNeg - 1) 1)).1 16 x2)).1 (rR T1 (wI (wI h 23 0 (h.1 (rR T1 h 18 x2.toNatClampNeg - 1) 1)) 23 1 ((wI h 23 0 (h.1 (rR T1 h 18 x2.toNatClampNeg - 1) 1)).1 16 x2)) 18 x2.toNatClampNeg - 1) 2)) 23 3 ((wI (wI (wI h 23 0 (h.1 (rR T1 h 18 x2.toNatClampNeg - 1) 1)) 23 1 ((wI h 23 0 (h.1 (rR T1 h 18 x2.toNatClampNeg - 1) 1)).1 16 x2)) 23 2 ((wI (wI h 23 0 (h.1 (rR T1 h 18 x2.toNatClampNeg - 1) 1)) 23 1 ((wI h 23 0 (h.1 (rR T1 h 18 x2.toNatClampNeg - 1) 1)).1 16 x2)).1 (rR T1 (wI (wI h 23 0 (h.1 (rR T1 h 18 x2.toNatClampNeg - 1) 1)) 23 1 ((wI h 23 0 (h.1 (rR T1 h 18 x2.toNatClampNeg - 1) 1)).1 16 x2)) 18 x2.toNatClampNeg - 1) 2)).1 15 x2)) 23 4 x3) 23 5 x4) 13 8 - 1) x1 23 24 (wI (wI (wI (wI (wI (wI h 23 0 (h.1 (rR T1 h 18 x2.toNatClampNeg - 1) 1)) 23 1 ((wI h 23 0 (h.1 (rR T1 h 18 x2.toNatClampNeg - 1) 1)).1 16 x2)) 23 2 ((wI (wI h 23 0 (h.1 (rR T1 h 18 x2.toNatClampNeg - 1) 1)) 23 1 ((wI h 23 0 (h.1 (rR T1 h 18 x2.toNatClampNeg - 1) 1)).1 16 x2)).1 (rR T1 (wI (wI h 23 0 (h.1 (rR T1 h 18 x2.toNatClampNeg - 1) 1)) 23 1 ((wI h 23 0 (h.1 (rR T1 h 18 x2.toNatClampNeg - 1) 1)).1 16 x2)) 18 x2.toNatClampNeg - 1) 2)) 23 3 ((wI (wI (wI h 23 0 (h.1 (rR T1 h 18 x2.toNatClampNeg - 1) 1)) 23 1 ((wI h 23 0 (h.1 (rR T1 h 18 x2.toNatClampNeg - 1) 1)).1 16 x2)) 23 2 ((wI (wI h 23 0 (h.1 (rR T1 h 18 x2.toNatClampNeg - 1) 1)) 23 1 ((wI h 23 0 (h.1 (rR T1 h 18 x2.toNatClampNeg - 1) 1)).1 16 x2)).1 (rR T1 (wI (wI h 23 0 (h.1 (rR T1 h 18 x2.toNatClampNeg - 1) 1)) 23 1 ((wI h 23 0 (h.1 (rR T1 h 18 x2.toNatClampNeg - 1) 1)).1 16 x2)) 18 x2.toNatClampNeg - 1) 2)).1 15 x2)) 23 4 x3) 23 5 x4)
set_option maxRecDepth 20000 in
theorem r_Dusk_says_0 {G : GG} {d : Nat} {Q : Int32 → AH → Prop} (x1 : Int32) (x2 : Int32) (x3 : Int32) (x4 : Int32) (h : AH) (H : p_Dusk_says Q x1 x2 x3 x4 h) : Att G T1 m_Dusk_says (d + 2) 0 [some (.ref 13), some (.int x1), some (.int x2), some (.int x3), some (.int x4)] [] h 0 0 (iQ Q) := by
  refine A_aload_n d_Dusk_says_0 rfl ?_
  refine A_get (v := .ref 23) d_Dusk_says_1 (fo_Dusk_39_2 rfl) (vA_s (by decide)) rfl rfl ?_
  refine A_iconst 0 (by decide) d_Dusk_says_4 ?_
  refine A_aload_n d_Dusk_says_5 rfl ?_
  refine A_get (v := .ref 18) d_Dusk_says_6 (fo_Dusk_20_2 rfl) (vA_s (by decide)) rfl rfl ?_
  refine A_iload_n d_Dusk_says_9 rfl ?_
  obtain ⟨c1, H⟩ := H
  obtain ⟨c2, H⟩ := H
  refine A_aald (t := 0) (n := 7) d_Dusk_says_10 (by decide) (vA_s (by decide)) rfl c1 (pos_sub c2) ?_
  obtain ⟨c3, H⟩ := H
  refine A_getH (k := 1) d_Dusk_says_11 (foh_Dusk_115 rfl) c3 ?_
  refine A_iast (n := 6) d_Dusk_says_14 (vA_s (by decide)) rfl (by decide) ?_
  refine A_aload_n d_Dusk_says_15 rfl ?_
  refine A_get (v := .ref 23) d_Dusk_says_16 (fo_Dusk_39_2 rfl) (vA_s (by decide)) rfl rfl ?_
  refine A_iconst 1 (by decide) d_Dusk_says_19 ?_
  refine A_aload_n d_Dusk_says_20 rfl ?_
  refine A_get (v := .ref 14) d_Dusk_says_21 (fo_Dusk_12_2 rfl) (vA_s (by decide)) rfl rfl ?_
  refine A_get (v := .ref 16) d_Dusk_says_24 (fo_Dusk_118_10 rfl) (vA_s (by decide)) rfl rfl ?_
  refine A_iload_n d_Dusk_says_27 rfl ?_
  refine A_iald (n := 7) d_Dusk_says_28 (vA_s (by decide)) rfl c1 ?_
  refine A_iast (n := 6) d_Dusk_says_29 (vA_s (by decide)) rfl (by decide) ?_
  refine A_aload_n d_Dusk_says_30 rfl ?_
  refine A_get (v := .ref 23) d_Dusk_says_31 (fo_Dusk_39_2 rfl) (vA_s (by decide)) rfl rfl ?_
  refine A_iconst 2 (by decide) d_Dusk_says_34 ?_
  refine A_aload_n d_Dusk_says_35 rfl ?_
  refine A_get (v := .ref 18) d_Dusk_says_36 (fo_Dusk_20_2 rfl) (vA_s (by decide)) rfl rfl ?_
  refine A_iload_n d_Dusk_says_39 rfl ?_
  obtain ⟨c4, H⟩ := H
  refine A_aald (t := 0) (n := 7) d_Dusk_says_40 (by decide) (vA_s (by decide)) rfl c1 (pos_sub c4) ?_
  obtain ⟨c5, H⟩ := H
  refine A_getH (k := 2) d_Dusk_says_41 (foh_Dusk_121 rfl) c5 ?_
  refine A_iast (n := 6) d_Dusk_says_44 (vA_s (by decide)) rfl (by decide) ?_
  refine A_aload_n d_Dusk_says_45 rfl ?_
  refine A_get (v := .ref 23) d_Dusk_says_46 (fo_Dusk_39_2 rfl) (vA_s (by decide)) rfl rfl ?_
  refine A_iconst 3 (by decide) d_Dusk_says_49 ?_
  refine A_aload_n d_Dusk_says_50 rfl ?_
  refine A_get (v := .ref 14) d_Dusk_says_51 (fo_Dusk_12_2 rfl) (vA_s (by decide)) rfl rfl ?_
  refine A_get (v := .ref 15) d_Dusk_says_54 (fo_Dusk_78_10 rfl) (vA_s (by decide)) rfl rfl ?_
  refine A_iload_n d_Dusk_says_57 rfl ?_
  refine A_iald (n := 7) d_Dusk_says_58 (vA_s (by decide)) rfl c1 ?_
  refine A_iast (n := 6) d_Dusk_says_59 (vA_s (by decide)) rfl (by decide) ?_
  refine A_aload_n d_Dusk_says_60 rfl ?_
  refine A_get (v := .ref 23) d_Dusk_says_61 (fo_Dusk_39_2 rfl) (vA_s (by decide)) rfl rfl ?_
  refine A_iconst 4 (by decide) d_Dusk_says_64 ?_
  refine A_iload_n d_Dusk_says_65 rfl ?_
  refine A_iast (n := 6) d_Dusk_says_66 (vA_s (by decide)) rfl (by decide) ?_
  refine A_aload_n d_Dusk_says_67 rfl ?_
  refine A_get (v := .ref 23) d_Dusk_says_68 (fo_Dusk_39_2 rfl) (vA_s (by decide)) rfl rfl ?_
  refine A_iconst 5 (by decide) d_Dusk_says_71 ?_
  refine A_iload d_Dusk_says_72 rfl ?_
  refine A_iast (n := 6) d_Dusk_says_74 (vA_s (by decide)) rfl (by decide) ?_
  refine A_aload_n d_Dusk_says_75 rfl ?_
  obtain ⟨c6, H⟩ := H
  refine A_get (v := .ref (rR T1 (wI (wI (wI (wI (wI (wI h 23 0 (h.1 (rR T1 h 18 x2.toNatClampNeg - 1) 1)) 23 1 ((wI h 23 0 (h.1 (rR T1 h 18 x2.toNatClampNeg - 1) 1)).1 16 x2)) 23 2 ((wI (wI h 23 0 (h.1 (rR T1 h 18 x2.toNatClampNeg - 1) 1)) 23 1 ((wI h 23 0 (h.1 (rR T1 h 18 x2.toNatClampNeg - 1) 1)).1 16 x2)).1 (rR T1 (wI (wI h 23 0 (h.1 (rR T1 h 18 x2.toNatClampNeg - 1) 1)) 23 1 ((wI h 23 0 (h.1 (rR T1 h 18 x2.toNatClampNeg - 1) 1)).1 16 x2)) 18 x2.toNatClampNeg - 1) 2)) 23 3 ((wI (wI (wI h 23 0 (h.1 (rR T1 h 18 x2.toNatClampNeg - 1) 1)) 23 1 ((wI h 23 0 (h.1 (rR T1 h 18 x2.toNatClampNeg - 1) 1)).1 16 x2)) 23 2 ((wI (wI h 23 0 (h.1 (rR T1 h 18 x2.toNatClampNeg - 1) 1)) 23 1 ((wI h 23 0 (h.1 (rR T1 h 18 x2.toNatClampNeg - 1) 1)).1 16 x2)).1 (rR T1 (wI (wI h 23 0 (h.1 (rR T1 h 18 x2.toNatClampNeg - 1) 1)) 23 1 ((wI h 23 0 (h.1 (rR T1 h 18 x2.toNatClampNeg - 1) 1)).1 16 x2)) 18 x2.toNatClampNeg - 1) 2)).1 15 x2)) 23 4 x3) 23 5 x4) 13 8 - 1)) d_Dusk_says_76 (fo_Dusk_49_2 rfl) (vA_s (by decide)) rfl (vR_pos c6) ?_
  refine A_iload_n d_Dusk_says_79 rfl ?_
  refine A_aload_n d_Dusk_says_80 rfl ?_
  refine A_get (v := .ref 23) d_Dusk_says_81 (fo_Dusk_39_2 rfl) (vA_s (by decide)) rfl rfl ?_
  refine A_aload_n d_Dusk_says_84 rfl ?_
  refine A_get (v := .ref 24) d_Dusk_says_85 (fo_Dusk_42_2 rfl) (vA_s (by decide)) rfl rfl ?_
  obtain ⟨c7, H⟩ := H
  obtain ⟨c8, H⟩ := H
  refine A_cI [.ref (rR T1 (wI (wI (wI (wI (wI (wI h 23 0 (h.1 (rR T1 h 18 x2.toNatClampNeg - 1) 1)) 23 1 ((wI h 23 0 (h.1 (rR T1 h 18 x2.toNatClampNeg - 1) 1)).1 16 x2)) 23 2 ((wI (wI h 23 0 (h.1 (rR T1 h 18 x2.toNatClampNeg - 1) 1)) 23 1 ((wI h 23 0 (h.1 (rR T1 h 18 x2.toNatClampNeg - 1) 1)).1 16 x2)).1 (rR T1 (wI (wI h 23 0 (h.1 (rR T1 h 18 x2.toNatClampNeg - 1) 1)) 23 1 ((wI h 23 0 (h.1 (rR T1 h 18 x2.toNatClampNeg - 1) 1)).1 16 x2)) 18 x2.toNatClampNeg - 1) 2)) 23 3 ((wI (wI (wI h 23 0 (h.1 (rR T1 h 18 x2.toNatClampNeg - 1) 1)) 23 1 ((wI h 23 0 (h.1 (rR T1 h 18 x2.toNatClampNeg - 1) 1)).1 16 x2)) 23 2 ((wI (wI h 23 0 (h.1 (rR T1 h 18 x2.toNatClampNeg - 1) 1)) 23 1 ((wI h 23 0 (h.1 (rR T1 h 18 x2.toNatClampNeg - 1) 1)).1 16 x2)).1 (rR T1 (wI (wI h 23 0 (h.1 (rR T1 h 18 x2.toNatClampNeg - 1) 1)) 23 1 ((wI h 23 0 (h.1 (rR T1 h 18 x2.toNatClampNeg - 1) 1)).1 16 x2)) 18 x2.toNatClampNeg - 1) 2)).1 15 x2)) 23 4 x3) 23 5 x4) 13 8 - 1), .int x1, .ref 23, .ref 24] [] (ct_Dusk_124 rfl) d_Dusk_says_88 rfl rfl (by decide) (Nat.le_of_ble_eq_true rfl) (rcA_o (c := 6) rfl c7 c8 (by decide) rfl) (ok_Law_answer (d := d) H) (fun r10 h9 H => ?_)
  exact A_iret d_Dusk_says_91 rfl rfl H
set_option maxRecDepth 20000 in
theorem ok_Dusk_says {G : GG} {d : Nat} {Q : Int32 → AH → Prop} {x1 : Int32} {x2 : Int32} {x3 : Int32} {x4 : Int32} {h : AH} (H : p_Dusk_says Q x1 x2 x3 x4 h) : WP G T1 m_Dusk_says (d + 2) [.ref 13, .int x1, .int x2, .int x3, .int x4] h 0 0 (iQ Q) := by
  exact WP.enter 0 (by decide) rfl rfl (r_Dusk_says_0 x1 x2 x3 x4 h H)
theorem d_UF_set_0 : decode prog_1_method_8_code 0 = .ok (.aload_n 0, 1) := by decide +kernel
theorem d_UF_set_1 : decode prog_1_method_8_code 1 = .ok (.iload_n 1, 1) := by decide +kernel
theorem d_UF_set_2 : decode prog_1_method_8_code 2 = .ok (.invokevirtual 107, 3) := by decide +kernel
theorem d_UF_set_5 : decode prog_1_method_8_code 5 = .ok (.ifCond .ne 6, 3) := by decide +kernel
theorem d_UF_set_8 : decode prog_1_method_8_code 8 = .ok (.bipush (-5), 2) := by decide +kernel
theorem d_UF_set_10 : decode prog_1_method_8_code 10 = .ok (.ireturn, 1) := by decide +kernel
theorem d_UF_set_11 : decode prog_1_method_8_code 11 = .ok (.iload_n 2, 1) := by decide +kernel
theorem d_UF_set_12 : decode prog_1_method_8_code 12 = .ok (.ifCond .ne 37, 3) := by decide +kernel
theorem d_UF_set_15 : decode prog_1_method_8_code 15 = .ok (.iload_n 3, 1) := by decide +kernel
theorem d_UF_set_16 : decode prog_1_method_8_code 16 = .ok (.iconst 0, 1) := by decide +kernel
theorem d_UF_set_17 : decode prog_1_method_8_code 17 = .ok (.bipush 9, 2) := by decide +kernel
theorem d_UF_set_19 : decode prog_1_method_8_code 19 = .ok (.invokestatic 95, 3) := by decide +kernel
theorem d_UF_set_22 : decode prog_1_method_8_code 22 = .ok (.ifCond .eq 27, 3) := by decide +kernel
theorem d_UF_set_25 : decode prog_1_method_8_code 25 = .ok (.aload_n 0, 1) := by decide +kernel
theorem d_UF_set_26 : decode prog_1_method_8_code 26 = .ok (.getfield 34, 3) := by decide +kernel
theorem d_UF_set_29 : decode prog_1_method_8_code 29 = .ok (.getfield 121, 3) := by decide +kernel
theorem d_UF_set_32 : decode prog_1_method_8_code 32 = .ok (.iload_n 1, 1) := by decide +kernel
theorem d_UF_set_33 : decode prog_1_method_8_code 33 = .ok (.iaload, 1) := by decide +kernel
theorem d_UF_set_34 : decode prog_1_method_8_code 34 = .ok (.istore 4, 2) := by decide +kernel
theorem d_UF_set_36 : decode prog_1_method_8_code 36 = .ok (.aload_n 0, 1) := by decide +kernel
theorem d_UF_set_37 : decode prog_1_method_8_code 37 = .ok (.getfield 34, 3) := by decide +kernel
theorem d_UF_set_40 : decode prog_1_method_8_code 40 = .ok (.getfield 121, 3) := by decide +kernel
theorem d_UF_set_43 : decode prog_1_method_8_code 43 = .ok (.iload_n 1, 1) := by decide +kernel
theorem d_UF_set_44 : decode prog_1_method_8_code 44 = .ok (.iload_n 3, 1) := by decide +kernel
theorem d_UF_set_45 : decode prog_1_method_8_code 45 = .ok (.iastore, 1) := by decide +kernel
theorem d_UF_set_46 : decode prog_1_method_8_code 46 = .ok (.iload 4, 2) := by decide +kernel
theorem d_UF_set_48 : decode prog_1_method_8_code 48 = .ok (.ireturn, 1) := by decide +kernel
theorem d_UF_set_49 : decode prog_1_method_8_code 49 = .ok (.iload_n 2, 1) := by decide +kernel
theorem d_UF_set_50 : decode prog_1_method_8_code 50 = .ok (.iconst 1, 1) := by decide +kernel
theorem d_UF_set_51 : decode prog_1_method_8_code 51 = .ok (.if_icmp .ne 37, 3) := by decide +kernel
theorem d_UF_set_54 : decode prog_1_method_8_code 54 = .ok (.iload_n 3, 1) := by decide +kernel
theorem d_UF_set_55 : decode prog_1_method_8_code 55 = .ok (.iconst 0, 1) := by decide +kernel
theorem d_UF_set_56 : decode prog_1_method_8_code 56 = .ok (.bipush 20, 2) := by decide +kernel
theorem d_UF_set_58 : decode prog_1_method_8_code 58 = .ok (.invokestatic 95, 3) := by decide +kernel
theorem d_UF_set_61 : decode prog_1_method_8_code 61 = .ok (.ifCond .eq 27, 3) := by decide +kernel
theorem d_UF_set_64 : decode prog_1_method_8_code 64 = .ok (.aload_n 0, 1) := by decide +kernel
theorem d_UF_set_65 : decode prog_1_method_8_code 65 = .ok (.getfield 34, 3) := by decide +kernel
theorem d_UF_set_68 : decode prog_1_method_8_code 68 = .ok (.getfield 124, 3) := by decide +kernel
theorem d_UF_set_71 : decode prog_1_method_8_code 71 = .ok (.iload_n 1, 1) := by decide +kernel
theorem d_UF_set_72 : decode prog_1_method_8_code 72 = .ok (.iaload, 1) := by decide +kernel
theorem d_UF_set_73 : decode prog_1_method_8_code 73 = .ok (.istore 4, 2) := by decide +kernel
theorem d_UF_set_75 : decode prog_1_method_8_code 75 = .ok (.aload_n 0, 1) := by decide +kernel
theorem d_UF_set_76 : decode prog_1_method_8_code 76 = .ok (.getfield 34, 3) := by decide +kernel
theorem d_UF_set_79 : decode prog_1_method_8_code 79 = .ok (.getfield 124, 3) := by decide +kernel
theorem d_UF_set_82 : decode prog_1_method_8_code 82 = .ok (.iload_n 1, 1) := by decide +kernel
theorem d_UF_set_83 : decode prog_1_method_8_code 83 = .ok (.iload_n 3, 1) := by decide +kernel
theorem d_UF_set_84 : decode prog_1_method_8_code 84 = .ok (.iastore, 1) := by decide +kernel
theorem d_UF_set_85 : decode prog_1_method_8_code 85 = .ok (.iload 4, 2) := by decide +kernel
theorem d_UF_set_87 : decode prog_1_method_8_code 87 = .ok (.ireturn, 1) := by decide +kernel
theorem d_UF_set_88 : decode prog_1_method_8_code 88 = .ok (.bipush (-7), 2) := by decide +kernel
theorem d_UF_set_90 : decode prog_1_method_8_code 90 = .ok (.ireturn, 1) := by decide +kernel
def p_UF_set_49 (Q : Int32 → AH → Prop) (x1 : Int32) (x2 : Int32) (x3 : Int32) (h : AH) : Prop := ((¬ x2 = 1 → Q (-7) h) ∧ (x2 = 1 → p_UF_within (fun r2 h1 => ((r2 = 0 → Q (-7) h1) ∧ (¬ r2 = 0 → inb x1 7 ∧ Q (h1.1 7 x1) (wI h1 7 x1 x3)))) x3 0 20 h))
def p_UF_set (Q : Int32 → AH → Prop) (x1 : Int32) (x2 : Int32) (x3 : Int32) (h : AH) : Prop := p_UF_isHouse (fun r2 h1 => ((¬ r2 = 0 → ((¬ x2 = 0 → p_UF_set_49 Q   x1 x2 x3 h1) ∧ (x2 = 0 → p_UF_within (fun r4 h3 => ((r4 = 0 → p_UF_set_49 Q   x1 x2 x3 h3) ∧ (¬ r4 = 0 → inb x1 7 ∧ Q (h3.1 6 x1) (wI h3 6 x1 x3)))) x3 0 9 h1))) ∧ (r2 = 0 → Q (-5) h1))) x1 h
set_option maxRecDepth 20000 in
theorem r_UF_set_49 {G : GG} {d : Nat} {Q : Int32 → AH → Prop} (x1 : Int32) (x2 : Int32) (x3 : Int32) (h : AH) (H : p_UF_set_49 Q x1 x2 x3 h) : Att G T1 m_UF_set (d + 2) 49 [some (.ref 0), some (.int x1), some (.int x2), some (.int x3), none] [] h 0 0 (iQ Q) := by
  refine A_iload_n d_UF_set_49 rfl ?_
  refine A_iconst 1 (by decide) d_UF_set_50 ?_
  refine A_icmp_ne 88 d_UF_set_51 (by decide) (fun z => ?_) (fun z => ?_)
  · have H := H.1 z
    refine A_bipush (-7) (by decide) d_UF_set_88 ?_
    exact A_iret d_UF_set_90 rfl rfl H
  · have H := H.2 z
    refine A_iload_n d_UF_set_54 rfl ?_
    refine A_iconst 0 (by decide) d_UF_set_55 ?_
    refine A_bipush 20 (by decide) d_UF_set_56 ?_
    refine A_cI [.int x3, .int 0, .int 20] [] (ct_UF_95 rfl) d_UF_set_58 rfl rfl (by decide) (Nat.le_of_ble_eq_true rfl) trivial (ok_UF_within (d := d + 1) H) (fun r2 h1 H => ?_)
    refine A_if_eq 88 d_UF_set_61 (by decide) (fun z => ?_) (fun z => ?_)
    · have H := H.1 z
      refine A_bipush (-7) (by decide) d_UF_set_88 ?_
      exact A_iret d_UF_set_90 rfl rfl H
    · have H := H.2 z
      refine A_aload_n d_UF_set_64 rfl ?_
      refine A_get (v := .ref 5) d_UF_set_65 (fo_UF_34_11 rfl) (vA_s (by decide)) rfl rfl ?_
      refine A_get (v := .ref 7) d_UF_set_68 (fo_UF_124_10 rfl) (vA_s (by decide)) rfl rfl ?_
      refine A_iload_n d_UF_set_71 rfl ?_
      obtain ⟨c3, H⟩ := H
      refine A_iald (n := 7) d_UF_set_72 (vA_s (by decide)) rfl c3 ?_
      refine A_istore [some (.ref 0), some (.int x1), some (.int x2), some (.int x3), some (.int (h1.1 7 x1))] d_UF_set_73 (by decide) rfl rfl ?_
      refine A_aload_n d_UF_set_75 rfl ?_
      refine A_get (v := .ref 5) d_UF_set_76 (fo_UF_34_11 rfl) (vA_s (by decide)) rfl rfl ?_
      refine A_get (v := .ref 7) d_UF_set_79 (fo_UF_124_10 rfl) (vA_s (by decide)) rfl rfl ?_
      refine A_iload_n d_UF_set_82 rfl ?_
      refine A_iload_n d_UF_set_83 rfl ?_
      refine A_iast (n := 7) d_UF_set_84 (vA_s (by decide)) rfl c3 ?_
      refine A_iload d_UF_set_85 rfl ?_
      exact A_iret d_UF_set_87 rfl rfl H
set_option maxRecDepth 20000 in
theorem r_UF_set_0 {G : GG} {d : Nat} {Q : Int32 → AH → Prop} (x1 : Int32) (x2 : Int32) (x3 : Int32) (h : AH) (H : p_UF_set Q x1 x2 x3 h) : Att G T1 m_UF_set (d + 2) 0 [some (.ref 0), some (.int x1), some (.int x2), some (.int x3), none] [] h 0 0 (iQ Q) := by
  refine A_aload_n d_UF_set_0 rfl ?_
  refine A_iload_n d_UF_set_1 rfl ?_
  refine A_cI [.ref 0, .int x1] [] (ct_UF_107 rfl) d_UF_set_2 rfl rfl (by decide) (Nat.le_of_ble_eq_true rfl) (rcA_o (c := 11) rfl (vA_s (by decide)) rfl (by decide) rfl) (ok_UF_isHouse (d := d) H) (fun r2 h1 H => ?_)
  refine A_if_ne 11 d_UF_set_5 (by decide) (fun z => ?_) (fun z => ?_)
  · have H := H.1 z
    refine A_iload_n d_UF_set_11 rfl ?_
    refine A_if_ne 49 d_UF_set_12 (by decide) (fun z => ?_) (fun z => ?_)
    · have H := H.1 z
      exact r_UF_set_49   _ _ _ _ H
    · have H := H.2 z
      refine A_iload_n d_UF_set_15 rfl ?_
      refine A_iconst 0 (by decide) d_UF_set_16 ?_
      refine A_bipush 9 (by decide) d_UF_set_17 ?_
      refine A_cI [.int x3, .int 0, .int 9] [] (ct_UF_95 rfl) d_UF_set_19 rfl rfl (by decide) (Nat.le_of_ble_eq_true rfl) trivial (ok_UF_within (d := d + 1) H) (fun r4 h3 H => ?_)
      refine A_if_eq 49 d_UF_set_22 (by decide) (fun z => ?_) (fun z => ?_)
      · have H := H.1 z
        exact r_UF_set_49   _ _ _ _ H
      · have H := H.2 z
        refine A_aload_n d_UF_set_25 rfl ?_
        refine A_get (v := .ref 5) d_UF_set_26 (fo_UF_34_11 rfl) (vA_s (by decide)) rfl rfl ?_
        refine A_get (v := .ref 6) d_UF_set_29 (fo_UF_121_10 rfl) (vA_s (by decide)) rfl rfl ?_
        refine A_iload_n d_UF_set_32 rfl ?_
        obtain ⟨c5, H⟩ := H
        refine A_iald (n := 7) d_UF_set_33 (vA_s (by decide)) rfl c5 ?_
        refine A_istore [some (.ref 0), some (.int x1), some (.int x2), some (.int x3), some (.int (h3.1 6 x1))] d_UF_set_34 (by decide) rfl rfl ?_
        refine A_aload_n d_UF_set_36 rfl ?_
        refine A_get (v := .ref 5) d_UF_set_37 (fo_UF_34_11 rfl) (vA_s (by decide)) rfl rfl ?_
        refine A_get (v := .ref 6) d_UF_set_40 (fo_UF_121_10 rfl) (vA_s (by decide)) rfl rfl ?_
        refine A_iload_n d_UF_set_43 rfl ?_
        refine A_iload_n d_UF_set_44 rfl ?_
        refine A_iast (n := 7) d_UF_set_45 (vA_s (by decide)) rfl c5 ?_
        refine A_iload d_UF_set_46 rfl ?_
        exact A_iret d_UF_set_48 rfl rfl H
  · have H := H.2 z
    refine A_bipush (-5) (by decide) d_UF_set_8 ?_
    exact A_iret d_UF_set_10 rfl rfl H
set_option maxRecDepth 20000 in
theorem ok_UF_set {G : GG} {d : Nat} {Q : Int32 → AH → Prop} {x1 : Int32} {x2 : Int32} {x3 : Int32} {h : AH} (H : p_UF_set Q x1 x2 x3 h) : WP G T1 m_UF_set (d + 2) [.ref 0, .int x1, .int x2, .int x3] h 0 0 (iQ Q) := by
  exact WP.enter 1 (by decide) rfl rfl (r_UF_set_0 x1 x2 x3 h H)
theorem d_Town_join_0 : decode prog_12_method_5_code 0 = .ok (.aload_n 0, 1) := by decide +kernel
theorem d_Town_join_1 : decode prog_12_method_5_code 1 = .ok (.iload_n 1, 1) := by decide +kernel
theorem d_Town_join_2 : decode prog_12_method_5_code 2 = .ok (.invokevirtual 38, 3) := by decide +kernel
theorem d_Town_join_5 : decode prog_12_method_5_code 5 = .ok (.aload_n 0, 1) := by decide +kernel
theorem d_Town_join_6 : decode prog_12_method_5_code 6 = .ok (.iload_n 2, 1) := by decide +kernel
theorem d_Town_join_7 : decode prog_12_method_5_code 7 = .ok (.invokevirtual 38, 3) := by decide +kernel
theorem d_Town_join_10 : decode prog_12_method_5_code 10 = .ok (.iload_n 1, 1) := by decide +kernel
theorem d_Town_join_11 : decode prog_12_method_5_code 11 = .ok (.iload_n 2, 1) := by decide +kernel
theorem d_Town_join_12 : decode prog_12_method_5_code 12 = .ok (.if_icmp .ne 4, 3) := by decide +kernel
theorem d_Town_join_15 : decode prog_12_method_5_code 15 = .ok (.return_, 1) := by decide +kernel
theorem d_Town_join_16 : decode prog_12_method_5_code 16 = .ok (.aload_n 0, 1) := by decide +kernel
theorem d_Town_join_17 : decode prog_12_method_5_code 17 = .ok (.getfield 18, 3) := by decide +kernel
theorem d_Town_join_20 : decode prog_12_method_5_code 20 = .ok (.iload_n 1, 1) := by decide +kernel
theorem d_Town_join_21 : decode prog_12_method_5_code 21 = .ok (.iload_n 2, 1) := by decide +kernel
theorem d_Town_join_22 : decode prog_12_method_5_code 22 = .ok (.iastore, 1) := by decide +kernel
theorem d_Town_join_23 : decode prog_12_method_5_code 23 = .ok (.aload_n 0, 1) := by decide +kernel
theorem d_Town_join_24 : decode prog_12_method_5_code 24 = .ok (.getfield 18, 3) := by decide +kernel
theorem d_Town_join_27 : decode prog_12_method_5_code 27 = .ok (.iload_n 2, 1) := by decide +kernel
theorem d_Town_join_28 : decode prog_12_method_5_code 28 = .ok (.iload_n 1, 1) := by decide +kernel
theorem d_Town_join_29 : decode prog_12_method_5_code 29 = .ok (.iastore, 1) := by decide +kernel
theorem d_Town_join_30 : decode prog_12_method_5_code 30 = .ok (.return_, 1) := by decide +kernel
def p_Town_join (Q : AH → Prop) (a0 : Nat) (x1 : Int32) (x2 : Int32) (h : AH) : Prop := vA T1 h a0 ∧ (rS T1 h a0).1 = 10 ∧ p_Town_loosen (fun h3 => vA T1 h3 a0 ∧ (rS T1 h3 a0).1 = 10 ∧ p_Town_loosen (fun h6 => ((¬ x1 = x2 → vA T1 h6 a0 ∧ (rS T1 h6 a0).1 = 10 ∧ 0 < rR T1 h6 a0 2 ∧ vA T1 h6 (rR T1 h6 a0 2 - 1) ∧ (rS T1 h6 (rR T1 h6 a0 2 - 1)).1 = 100 ∧ inb x1 ((rS T1 h6 (rR T1 h6 a0 2 - 1)).2) ∧ 0 < rR T1 (wI h6 (rR T1 h6 a0 2 - 1) x1 x2) a0 2 ∧ vA T1 (wI h6 (rR T1 h6 a0 2 - 1) x1 x2) (rR T1 (wI h6 (rR T1 h6 a0 2 - 1) x1 x2) a0 2 - 1) ∧ (rS T1 (wI h6 (rR T1 h6 a0 2 - 1) x1 x2) (rR T1 (wI h6 (rR T1 h6 a0 2 - 1) x1 x2) a0 2 - 1)).1 = 100 ∧ inb x2 ((rS T1 (wI h6 (rR T1 h6 a0 2 - 1) x1 x2) (rR T1 (wI h6 (rR T1 h6 a0 2 - 1) x1 x2) a0 2 - 1)).2) ∧ Q (wI (wI h6 (rR T1 h6 a0 2 - 1) x1 x2) (rR T1 (wI h6 (rR T1 h6 a0 2 - 1) x1 x2) a0 2 - 1) x2 x1)) ∧ (x1 = x2 → Q h6))) a0 x2 h3) a0 x1 h
set_option maxRecDepth 20000 in
theorem r_Town_join_0 {G : GG} {d : Nat} {Q : AH → Prop} (a0 : Nat) (x1 : Int32) (x2 : Int32) (h : AH) (H : p_Town_join Q a0 x1 x2 h) : Att G T1 m_Town_join (d + 2) 0 [some (.ref a0), some (.int x1), some (.int x2)] [] h 0 0 (vQ Q) := by
  refine A_aload_n d_Town_join_0 rfl ?_
  refine A_iload_n d_Town_join_1 rfl ?_
  obtain ⟨c1, H⟩ := H
  obtain ⟨c2, H⟩ := H
  refine A_cV [.ref a0, .int x1] [] (ct_Town_38 rfl) d_Town_join_2 rfl rfl (by decide) (Nat.le_of_ble_eq_true rfl) (rcA_o (c := 10) rfl c1 c2 (by decide) rfl) (ok_Town_loosen (d := d) H) (fun h3 H => ?_)
  refine A_aload_n d_Town_join_5 rfl ?_
  refine A_iload_n d_Town_join_6 rfl ?_
  obtain ⟨c4, H⟩ := H
  obtain ⟨c5, H⟩ := H
  refine A_cV [.ref a0, .int x2] [] (ct_Town_38 rfl) d_Town_join_7 rfl rfl (by decide) (Nat.le_of_ble_eq_true rfl) (rcA_o (c := 10) rfl c4 c5 (by decide) rfl) (ok_Town_loosen (d := d) H) (fun h6 H => ?_)
  refine A_iload_n d_Town_join_10 rfl ?_
  refine A_iload_n d_Town_join_11 rfl ?_
  refine A_icmp_ne 16 d_Town_join_12 (by decide) (fun z => ?_) (fun z => ?_)
  · have H := H.1 z
    refine A_aload_n d_Town_join_16 rfl ?_
    obtain ⟨c7, H⟩ := H
    obtain ⟨c8, H⟩ := H
    obtain ⟨c9, H⟩ := H
    refine A_get (v := .ref (rR T1 h6 a0 2 - 1)) d_Town_join_17 (fo_Town_18_10 rfl) c7 c8 (vR_pos c9) ?_
    refine A_iload_n d_Town_join_20 rfl ?_
    refine A_iload_n d_Town_join_21 rfl ?_
    obtain ⟨c10, H⟩ := H
    obtain ⟨c11, H⟩ := H
    obtain ⟨c12, H⟩ := H
    refine A_iast (n := _) d_Town_join_22 c10 (rS_ex c11) c12 ?_
    refine A_aload_n d_Town_join_23 rfl ?_
    obtain ⟨c13, H⟩ := H
    refine A_get (v := .ref (rR T1 (wI h6 (rR T1 h6 a0 2 - 1) x1 x2) a0 2 - 1)) d_Town_join_24 (fo_Town_18_10 rfl) c7 c8 (vR_pos c13) ?_
    refine A_iload_n d_Town_join_27 rfl ?_
    refine A_iload_n d_Town_join_28 rfl ?_
    obtain ⟨c14, H⟩ := H
    obtain ⟨c15, H⟩ := H
    obtain ⟨c16, H⟩ := H
    refine A_iast (n := _) d_Town_join_29 c14 (rS_ex c15) c16 ?_
    exact A_ret d_Town_join_30 rfl H
  · have H := H.2 z
    exact A_ret d_Town_join_15 rfl H
set_option maxRecDepth 20000 in
theorem ok_Town_join {G : GG} {d : Nat} {Q : AH → Prop} {a0 : Nat} {x1 : Int32} {x2 : Int32} {h : AH} (H : p_Town_join Q a0 x1 x2 h) : WP G T1 m_Town_join (d + 2) [.ref a0, .int x1, .int x2] h 0 0 (vQ Q) := by
  exact WP.enter 0 (by decide) rfl rfl (r_Town_join_0 a0 x1 x2 h H)
theorem d_UF_told_0 : decode prog_1_method_10_code 0 = .ok (.aload_n 0, 1) := by decide +kernel
theorem d_UF_told_1 : decode prog_1_method_10_code 1 = .ok (.iload_n 1, 1) := by decide +kernel
theorem d_UF_told_2 : decode prog_1_method_10_code 2 = .ok (.invokevirtual 107, 3) := by decide +kernel
theorem d_UF_told_5 : decode prog_1_method_10_code 5 = .ok (.ifCond .ne 6, 3) := by decide +kernel
theorem d_UF_told_8 : decode prog_1_method_10_code 8 = .ok (.bipush (-5), 2) := by decide +kernel
theorem d_UF_told_10 : decode prog_1_method_10_code 10 = .ok (.ireturn, 1) := by decide +kernel
theorem d_UF_told_11 : decode prog_1_method_10_code 11 = .ok (.iload_n 2, 1) := by decide +kernel
theorem d_UF_told_12 : decode prog_1_method_10_code 12 = .ok (.tableswitch 100 0 5 #[40, 50, 60, 70, 80, 90], 40) := by decide +kernel
theorem d_UF_told_52 : decode prog_1_method_10_code 52 = .ok (.aload_n 0, 1) := by decide +kernel
theorem d_UF_told_53 : decode prog_1_method_10_code 53 = .ok (.getfield 34, 3) := by decide +kernel
theorem d_UF_told_56 : decode prog_1_method_10_code 56 = .ok (.getfield 121, 3) := by decide +kernel
theorem d_UF_told_59 : decode prog_1_method_10_code 59 = .ok (.iload_n 1, 1) := by decide +kernel
theorem d_UF_told_60 : decode prog_1_method_10_code 60 = .ok (.iaload, 1) := by decide +kernel
theorem d_UF_told_61 : decode prog_1_method_10_code 61 = .ok (.ireturn, 1) := by decide +kernel
theorem d_UF_told_62 : decode prog_1_method_10_code 62 = .ok (.aload_n 0, 1) := by decide +kernel
theorem d_UF_told_63 : decode prog_1_method_10_code 63 = .ok (.getfield 34, 3) := by decide +kernel
theorem d_UF_told_66 : decode prog_1_method_10_code 66 = .ok (.getfield 124, 3) := by decide +kernel
theorem d_UF_told_69 : decode prog_1_method_10_code 69 = .ok (.iload_n 1, 1) := by decide +kernel
theorem d_UF_told_70 : decode prog_1_method_10_code 70 = .ok (.iaload, 1) := by decide +kernel
theorem d_UF_told_71 : decode prog_1_method_10_code 71 = .ok (.ireturn, 1) := by decide +kernel
theorem d_UF_told_72 : decode prog_1_method_10_code 72 = .ok (.aload_n 0, 1) := by decide +kernel
theorem d_UF_told_73 : decode prog_1_method_10_code 73 = .ok (.getfield 34, 3) := by decide +kernel
theorem d_UF_told_76 : decode prog_1_method_10_code 76 = .ok (.getfield 127, 3) := by decide +kernel
theorem d_UF_told_79 : decode prog_1_method_10_code 79 = .ok (.iload_n 1, 1) := by decide +kernel
theorem d_UF_told_80 : decode prog_1_method_10_code 80 = .ok (.iaload, 1) := by decide +kernel
theorem d_UF_told_81 : decode prog_1_method_10_code 81 = .ok (.ireturn, 1) := by decide +kernel
theorem d_UF_told_82 : decode prog_1_method_10_code 82 = .ok (.aload_n 0, 1) := by decide +kernel
theorem d_UF_told_83 : decode prog_1_method_10_code 83 = .ok (.getfield 11, 3) := by decide +kernel
theorem d_UF_told_86 : decode prog_1_method_10_code 86 = .ok (.iload_n 1, 1) := by decide +kernel
theorem d_UF_told_87 : decode prog_1_method_10_code 87 = .ok (.aaload, 1) := by decide +kernel
theorem d_UF_told_88 : decode prog_1_method_10_code 88 = .ok (.getfield 134, 3) := by decide +kernel
theorem d_UF_told_91 : decode prog_1_method_10_code 91 = .ok (.ireturn, 1) := by decide +kernel
theorem d_UF_told_92 : decode prog_1_method_10_code 92 = .ok (.aload_n 0, 1) := by decide +kernel
theorem d_UF_told_93 : decode prog_1_method_10_code 93 = .ok (.getfield 11, 3) := by decide +kernel
theorem d_UF_told_96 : decode prog_1_method_10_code 96 = .ok (.iload_n 1, 1) := by decide +kernel
theorem d_UF_told_97 : decode prog_1_method_10_code 97 = .ok (.aaload, 1) := by decide +kernel
theorem d_UF_told_98 : decode prog_1_method_10_code 98 = .ok (.getfield 137, 3) := by decide +kernel
theorem d_UF_told_101 : decode prog_1_method_10_code 101 = .ok (.ireturn, 1) := by decide +kernel
theorem d_UF_told_102 : decode prog_1_method_10_code 102 = .ok (.aload_n 0, 1) := by decide +kernel
theorem d_UF_told_103 : decode prog_1_method_10_code 103 = .ok (.getfield 11, 3) := by decide +kernel
theorem d_UF_told_106 : decode prog_1_method_10_code 106 = .ok (.iload_n 1, 1) := by decide +kernel
theorem d_UF_told_107 : decode prog_1_method_10_code 107 = .ok (.aaload, 1) := by decide +kernel
theorem d_UF_told_108 : decode prog_1_method_10_code 108 = .ok (.getfield 140, 3) := by decide +kernel
theorem d_UF_told_111 : decode prog_1_method_10_code 111 = .ok (.ireturn, 1) := by decide +kernel
theorem d_UF_told_112 : decode prog_1_method_10_code 112 = .ok (.bipush (-7), 2) := by decide +kernel
theorem d_UF_told_114 : decode prog_1_method_10_code 114 = .ok (.ireturn, 1) := by decide +kernel
def p_UF_told (Q : Int32 → AH → Prop) (x1 : Int32) (x2 : Int32) (h : AH) : Prop := p_UF_isHouse (fun r2 h1 => ((¬ r2 = 0 → ((x2 = 0 → inb x1 7 ∧ Q (h1.1 6 x1) h1) ∧ (x2 = 1 → inb x1 7 ∧ Q (h1.1 7 x1) h1) ∧ (x2 = 2 → inb x1 7 ∧ Q (h1.1 8 x1) h1) ∧ (x2 = 3 → inb x1 7 ∧ 0 < rR T1 h1 1 x1.toNatClampNeg ∧ famA T1 h1 (rR T1 h1 1 x1.toNatClampNeg - 1) ∧ Q (h1.1 (rR T1 h1 1 x1.toNatClampNeg - 1) 0) h1) ∧ (x2 = 4 → inb x1 7 ∧ 0 < rR T1 h1 1 x1.toNatClampNeg ∧ famA T1 h1 (rR T1 h1 1 x1.toNatClampNeg - 1) ∧ Q (h1.1 (rR T1 h1 1 x1.toNatClampNeg - 1) 1) h1) ∧ (x2 = 5 → inb x1 7 ∧ 0 < rR T1 h1 1 x1.toNatClampNeg ∧ famA T1 h1 (rR T1 h1 1 x1.toNatClampNeg - 1) ∧ Q (h1.1 (rR T1 h1 1 x1.toNatClampNeg - 1) 2) h1) ∧ (¬ x2 = 0 → ¬ x2 = 1 → ¬ x2 = 2 → ¬ x2 = 3 → ¬ x2 = 4 → ¬ x2 = 5 → Q (-7) h1))) ∧ (r2 = 0 → Q (-5) h1))) x1 h
set_option maxRecDepth 20000 in
theorem r_UF_told_0 {G : GG} {d : Nat} {Q : Int32 → AH → Prop} (x1 : Int32) (x2 : Int32) (h : AH) (H : p_UF_told Q x1 x2 h) : Att G T1 m_UF_told (d + 2) 0 [some (.ref 0), some (.int x1), some (.int x2)] [] h 0 0 (iQ Q) := by
  refine A_aload_n d_UF_told_0 rfl ?_
  refine A_iload_n d_UF_told_1 rfl ?_
  refine A_cI [.ref 0, .int x1] [] (ct_UF_107 rfl) d_UF_told_2 rfl rfl (by decide) (Nat.le_of_ble_eq_true rfl) (rcA_o (c := 11) rfl (vA_s (by decide)) rfl (by decide) rfl) (ok_UF_isHouse (d := d) H) (fun r2 h1 H => ?_)
  refine A_if_ne 11 d_UF_told_5 (by decide) (fun z => ?_) (fun z => ?_)
  · have H := H.1 z
    refine A_iload_n d_UF_told_11 rfl ?_
    by_cases z0 : x2 = 0
    · have H := H.1 z0
      refine A_tsI 52 d_UF_told_12 (by rw [z0]; decide) (by rw [z0]; decide) (by rw [z0]; rfl) (by decide) ?_
      refine A_aload_n d_UF_told_52 rfl ?_
      refine A_get (v := .ref 5) d_UF_told_53 (fo_UF_34_11 rfl) (vA_s (by decide)) rfl rfl ?_
      refine A_get (v := .ref 6) d_UF_told_56 (fo_UF_121_10 rfl) (vA_s (by decide)) rfl rfl ?_
      refine A_iload_n d_UF_told_59 rfl ?_
      obtain ⟨c3, H⟩ := H
      refine A_iald (n := 7) d_UF_told_60 (vA_s (by decide)) rfl c3 ?_
      exact A_iret d_UF_told_61 rfl rfl H
    · have H := H.2
      by_cases z1 : x2 = 1
      · have H := H.1 z1
        refine A_tsI 62 d_UF_told_12 (by rw [z1]; decide) (by rw [z1]; decide) (by rw [z1]; rfl) (by decide) ?_
        refine A_aload_n d_UF_told_62 rfl ?_
        refine A_get (v := .ref 5) d_UF_told_63 (fo_UF_34_11 rfl) (vA_s (by decide)) rfl rfl ?_
        refine A_get (v := .ref 7) d_UF_told_66 (fo_UF_124_10 rfl) (vA_s (by decide)) rfl rfl ?_
        refine A_iload_n d_UF_told_69 rfl ?_
        obtain ⟨c4, H⟩ := H
        refine A_iald (n := 7) d_UF_told_70 (vA_s (by decide)) rfl c4 ?_
        exact A_iret d_UF_told_71 rfl rfl H
      · have H := H.2
        by_cases z2 : x2 = 2
        · have H := H.1 z2
          refine A_tsI 72 d_UF_told_12 (by rw [z2]; decide) (by rw [z2]; decide) (by rw [z2]; rfl) (by decide) ?_
          refine A_aload_n d_UF_told_72 rfl ?_
          refine A_get (v := .ref 5) d_UF_told_73 (fo_UF_34_11 rfl) (vA_s (by decide)) rfl rfl ?_
          refine A_get (v := .ref 8) d_UF_told_76 (fo_UF_127_10 rfl) (vA_s (by decide)) rfl rfl ?_
          refine A_iload_n d_UF_told_79 rfl ?_
          obtain ⟨c5, H⟩ := H
          refine A_iald (n := 7) d_UF_told_80 (vA_s (by decide)) rfl c5 ?_
          exact A_iret d_UF_told_81 rfl rfl H
        · have H := H.2
          by_cases z3 : x2 = 3
          · have H := H.1 z3
            refine A_tsI 82 d_UF_told_12 (by rw [z3]; decide) (by rw [z3]; decide) (by rw [z3]; rfl) (by decide) ?_
            refine A_aload_n d_UF_told_82 rfl ?_
            refine A_get (v := .ref 1) d_UF_told_83 (fo_UF_11_11 rfl) (vA_s (by decide)) rfl rfl ?_
            refine A_iload_n d_UF_told_86 rfl ?_
            obtain ⟨c6, H⟩ := H
            obtain ⟨c7, H⟩ := H
            refine A_aald (t := 0) (n := 7) d_UF_told_87 (by decide) (vA_s (by decide)) rfl c6 (pos_sub c7) ?_
            obtain ⟨c8, H⟩ := H
            refine A_getH (k := 0) d_UF_told_88 (foh_UF_134 rfl) c8 ?_
            exact A_iret d_UF_told_91 rfl rfl H
          · have H := H.2
            by_cases z4 : x2 = 4
            · have H := H.1 z4
              refine A_tsI 92 d_UF_told_12 (by rw [z4]; decide) (by rw [z4]; decide) (by rw [z4]; rfl) (by decide) ?_
              refine A_aload_n d_UF_told_92 rfl ?_
              refine A_get (v := .ref 1) d_UF_told_93 (fo_UF_11_11 rfl) (vA_s (by decide)) rfl rfl ?_
              refine A_iload_n d_UF_told_96 rfl ?_
              obtain ⟨c9, H⟩ := H
              obtain ⟨c10, H⟩ := H
              refine A_aald (t := 0) (n := 7) d_UF_told_97 (by decide) (vA_s (by decide)) rfl c9 (pos_sub c10) ?_
              obtain ⟨c11, H⟩ := H
              refine A_getH (k := 1) d_UF_told_98 (foh_UF_137 rfl) c11 ?_
              exact A_iret d_UF_told_101 rfl rfl H
            · have H := H.2
              by_cases z5 : x2 = 5
              · have H := H.1 z5
                refine A_tsI 102 d_UF_told_12 (by rw [z5]; decide) (by rw [z5]; decide) (by rw [z5]; rfl) (by decide) ?_
                refine A_aload_n d_UF_told_102 rfl ?_
                refine A_get (v := .ref 1) d_UF_told_103 (fo_UF_11_11 rfl) (vA_s (by decide)) rfl rfl ?_
                refine A_iload_n d_UF_told_106 rfl ?_
                obtain ⟨c12, H⟩ := H
                obtain ⟨c13, H⟩ := H
                refine A_aald (t := 0) (n := 7) d_UF_told_107 (by decide) (vA_s (by decide)) rfl c12 (pos_sub c13) ?_
                obtain ⟨c14, H⟩ := H
                refine A_getH (k := 2) d_UF_told_108 (foh_UF_140 rfl) c14 ?_
                exact A_iret d_UF_told_111 rfl rfl H
              · have H := H.2
                have H := H z0 z1 z2 z3 z4 z5
                refine A_tsO 112 d_UF_told_12 (by have t0 := lv_neT z0 (a := 0) (by decide); have t1 := lv_neT z1 (a := 1) (by decide); have t2 := lv_neT z2 (a := 2) (by decide); have t3 := lv_neT z3 (a := 3) (by decide); have t4 := lv_neT z4 (a := 4) (by decide); have t5 := lv_neT z5 (a := 5) (by decide); omega) (by decide) ?_
                refine A_bipush (-7) (by decide) d_UF_told_112 ?_
                exact A_iret d_UF_told_114 rfl rfl H
  · have H := H.2 z
    refine A_bipush (-5) (by decide) d_UF_told_8 ?_
    exact A_iret d_UF_told_10 rfl rfl H
set_option maxRecDepth 20000 in
theorem ok_UF_told {G : GG} {d : Nat} {Q : Int32 → AH → Prop} {x1 : Int32} {x2 : Int32} {h : AH} (H : p_UF_told Q x1 x2 h) : WP G T1 m_UF_told (d + 2) [.ref 0, .int x1, .int x2] h 0 0 (iQ Q) := by
  exact WP.enter 0 (by decide) rfl rfl (r_UF_told_0 x1 x2 h H)
theorem d_Town_downCount_0 : decode prog_12_method_12_code 0 = .ok (.aload_n 0, 1) := by decide +kernel
theorem d_Town_downCount_1 : decode prog_12_method_12_code 1 = .ok (.invokevirtual 49, 3) := by decide +kernel
theorem d_Town_downCount_4 : decode prog_12_method_12_code 4 = .ok (.invokestatic 53, 3) := by decide +kernel
theorem d_Town_downCount_7 : decode prog_12_method_12_code 7 = .ok (.ireturn, 1) := by decide +kernel
def p_Town_downCount (Q : Int32 → AH → Prop) (a0 : Nat) (h : AH) : Prop := vA T1 h a0 ∧ (rS T1 h a0).1 = 10 ∧ p_Town_downBits (fun r4 h3 => p_Integer_bitCount (fun r6 h5 => Q r6 h5) r4 h3) a0 h
set_option maxRecDepth 20000 in
theorem r_Town_downCount_0 {G : GG} {d : Nat} {Q : Int32 → AH → Prop} (a0 : Nat) (h : AH) (H : p_Town_downCount Q a0 h) : Att G T1 m_Town_downCount (d + 2) 0 [some (.ref a0)] [] h 0 0 (iQ Q) := by
  refine A_aload_n d_Town_downCount_0 rfl ?_
  obtain ⟨c1, H⟩ := H
  obtain ⟨c2, H⟩ := H
  refine A_cI [.ref a0] [] (ct_Town_49 rfl) d_Town_downCount_1 rfl rfl (by decide) (Nat.le_of_ble_eq_true rfl) (rcA_o (c := 10) rfl c1 c2 (by decide) rfl) (ok_Town_downBits (d := d) H) (fun r4 h3 H => ?_)
  refine A_cI [.int r4] [] (ct_Town_53 rfl) d_Town_downCount_4 rfl rfl (by decide) (Nat.le_of_ble_eq_true rfl) trivial (ok_Integer_bitCount (d := d + 1) H) (fun r6 h5 H => ?_)
  exact A_iret d_Town_downCount_7 rfl rfl H
set_option maxRecDepth 20000 in
theorem ok_Town_downCount {G : GG} {d : Nat} {Q : Int32 → AH → Prop} {a0 : Nat} {h : AH} (H : p_Town_downCount Q a0 h) : WP G T1 m_Town_downCount (d + 2) [.ref a0] h 0 0 (iQ Q) := by
  exact WP.enter 0 (by decide) rfl rfl (r_Town_downCount_0 a0 h H)
theorem d_UF_tellingRefusal_0 : decode prog_1_method_46_code 0 = .ok (.iload_n 1, 1) := by decide +kernel
theorem d_UF_tellingRefusal_1 : decode prog_1_method_46_code 1 = .ok (.invokestatic 211, 3) := by decide +kernel
theorem d_UF_tellingRefusal_4 : decode prog_1_method_46_code 4 = .ok (.ifCond .ne 6, 3) := by decide +kernel
theorem d_UF_tellingRefusal_7 : decode prog_1_method_46_code 7 = .ok (.bipush (-2), 2) := by decide +kernel
theorem d_UF_tellingRefusal_9 : decode prog_1_method_46_code 9 = .ok (.ireturn, 1) := by decide +kernel
theorem d_UF_tellingRefusal_10 : decode prog_1_method_46_code 10 = .ok (.aload_n 0, 1) := by decide +kernel
theorem d_UF_tellingRefusal_11 : decode prog_1_method_46_code 11 = .ok (.getfield 23, 3) := by decide +kernel
theorem d_UF_tellingRefusal_14 : decode prog_1_method_46_code 14 = .ok (.iload_n 1, 1) := by decide +kernel
theorem d_UF_tellingRefusal_15 : decode prog_1_method_46_code 15 = .ok (.aaload, 1) := by decide +kernel
theorem d_UF_tellingRefusal_16 : decode prog_1_method_46_code 16 = .ok (.getfield 236, 3) := by decide +kernel
theorem d_UF_tellingRefusal_19 : decode prog_1_method_46_code 19 = .ok (.iconst (-1), 1) := by decide +kernel
theorem d_UF_tellingRefusal_20 : decode prog_1_method_46_code 20 = .ok (.if_icmp .ne 6, 3) := by decide +kernel
theorem d_UF_tellingRefusal_23 : decode prog_1_method_46_code 23 = .ok (.bipush (-11), 2) := by decide +kernel
theorem d_UF_tellingRefusal_25 : decode prog_1_method_46_code 25 = .ok (.ireturn, 1) := by decide +kernel
theorem d_UF_tellingRefusal_26 : decode prog_1_method_46_code 26 = .ok (.aload_n 0, 1) := by decide +kernel
theorem d_UF_tellingRefusal_27 : decode prog_1_method_46_code 27 = .ok (.getfield 23, 3) := by decide +kernel
theorem d_UF_tellingRefusal_30 : decode prog_1_method_46_code 30 = .ok (.iload_n 1, 1) := by decide +kernel
theorem d_UF_tellingRefusal_31 : decode prog_1_method_46_code 31 = .ok (.aaload, 1) := by decide +kernel
theorem d_UF_tellingRefusal_32 : decode prog_1_method_46_code 32 = .ok (.getfield 242, 3) := by decide +kernel
theorem d_UF_tellingRefusal_35 : decode prog_1_method_46_code 35 = .ok (.aload_n 0, 1) := by decide +kernel
theorem d_UF_tellingRefusal_36 : decode prog_1_method_46_code 36 = .ok (.getfield 34, 3) := by decide +kernel
theorem d_UF_tellingRefusal_39 : decode prog_1_method_46_code 39 = .ok (.getfield 80, 3) := by decide +kernel
theorem d_UF_tellingRefusal_42 : decode prog_1_method_46_code 42 = .ok (.if_icmp .ne 7, 3) := by decide +kernel
theorem d_UF_tellingRefusal_45 : decode prog_1_method_46_code 45 = .ok (.iconst 0, 1) := by decide +kernel
theorem d_UF_tellingRefusal_46 : decode prog_1_method_46_code 46 = .ok (.goto 5, 3) := by decide +kernel
theorem d_UF_tellingRefusal_49 : decode prog_1_method_46_code 49 = .ok (.bipush (-2), 2) := by decide +kernel
theorem d_UF_tellingRefusal_51 : decode prog_1_method_46_code 51 = .ok (.ireturn, 1) := by decide +kernel
def p_UF_tellingRefusal (Q : Int32 → AH → Prop) (x1 : Int32) (h : AH) : Prop := p_UF_isSheet (fun r2 h1 => ((¬ r2 = 0 → inb x1 4 ∧ 0 < rR T1 h1 3 x1.toNatClampNeg ∧ vA T1 h1 (rR T1 h1 3 x1.toNatClampNeg - 1) ∧ (rS T1 h1 (rR T1 h1 3 x1.toNatClampNeg - 1)).1 = 8 ∧ ((¬ (h1.1 (rR T1 h1 3 x1.toNatClampNeg - 1) 1) = (-1) → ((¬ (h1.1 (rR T1 h1 3 x1.toNatClampNeg - 1) 2) = (h1.1 5 3) → Q (-2) h1) ∧ ((h1.1 (rR T1 h1 3 x1.toNatClampNeg - 1) 2) = (h1.1 5 3) → Q 0 h1))) ∧ ((h1.1 (rR T1 h1 3 x1.toNatClampNeg - 1) 1) = (-1) → Q (-11) h1))) ∧ (r2 = 0 → Q (-2) h1))) x1 h
set_option maxRecDepth 20000 in
theorem r_UF_tellingRefusal_0 {G : GG} {d : Nat} {Q : Int32 → AH → Prop} (x1 : Int32) (h : AH) (H : p_UF_tellingRefusal Q x1 h) : Att G T1 m_UF_tellingRefusal (d + 2) 0 [some (.ref 0), some (.int x1)] [] h 0 0 (iQ Q) := by
  refine A_iload_n d_UF_tellingRefusal_0 rfl ?_
  refine A_cI [.int x1] [] (ct_UF_211 rfl) d_UF_tellingRefusal_1 rfl rfl (by decide) (Nat.le_of_ble_eq_true rfl) trivial (ok_UF_isSheet (d := d) H) (fun r2 h1 H => ?_)
  refine A_if_ne 10 d_UF_tellingRefusal_4 (by decide) (fun z => ?_) (fun z => ?_)
  · have H := H.1 z
    refine A_aload_n d_UF_tellingRefusal_10 rfl ?_
    refine A_get (v := .ref 3) d_UF_tellingRefusal_11 (fo_UF_23_11 rfl) (vA_s (by decide)) rfl rfl ?_
    refine A_iload_n d_UF_tellingRefusal_14 rfl ?_
    obtain ⟨c3, H⟩ := H
    obtain ⟨c4, H⟩ := H
    refine A_aald (t := 2) (n := 4) d_UF_tellingRefusal_15 (by decide) (vA_s (by decide)) rfl c3 (pos_sub c4) ?_
    obtain ⟨c5, H⟩ := H
    obtain ⟨c6, H⟩ := H
    refine A_get (v := .int (h1.1 (rR T1 h1 3 x1.toNatClampNeg - 1) 1)) d_UF_tellingRefusal_16 (fo_UF_236_8 rfl) c5 c6 rfl ?_
    refine A_iconst (-1) (by decide) d_UF_tellingRefusal_19 ?_
    refine A_icmp_ne 26 d_UF_tellingRefusal_20 (by decide) (fun z => ?_) (fun z => ?_)
    · have H := H.1 z
      refine A_aload_n d_UF_tellingRefusal_26 rfl ?_
      refine A_get (v := .ref 3) d_UF_tellingRefusal_27 (fo_UF_23_11 rfl) (vA_s (by decide)) rfl rfl ?_
      refine A_iload_n d_UF_tellingRefusal_30 rfl ?_
      refine A_aald (t := 2) (n := 4) d_UF_tellingRefusal_31 (by decide) (vA_s (by decide)) rfl c3 (pos_sub c4) ?_
      refine A_get (v := .int (h1.1 (rR T1 h1 3 x1.toNatClampNeg - 1) 2)) d_UF_tellingRefusal_32 (fo_UF_242_8 rfl) c5 c6 rfl ?_
      refine A_aload_n d_UF_tellingRefusal_35 rfl ?_
      refine A_get (v := .ref 5) d_UF_tellingRefusal_36 (fo_UF_34_11 rfl) (vA_s (by decide)) rfl rfl ?_
      refine A_get (v := .int (h1.1 5 3)) d_UF_tellingRefusal_39 (fo_UF_80_10 rfl) (vA_s (by decide)) rfl rfl ?_
      refine A_icmp_ne 49 d_UF_tellingRefusal_42 (by decide) (fun z => ?_) (fun z => ?_)
      · have H := H.1 z
        refine A_bipush (-2) (by decide) d_UF_tellingRefusal_49 ?_
        exact A_iret d_UF_tellingRefusal_51 rfl rfl H
      · have H := H.2 z
        refine A_iconst 0 (by decide) d_UF_tellingRefusal_45 ?_
        refine A_goto 51 d_UF_tellingRefusal_46 (by decide) ?_
        exact A_iret d_UF_tellingRefusal_51 rfl rfl H
    · have H := H.2 z
      refine A_bipush (-11) (by decide) d_UF_tellingRefusal_23 ?_
      exact A_iret d_UF_tellingRefusal_25 rfl rfl H
  · have H := H.2 z
    refine A_bipush (-2) (by decide) d_UF_tellingRefusal_7 ?_
    exact A_iret d_UF_tellingRefusal_9 rfl rfl H
set_option maxRecDepth 20000 in
theorem ok_UF_tellingRefusal {G : GG} {d : Nat} {Q : Int32 → AH → Prop} {x1 : Int32} {h : AH} (H : p_UF_tellingRefusal Q x1 h) : WP G T1 m_UF_tellingRefusal (d + 2) [.ref 0, .int x1] h 0 0 (iQ Q) := by
  exact WP.enter 0 (by decide) rfl rfl (r_UF_tellingRefusal_0 x1 h H)
theorem d_UF_isDraw_0 : decode prog_1_method_41_code 0 = .ok (.iload_n 0, 1) := by decide +kernel
theorem d_UF_isDraw_1 : decode prog_1_method_41_code 1 = .ok (.iconst 0, 1) := by decide +kernel
theorem d_UF_isDraw_2 : decode prog_1_method_41_code 2 = .ok (.ldc 255, 2) := by decide +kernel
theorem d_UF_isDraw_4 : decode prog_1_method_41_code 4 = .ok (.invokestatic 95, 3) := by decide +kernel
theorem d_UF_isDraw_7 : decode prog_1_method_41_code 7 = .ok (.ifCond .eq 24, 3) := by decide +kernel
theorem d_UF_isDraw_10 : decode prog_1_method_41_code 10 = .ok (.iload_n 1, 1) := by decide +kernel
theorem d_UF_isDraw_11 : decode prog_1_method_41_code 11 = .ok (.invokestatic 143, 3) := by decide +kernel
theorem d_UF_isDraw_14 : decode prog_1_method_41_code 14 = .ok (.ifCond .eq 17, 3) := by decide +kernel
theorem d_UF_isDraw_17 : decode prog_1_method_41_code 17 = .ok (.iload_n 2, 1) := by decide +kernel
theorem d_UF_isDraw_18 : decode prog_1_method_41_code 18 = .ok (.iconst 0, 1) := by decide +kernel
theorem d_UF_isDraw_19 : decode prog_1_method_41_code 19 = .ok (.bipush 100, 2) := by decide +kernel
theorem d_UF_isDraw_21 : decode prog_1_method_41_code 21 = .ok (.invokestatic 95, 3) := by decide +kernel
theorem d_UF_isDraw_24 : decode prog_1_method_41_code 24 = .ok (.ifCond .eq 7, 3) := by decide +kernel
theorem d_UF_isDraw_27 : decode prog_1_method_41_code 27 = .ok (.iconst 1, 1) := by decide +kernel
theorem d_UF_isDraw_28 : decode prog_1_method_41_code 28 = .ok (.goto 4, 3) := by decide +kernel
theorem d_UF_isDraw_31 : decode prog_1_method_41_code 31 = .ok (.iconst 0, 1) := by decide +kernel
theorem d_UF_isDraw_32 : decode prog_1_method_41_code 32 = .ok (.ireturn, 1) := by decide +kernel
def p_UF_isDraw (Q : Int32 → AH → Prop) (x0 : Int32) (x1 : Int32) (x2 : Int32) (h : AH) : Prop := p_UF_within (fun r2 h1 => ((r2 = 0 → Q 0 h1) ∧ (¬ r2 = 0 → p_UF_isSpan (fun r4 h3 => ((r4 = 0 → Q 0 h3) ∧ (¬ r4 = 0 → p_UF_within (fun r6 h5 => ((r6 = 0 → Q 0 h5) ∧ (¬ r6 = 0 → Q 1 h5))) x2 0 100 h3))) x1 h1))) x0 0 99999 h
set_option maxRecDepth 20000 in
theorem r_UF_isDraw_0 {G : GG} {d : Nat} {Q : Int32 → AH → Prop} (x0 : Int32) (x1 : Int32) (x2 : Int32) (h : AH) (H : p_UF_isDraw Q x0 x1 x2 h) : Att G T1 m_UF_isDraw (d + 2) 0 [some (.int x0), some (.int x1), some (.int x2)] [] h 0 0 (iQ Q) := by
  refine A_iload_n d_UF_isDraw_0 rfl ?_
  refine A_iconst 0 (by decide) d_UF_isDraw_1 ?_
  refine A_ldc 99999 d_UF_isDraw_2 (tG 771 (by decide +kernel) (by decide +kernel)) ?_
  refine A_cI [.int x0, .int 0, .int 99999] [] (ct_UF_95 rfl) d_UF_isDraw_4 rfl rfl (by decide) (Nat.le_of_ble_eq_true rfl) trivial (ok_UF_within (d := d + 1) H) (fun r2 h1 H => ?_)
  refine A_if_eq 31 d_UF_isDraw_7 (by decide) (fun z => ?_) (fun z => ?_)
  · have H := H.1 z
    refine A_iconst 0 (by decide) d_UF_isDraw_31 ?_
    exact A_iret d_UF_isDraw_32 rfl rfl H
  · have H := H.2 z
    refine A_iload_n d_UF_isDraw_10 rfl ?_
    refine A_cI [.int x1] [] (ct_UF_143 rfl) d_UF_isDraw_11 rfl rfl (by decide) (Nat.le_of_ble_eq_true rfl) trivial (ok_UF_isSpan (d := d) H) (fun r4 h3 H => ?_)
    refine A_if_eq 31 d_UF_isDraw_14 (by decide) (fun z => ?_) (fun z => ?_)
    · have H := H.1 z
      refine A_iconst 0 (by decide) d_UF_isDraw_31 ?_
      exact A_iret d_UF_isDraw_32 rfl rfl H
    · have H := H.2 z
      refine A_iload_n d_UF_isDraw_17 rfl ?_
      refine A_iconst 0 (by decide) d_UF_isDraw_18 ?_
      refine A_bipush 100 (by decide) d_UF_isDraw_19 ?_
      refine A_cI [.int x2, .int 0, .int 100] [] (ct_UF_95 rfl) d_UF_isDraw_21 rfl rfl (by decide) (Nat.le_of_ble_eq_true rfl) trivial (ok_UF_within (d := d + 1) H) (fun r6 h5 H => ?_)
      refine A_if_eq 31 d_UF_isDraw_24 (by decide) (fun z => ?_) (fun z => ?_)
      · have H := H.1 z
        refine A_iconst 0 (by decide) d_UF_isDraw_31 ?_
        exact A_iret d_UF_isDraw_32 rfl rfl H
      · have H := H.2 z
        refine A_iconst 1 (by decide) d_UF_isDraw_27 ?_
        refine A_goto 32 d_UF_isDraw_28 (by decide) ?_
        exact A_iret d_UF_isDraw_32 rfl rfl H
set_option maxRecDepth 20000 in
theorem ok_UF_isDraw {G : GG} {d : Nat} {Q : Int32 → AH → Prop} {x0 : Int32} {x1 : Int32} {x2 : Int32} {h : AH} (H : p_UF_isDraw Q x0 x1 x2 h) : WP G T1 m_UF_isDraw (d + 2) [.int x0, .int x1, .int x2] h 0 0 (iQ Q) := by
  exact WP.enter 0 (by decide) rfl rfl (r_UF_isDraw_0 x0 x1 x2 h H)
theorem d_UF_image_0 : decode prog_1_method_30_code 0 = .ok (.aload_n 0, 1) := by decide +kernel
theorem d_UF_image_1 : decode prog_1_method_30_code 1 = .ok (.getfield 38, 3) := by decide +kernel
theorem d_UF_image_4 : decode prog_1_method_30_code 4 = .ok (.aload_n 0, 1) := by decide +kernel
theorem d_UF_image_5 : decode prog_1_method_30_code 5 = .ok (.getfield 34, 3) := by decide +kernel
theorem d_UF_image_8 : decode prog_1_method_30_code 8 = .ok (.invokevirtual 228, 3) := by decide +kernel
theorem d_UF_image_11 : decode prog_1_method_30_code 11 = .ok (.aload_n 0, 1) := by decide +kernel
theorem d_UF_image_12 : decode prog_1_method_30_code 12 = .ok (.iconst 1, 1) := by decide +kernel
theorem d_UF_image_13 : decode prog_1_method_30_code 13 = .ok (.putfield 232, 3) := by decide +kernel
theorem d_UF_image_16 : decode prog_1_method_30_code 16 = .ok (.aload_n 0, 1) := by decide +kernel
theorem d_UF_image_17 : decode prog_1_method_30_code 17 = .ok (.getfield 34, 3) := by decide +kernel
theorem d_UF_image_20 : decode prog_1_method_30_code 20 = .ok (.getfield 80, 3) := by decide +kernel
theorem d_UF_image_23 : decode prog_1_method_30_code 23 = .ok (.ireturn, 1) := by decide +kernel
def p_UF_image (Q : Int32 → AH → Prop) (h : AH) : Prop := p_Town_become (fun h1 => Q ((wI h1 0 10 1).1 5 3) (wI h1 0 10 1)) 9 5 h
set_option maxRecDepth 20000 in
theorem r_UF_image_0 {G : GG} {d : Nat} {Q : Int32 → AH → Prop} (h : AH) (H : p_UF_image Q h) : Att G T1 m_UF_image (d + 2) 0 [some (.ref 0)] [] h 0 0 (iQ Q) := by
  refine A_aload_n d_UF_image_0 rfl ?_
  refine A_get (v := .ref 9) d_UF_image_1 (fo_UF_38_11 rfl) (vA_s (by decide)) rfl rfl ?_
  refine A_aload_n d_UF_image_4 rfl ?_
  refine A_get (v := .ref 5) d_UF_image_5 (fo_UF_34_11 rfl) (vA_s (by decide)) rfl rfl ?_
  refine A_cV [.ref 9, .ref 5] [] (ct_UF_228 rfl) d_UF_image_8 rfl rfl (by decide) (Nat.le_of_ble_eq_true rfl) (rcA_o (c := 10) rfl (vA_s (by decide)) rfl (by decide) rfl) (ok_Town_become (d := d) H) (fun h1 H => ?_)
  refine A_aload_n d_UF_image_11 rfl ?_
  refine A_iconst 1 (by decide) d_UF_image_12 ?_
  refine A_putI (k := 10) d_UF_image_13 (fo_UF_232_11 rfl) (Or.inr ⟨rfl, _, ft_11_10⟩) (fun z => by cases z) rfl (vA_s (by decide)) rfl rfl rfl ?_
  refine A_aload_n d_UF_image_16 rfl ?_
  refine A_get (v := .ref 5) d_UF_image_17 (fo_UF_34_11 rfl) (vA_s (by decide)) rfl rfl ?_
  refine A_get (v := .int ((wI h1 0 10 1).1 5 3)) d_UF_image_20 (fo_UF_80_10 rfl) (vA_s (by decide)) rfl rfl ?_
  exact A_iret d_UF_image_23 rfl rfl H
set_option maxRecDepth 20000 in
theorem ok_UF_image {G : GG} {d : Nat} {Q : Int32 → AH → Prop} {h : AH} (H : p_UF_image Q h) : WP G T1 m_UF_image (d + 2) [.ref 0] h 0 0 (iQ Q) := by
  exact WP.enter 0 (by decide) rfl rfl (r_UF_image_0 h H)
theorem d_UF_back_0 : decode prog_1_method_31_code 0 = .ok (.aload_n 0, 1) := by decide +kernel
theorem d_UF_back_1 : decode prog_1_method_31_code 1 = .ok (.getfield 232, 3) := by decide +kernel
theorem d_UF_back_4 : decode prog_1_method_31_code 4 = .ok (.ifCond .ne 6, 3) := by decide +kernel
theorem d_UF_back_7 : decode prog_1_method_31_code 7 = .ok (.bipush (-3), 2) := by decide +kernel
theorem d_UF_back_9 : decode prog_1_method_31_code 9 = .ok (.ireturn, 1) := by decide +kernel
theorem d_UF_back_10 : decode prog_1_method_31_code 10 = .ok (.aload_n 0, 1) := by decide +kernel
theorem d_UF_back_11 : decode prog_1_method_31_code 11 = .ok (.getfield 34, 3) := by decide +kernel
theorem d_UF_back_14 : decode prog_1_method_31_code 14 = .ok (.aload_n 0, 1) := by decide +kernel
theorem d_UF_back_15 : decode prog_1_method_31_code 15 = .ok (.getfield 38, 3) := by decide +kernel
theorem d_UF_back_18 : decode prog_1_method_31_code 18 = .ok (.invokevirtual 228, 3) := by decide +kernel
theorem d_UF_back_21 : decode prog_1_method_31_code 21 = .ok (.aload_n 0, 1) := by decide +kernel
theorem d_UF_back_22 : decode prog_1_method_31_code 22 = .ok (.getfield 34, 3) := by decide +kernel
theorem d_UF_back_25 : decode prog_1_method_31_code 25 = .ok (.getfield 80, 3) := by decide +kernel
theorem d_UF_back_28 : decode prog_1_method_31_code 28 = .ok (.ireturn, 1) := by decide +kernel
def p_UF_back (Q : Int32 → AH → Prop) (h : AH) : Prop := ((¬ (h.1 0 10) = 0 → p_Town_become (fun h1 => Q (h1.1 5 3) h1) 5 9 h) ∧ ((h.1 0 10) = 0 → Q (-3) h))
set_option maxRecDepth 20000 in
theorem r_UF_back_0 {G : GG} {d : Nat} {Q : Int32 → AH → Prop} (h : AH) (H : p_UF_back Q h) : Att G T1 m_UF_back (d + 2) 0 [some (.ref 0)] [] h 0 0 (iQ Q) := by
  refine A_aload_n d_UF_back_0 rfl ?_
  refine A_get (v := .int (h.1 0 10)) d_UF_back_1 (fo_UF_232_11 rfl) (vA_s (by decide)) rfl rfl ?_
  refine A_if_ne 10 d_UF_back_4 (by decide) (fun z => ?_) (fun z => ?_)
  · have H := H.1 z
    refine A_aload_n d_UF_back_10 rfl ?_
    refine A_get (v := .ref 5) d_UF_back_11 (fo_UF_34_11 rfl) (vA_s (by decide)) rfl rfl ?_
    refine A_aload_n d_UF_back_14 rfl ?_
    refine A_get (v := .ref 9) d_UF_back_15 (fo_UF_38_11 rfl) (vA_s (by decide)) rfl rfl ?_
    refine A_cV [.ref 5, .ref 9] [] (ct_UF_228 rfl) d_UF_back_18 rfl rfl (by decide) (Nat.le_of_ble_eq_true rfl) (rcA_o (c := 10) rfl (vA_s (by decide)) rfl (by decide) rfl) (ok_Town_become (d := d) H) (fun h1 H => ?_)
    refine A_aload_n d_UF_back_21 rfl ?_
    refine A_get (v := .ref 5) d_UF_back_22 (fo_UF_34_11 rfl) (vA_s (by decide)) rfl rfl ?_
    refine A_get (v := .int (h1.1 5 3)) d_UF_back_25 (fo_UF_80_10 rfl) (vA_s (by decide)) rfl rfl ?_
    exact A_iret d_UF_back_28 rfl rfl H
  · have H := H.2 z
    refine A_bipush (-3) (by decide) d_UF_back_7 ?_
    exact A_iret d_UF_back_9 rfl rfl H
set_option maxRecDepth 20000 in
theorem ok_UF_back {G : GG} {d : Nat} {Q : Int32 → AH → Prop} {h : AH} (H : p_UF_back Q h) : WP G T1 m_UF_back (d + 2) [.ref 0] h 0 0 (iQ Q) := by
  exact WP.enter 0 (by decide) rfl rfl (r_UF_back_0 h H)
theorem d_UF_sheet_0 : decode prog_1_method_32_code 0 = .ok (.iload_n 1, 1) := by decide +kernel
theorem d_UF_sheet_1 : decode prog_1_method_32_code 1 = .ok (.invokestatic 211, 3) := by decide +kernel
theorem d_UF_sheet_4 : decode prog_1_method_32_code 4 = .ok (.ifCond .eq 12, 3) := by decide +kernel
theorem d_UF_sheet_7 : decode prog_1_method_32_code 7 = .ok (.iload_n 2, 1) := by decide +kernel
theorem d_UF_sheet_8 : decode prog_1_method_32_code 8 = .ok (.iconst (-1), 1) := by decide +kernel
theorem d_UF_sheet_9 : decode prog_1_method_32_code 9 = .ok (.iconst 2, 1) := by decide +kernel
theorem d_UF_sheet_10 : decode prog_1_method_32_code 10 = .ok (.invokestatic 95, 3) := by decide +kernel
theorem d_UF_sheet_13 : decode prog_1_method_32_code 13 = .ok (.ifCond .ne 6, 3) := by decide +kernel
theorem d_UF_sheet_16 : decode prog_1_method_32_code 16 = .ok (.bipush (-2), 2) := by decide +kernel
theorem d_UF_sheet_18 : decode prog_1_method_32_code 18 = .ok (.ireturn, 1) := by decide +kernel
theorem d_UF_sheet_19 : decode prog_1_method_32_code 19 = .ok (.iload_n 2, 1) := by decide +kernel
theorem d_UF_sheet_20 : decode prog_1_method_32_code 20 = .ok (.iconst (-1), 1) := by decide +kernel
theorem d_UF_sheet_21 : decode prog_1_method_32_code 21 = .ok (.if_icmp .ne 16, 3) := by decide +kernel
theorem d_UF_sheet_24 : decode prog_1_method_32_code 24 = .ok (.aload_n 0, 1) := by decide +kernel
theorem d_UF_sheet_25 : decode prog_1_method_32_code 25 = .ok (.getfield 23, 3) := by decide +kernel
theorem d_UF_sheet_28 : decode prog_1_method_32_code 28 = .ok (.iload_n 1, 1) := by decide +kernel
theorem d_UF_sheet_29 : decode prog_1_method_32_code 29 = .ok (.aaload, 1) := by decide +kernel
theorem d_UF_sheet_30 : decode prog_1_method_32_code 30 = .ok (.iconst (-1), 1) := by decide +kernel
theorem d_UF_sheet_31 : decode prog_1_method_32_code 31 = .ok (.iconst 0, 1) := by decide +kernel
theorem d_UF_sheet_32 : decode prog_1_method_32_code 32 = .ok (.invokevirtual 214, 3) := by decide +kernel
theorem d_UF_sheet_35 : decode prog_1_method_32_code 35 = .ok (.iconst 1, 1) := by decide +kernel
theorem d_UF_sheet_36 : decode prog_1_method_32_code 36 = .ok (.ireturn, 1) := by decide +kernel
theorem d_UF_sheet_37 : decode prog_1_method_32_code 37 = .ok (.iload_n 3, 1) := by decide +kernel
theorem d_UF_sheet_38 : decode prog_1_method_32_code 38 = .ok (.bipush 40, 2) := by decide +kernel
theorem d_UF_sheet_40 : decode prog_1_method_32_code 40 = .ok (.if_icmp .le 6, 3) := by decide +kernel
theorem d_UF_sheet_43 : decode prog_1_method_32_code 43 = .ok (.bipush (-2), 2) := by decide +kernel
theorem d_UF_sheet_45 : decode prog_1_method_32_code 45 = .ok (.ireturn, 1) := by decide +kernel
theorem d_UF_sheet_46 : decode prog_1_method_32_code 46 = .ok (.iload_n 3, 1) := by decide +kernel
theorem d_UF_sheet_47 : decode prog_1_method_32_code 47 = .ok (.ifCond .ge 6, 3) := by decide +kernel
theorem d_UF_sheet_50 : decode prog_1_method_32_code 50 = .ok (.bipush (-14), 2) := by decide +kernel
theorem d_UF_sheet_52 : decode prog_1_method_32_code 52 = .ok (.ireturn, 1) := by decide +kernel
theorem d_UF_sheet_53 : decode prog_1_method_32_code 53 = .ok (.aload_n 0, 1) := by decide +kernel
theorem d_UF_sheet_54 : decode prog_1_method_32_code 54 = .ok (.getfield 23, 3) := by decide +kernel
theorem d_UF_sheet_57 : decode prog_1_method_32_code 57 = .ok (.iload_n 1, 1) := by decide +kernel
theorem d_UF_sheet_58 : decode prog_1_method_32_code 58 = .ok (.aaload, 1) := by decide +kernel
theorem d_UF_sheet_59 : decode prog_1_method_32_code 59 = .ok (.iload_n 2, 1) := by decide +kernel
theorem d_UF_sheet_60 : decode prog_1_method_32_code 60 = .ok (.iload_n 3, 1) := by decide +kernel
theorem d_UF_sheet_61 : decode prog_1_method_32_code 61 = .ok (.invokevirtual 214, 3) := by decide +kernel
theorem d_UF_sheet_64 : decode prog_1_method_32_code 64 = .ok (.iconst 1, 1) := by decide +kernel
theorem d_UF_sheet_65 : decode prog_1_method_32_code 65 = .ok (.ireturn, 1) := by decide +kernel
def p_UF_sheet (Q : Int32 → AH → Prop) (x1 : Int32) (x2 : Int32) (x3 : Int32) (h : AH) : Prop := p_UF_isSheet (fun r2 h1 => ((r2 = 0 → Q (-2) h1) ∧ (¬ r2 = 0 → p_UF_within (fun r4 h3 => ((¬ r4 = 0 → ((¬ x2 = (-1) → ((x3 ≤ 40 → ((0 ≤ x3 → inb x1 4 ∧ 0 < rR T1 h3 3 x1.toNatClampNeg ∧ vA T1 h3 (rR T1 h3 3 x1.toNatClampNeg - 1) ∧ (rS T1 h3 (rR T1 h3 3 x1.toNatClampNeg - 1)).1 = 8 ∧ p_Sheet_renew (fun h9 => Q 1 h9) (rR T1 h3 3 x1.toNatClampNeg - 1) x2 x3 h3) ∧ (¬ 0 ≤ x3 → Q (-14) h3))) ∧ (¬ x3 ≤ 40 → Q (-2) h3))) ∧ (x2 = (-1) → inb x1 4 ∧ 0 < rR T1 h3 3 x1.toNatClampNeg ∧ vA T1 h3 (rR T1 h3 3 x1.toNatClampNeg - 1) ∧ (rS T1 h3 (rR T1 h3 3 x1.toNatClampNeg - 1)).1 = 8 ∧ p_Sheet_renew (fun h14 => Q 1 h14) (rR T1 h3 3 x1.toNatClampNeg - 1) (-1) 0 h3))) ∧ (r4 = 0 → Q (-2) h3))) x2 (-1) 2 h1))) x1 h
set_option maxRecDepth 20000 in
theorem r_UF_sheet_0 {G : GG} {d : Nat} {Q : Int32 → AH → Prop} (x1 : Int32) (x2 : Int32) (x3 : Int32) (h : AH) (H : p_UF_sheet Q x1 x2 x3 h) : Att G T1 m_UF_sheet (d + 2) 0 [some (.ref 0), some (.int x1), some (.int x2), some (.int x3)] [] h 0 0 (iQ Q) := by
  refine A_iload_n d_UF_sheet_0 rfl ?_
  refine A_cI [.int x1] [] (ct_UF_211 rfl) d_UF_sheet_1 rfl rfl (by decide) (Nat.le_of_ble_eq_true rfl) trivial (ok_UF_isSheet (d := d) H) (fun r2 h1 H => ?_)
  refine A_if_eq 16 d_UF_sheet_4 (by decide) (fun z => ?_) (fun z => ?_)
  · have H := H.1 z
    refine A_bipush (-2) (by decide) d_UF_sheet_16 ?_
    exact A_iret d_UF_sheet_18 rfl rfl H
  · have H := H.2 z
    refine A_iload_n d_UF_sheet_7 rfl ?_
    refine A_iconst (-1) (by decide) d_UF_sheet_8 ?_
    refine A_iconst 2 (by decide) d_UF_sheet_9 ?_
    refine A_cI [.int x2, .int (-1), .int 2] [] (ct_UF_95 rfl) d_UF_sheet_10 rfl rfl (by decide) (Nat.le_of_ble_eq_true rfl) trivial (ok_UF_within (d := d + 1) H) (fun r4 h3 H => ?_)
    refine A_if_ne 19 d_UF_sheet_13 (by decide) (fun z => ?_) (fun z => ?_)
    · have H := H.1 z
      refine A_iload_n d_UF_sheet_19 rfl ?_
      refine A_iconst (-1) (by decide) d_UF_sheet_20 ?_
      refine A_icmp_ne 37 d_UF_sheet_21 (by decide) (fun z => ?_) (fun z => ?_)
      · have H := H.1 z
        refine A_iload_n d_UF_sheet_37 rfl ?_
        refine A_bipush 40 (by decide) d_UF_sheet_38 ?_
        refine A_icmp_le 46 d_UF_sheet_40 (by decide) (fun z => ?_) (fun z => ?_)
        · have H := H.1 z
          refine A_iload_n d_UF_sheet_46 rfl ?_
          refine A_if_ge 53 d_UF_sheet_47 (by decide) (fun z => ?_) (fun z => ?_)
          · have H := H.1 z
            refine A_aload_n d_UF_sheet_53 rfl ?_
            refine A_get (v := .ref 3) d_UF_sheet_54 (fo_UF_23_11 rfl) (vA_s (by decide)) rfl rfl ?_
            refine A_iload_n d_UF_sheet_57 rfl ?_
            obtain ⟨c5, H⟩ := H
            obtain ⟨c6, H⟩ := H
            refine A_aald (t := 2) (n := 4) d_UF_sheet_58 (by decide) (vA_s (by decide)) rfl c5 (pos_sub c6) ?_
            refine A_iload_n d_UF_sheet_59 rfl ?_
            refine A_iload_n d_UF_sheet_60 rfl ?_
            obtain ⟨c7, H⟩ := H
            obtain ⟨c8, H⟩ := H
            refine A_cV [.ref (rR T1 h3 3 x1.toNatClampNeg - 1), .int x2, .int x3] [] (ct_UF_214 rfl) d_UF_sheet_61 rfl rfl (by decide) (Nat.le_of_ble_eq_true rfl) (rcA_o (c := 8) rfl c7 c8 (by decide) rfl) (ok_Sheet_renew (d := d + 1) H) (fun h9 H => ?_)
            refine A_iconst 1 (by decide) d_UF_sheet_64 ?_
            exact A_iret d_UF_sheet_65 rfl rfl H
          · have H := H.2 z
            refine A_bipush (-14) (by decide) d_UF_sheet_50 ?_
            exact A_iret d_UF_sheet_52 rfl rfl H
        · have H := H.2 z
          refine A_bipush (-2) (by decide) d_UF_sheet_43 ?_
          exact A_iret d_UF_sheet_45 rfl rfl H
      · have H := H.2 z
        refine A_aload_n d_UF_sheet_24 rfl ?_
        refine A_get (v := .ref 3) d_UF_sheet_25 (fo_UF_23_11 rfl) (vA_s (by decide)) rfl rfl ?_
        refine A_iload_n d_UF_sheet_28 rfl ?_
        obtain ⟨c10, H⟩ := H
        obtain ⟨c11, H⟩ := H
        refine A_aald (t := 2) (n := 4) d_UF_sheet_29 (by decide) (vA_s (by decide)) rfl c10 (pos_sub c11) ?_
        refine A_iconst (-1) (by decide) d_UF_sheet_30 ?_
        refine A_iconst 0 (by decide) d_UF_sheet_31 ?_
        obtain ⟨c12, H⟩ := H
        obtain ⟨c13, H⟩ := H
        refine A_cV [.ref (rR T1 h3 3 x1.toNatClampNeg - 1), .int (-1), .int 0] [] (ct_UF_214 rfl) d_UF_sheet_32 rfl rfl (by decide) (Nat.le_of_ble_eq_true rfl) (rcA_o (c := 8) rfl c12 c13 (by decide) rfl) (ok_Sheet_renew (d := d + 1) H) (fun h14 H => ?_)
        refine A_iconst 1 (by decide) d_UF_sheet_35 ?_
        exact A_iret d_UF_sheet_36 rfl rfl H
    · have H := H.2 z
      refine A_bipush (-2) (by decide) d_UF_sheet_16 ?_
      exact A_iret d_UF_sheet_18 rfl rfl H
set_option maxRecDepth 20000 in
theorem ok_UF_sheet {G : GG} {d : Nat} {Q : Int32 → AH → Prop} {x1 : Int32} {x2 : Int32} {x3 : Int32} {h : AH} (H : p_UF_sheet Q x1 x2 x3 h) : WP G T1 m_UF_sheet (d + 2) [.ref 0, .int x1, .int x2, .int x3] h 0 0 (iQ Q) := by
  exact WP.enter 0 (by decide) rfl rfl (r_UF_sheet_0 x1 x2 x3 h H)
theorem d_UF_cell_0 : decode prog_1_method_33_code 0 = .ok (.iload_n 1, 1) := by decide +kernel
theorem d_UF_cell_1 : decode prog_1_method_33_code 1 = .ok (.invokestatic 211, 3) := by decide +kernel
theorem d_UF_cell_4 : decode prog_1_method_33_code 4 = .ok (.ifCond .ne 6, 3) := by decide +kernel
theorem d_UF_cell_7 : decode prog_1_method_33_code 7 = .ok (.bipush (-2), 2) := by decide +kernel
theorem d_UF_cell_9 : decode prog_1_method_33_code 9 = .ok (.ireturn, 1) := by decide +kernel
theorem d_UF_cell_10 : decode prog_1_method_33_code 10 = .ok (.aload_n 0, 1) := by decide +kernel
theorem d_UF_cell_11 : decode prog_1_method_33_code 11 = .ok (.getfield 23, 3) := by decide +kernel
theorem d_UF_cell_14 : decode prog_1_method_33_code 14 = .ok (.iload_n 1, 1) := by decide +kernel
theorem d_UF_cell_15 : decode prog_1_method_33_code 15 = .ok (.aaload, 1) := by decide +kernel
theorem d_UF_cell_16 : decode prog_1_method_33_code 16 = .ok (.getfield 236, 3) := by decide +kernel
theorem d_UF_cell_19 : decode prog_1_method_33_code 19 = .ok (.iconst (-1), 1) := by decide +kernel
theorem d_UF_cell_20 : decode prog_1_method_33_code 20 = .ok (.if_icmp .ne 6, 3) := by decide +kernel
theorem d_UF_cell_23 : decode prog_1_method_33_code 23 = .ok (.bipush (-11), 2) := by decide +kernel
theorem d_UF_cell_25 : decode prog_1_method_33_code 25 = .ok (.ireturn, 1) := by decide +kernel
theorem d_UF_cell_26 : decode prog_1_method_33_code 26 = .ok (.aload_n 0, 1) := by decide +kernel
theorem d_UF_cell_27 : decode prog_1_method_33_code 27 = .ok (.getfield 23, 3) := by decide +kernel
theorem d_UF_cell_30 : decode prog_1_method_33_code 30 = .ok (.iload_n 1, 1) := by decide +kernel
theorem d_UF_cell_31 : decode prog_1_method_33_code 31 = .ok (.aaload, 1) := by decide +kernel
theorem d_UF_cell_32 : decode prog_1_method_33_code 32 = .ok (.iload_n 2, 1) := by decide +kernel
theorem d_UF_cell_33 : decode prog_1_method_33_code 33 = .ok (.invokevirtual 239, 3) := by decide +kernel
theorem d_UF_cell_36 : decode prog_1_method_33_code 36 = .ok (.ifCond .ne 6, 3) := by decide +kernel
theorem d_UF_cell_39 : decode prog_1_method_33_code 39 = .ok (.bipush (-12), 2) := by decide +kernel
theorem d_UF_cell_41 : decode prog_1_method_33_code 41 = .ok (.ireturn, 1) := by decide +kernel
theorem d_UF_cell_42 : decode prog_1_method_33_code 42 = .ok (.aload_n 0, 1) := by decide +kernel
theorem d_UF_cell_43 : decode prog_1_method_33_code 43 = .ok (.getfield 23, 3) := by decide +kernel
theorem d_UF_cell_46 : decode prog_1_method_33_code 46 = .ok (.iload_n 1, 1) := by decide +kernel
theorem d_UF_cell_47 : decode prog_1_method_33_code 47 = .ok (.aaload, 1) := by decide +kernel
theorem d_UF_cell_48 : decode prog_1_method_33_code 48 = .ok (.iload_n 2, 1) := by decide +kernel
theorem d_UF_cell_49 : decode prog_1_method_33_code 49 = .ok (.iload_n 3, 1) := by decide +kernel
theorem d_UF_cell_50 : decode prog_1_method_33_code 50 = .ok (.invokevirtual 217, 3) := by decide +kernel
theorem d_UF_cell_53 : decode prog_1_method_33_code 53 = .ok (.iconst 1, 1) := by decide +kernel
theorem d_UF_cell_54 : decode prog_1_method_33_code 54 = .ok (.ireturn, 1) := by decide +kernel
def p_UF_cell (Q : Int32 → AH → Prop) (x1 : Int32) (x2 : Int32) (x3 : Int32) (h : AH) : Prop := p_UF_isSheet (fun r2 h1 => ((¬ r2 = 0 → inb x1 4 ∧ 0 < rR T1 h1 3 x1.toNatClampNeg ∧ vA T1 h1 (rR T1 h1 3 x1.toNatClampNeg - 1) ∧ (rS T1 h1 (rR T1 h1 3 x1.toNatClampNeg - 1)).1 = 8 ∧ ((¬ (h1.1 (rR T1 h1 3 x1.toNatClampNeg - 1) 1) = (-1) → p_Sheet_has (fun r8 h7 => ((¬ r8 = 0 → inb x1 4 ∧ 0 < rR T1 h7 3 x1.toNatClampNeg ∧ vA T1 h7 (rR T1 h7 3 x1.toNatClampNeg - 1) ∧ (rS T1 h7 (rR T1 h7 3 x1.toNatClampNeg - 1)).1 = 8 ∧ p_Sheet_write (fun h13 => Q 1 h13) (rR T1 h7 3 x1.toNatClampNeg - 1) x2 x3 h7) ∧ (r8 = 0 → Q (-12) h7))) (rR T1 h1 3 x1.toNatClampNeg - 1) x2 h1) ∧ ((h1.1 (rR T1 h1 3 x1.toNatClampNeg - 1) 1) = (-1) → Q (-11) h1))) ∧ (r2 = 0 → Q (-2) h1))) x1 h
set_option maxRecDepth 20000 in
theorem r_UF_cell_0 {G : GG} {d : Nat} {Q : Int32 → AH → Prop} (x1 : Int32) (x2 : Int32) (x3 : Int32) (h : AH) (H : p_UF_cell Q x1 x2 x3 h) : Att G T1 m_UF_cell (d + 2) 0 [some (.ref 0), some (.int x1), some (.int x2), some (.int x3)] [] h 0 0 (iQ Q) := by
  refine A_iload_n d_UF_cell_0 rfl ?_
  refine A_cI [.int x1] [] (ct_UF_211 rfl) d_UF_cell_1 rfl rfl (by decide) (Nat.le_of_ble_eq_true rfl) trivial (ok_UF_isSheet (d := d) H) (fun r2 h1 H => ?_)
  refine A_if_ne 10 d_UF_cell_4 (by decide) (fun z => ?_) (fun z => ?_)
  · have H := H.1 z
    refine A_aload_n d_UF_cell_10 rfl ?_
    refine A_get (v := .ref 3) d_UF_cell_11 (fo_UF_23_11 rfl) (vA_s (by decide)) rfl rfl ?_
    refine A_iload_n d_UF_cell_14 rfl ?_
    obtain ⟨c3, H⟩ := H
    obtain ⟨c4, H⟩ := H
    refine A_aald (t := 2) (n := 4) d_UF_cell_15 (by decide) (vA_s (by decide)) rfl c3 (pos_sub c4) ?_
    obtain ⟨c5, H⟩ := H
    obtain ⟨c6, H⟩ := H
    refine A_get (v := .int (h1.1 (rR T1 h1 3 x1.toNatClampNeg - 1) 1)) d_UF_cell_16 (fo_UF_236_8 rfl) c5 c6 rfl ?_
    refine A_iconst (-1) (by decide) d_UF_cell_19 ?_
    refine A_icmp_ne 26 d_UF_cell_20 (by decide) (fun z => ?_) (fun z => ?_)
    · have H := H.1 z
      refine A_aload_n d_UF_cell_26 rfl ?_
      refine A_get (v := .ref 3) d_UF_cell_27 (fo_UF_23_11 rfl) (vA_s (by decide)) rfl rfl ?_
      refine A_iload_n d_UF_cell_30 rfl ?_
      refine A_aald (t := 2) (n := 4) d_UF_cell_31 (by decide) (vA_s (by decide)) rfl c3 (pos_sub c4) ?_
      refine A_iload_n d_UF_cell_32 rfl ?_
      refine A_cI [.ref (rR T1 h1 3 x1.toNatClampNeg - 1), .int x2] [] (ct_UF_239 rfl) d_UF_cell_33 rfl rfl (by decide) (Nat.le_of_ble_eq_true rfl) (rcA_o (c := 8) rfl c5 c6 (by decide) rfl) (ok_Sheet_has (d := d + 1) H) (fun r8 h7 H => ?_)
      refine A_if_ne 42 d_UF_cell_36 (by decide) (fun z => ?_) (fun z => ?_)
      · have H := H.1 z
        refine A_aload_n d_UF_cell_42 rfl ?_
        refine A_get (v := .ref 3) d_UF_cell_43 (fo_UF_23_11 rfl) (vA_s (by decide)) rfl rfl ?_
        refine A_iload_n d_UF_cell_46 rfl ?_
        obtain ⟨c9, H⟩ := H
        obtain ⟨c10, H⟩ := H
        refine A_aald (t := 2) (n := 4) d_UF_cell_47 (by decide) (vA_s (by decide)) rfl c9 (pos_sub c10) ?_
        refine A_iload_n d_UF_cell_48 rfl ?_
        refine A_iload_n d_UF_cell_49 rfl ?_
        obtain ⟨c11, H⟩ := H
        obtain ⟨c12, H⟩ := H
        refine A_cV [.ref (rR T1 h7 3 x1.toNatClampNeg - 1), .int x2, .int x3] [] (ct_UF_217 rfl) d_UF_cell_50 rfl rfl (by decide) (Nat.le_of_ble_eq_true rfl) (rcA_o (c := 8) rfl c11 c12 (by decide) rfl) (ok_Sheet_write (d := d) H) (fun h13 H => ?_)
        refine A_iconst 1 (by decide) d_UF_cell_53 ?_
        exact A_iret d_UF_cell_54 rfl rfl H
      · have H := H.2 z
        refine A_bipush (-12) (by decide) d_UF_cell_39 ?_
        exact A_iret d_UF_cell_41 rfl rfl H
    · have H := H.2 z
      refine A_bipush (-11) (by decide) d_UF_cell_23 ?_
      exact A_iret d_UF_cell_25 rfl rfl H
  · have H := H.2 z
    refine A_bipush (-2) (by decide) d_UF_cell_7 ?_
    exact A_iret d_UF_cell_9 rfl rfl H
set_option maxRecDepth 20000 in
theorem ok_UF_cell {G : GG} {d : Nat} {Q : Int32 → AH → Prop} {x1 : Int32} {x2 : Int32} {x3 : Int32} {h : AH} (H : p_UF_cell Q x1 x2 x3 h) : WP G T1 m_UF_cell (d + 2) [.ref 0, .int x1, .int x2, .int x3] h 0 0 (iQ Q) := by
  exact WP.enter 0 (by decide) rfl rfl (r_UF_cell_0 x1 x2 x3 h H)
theorem d_UF_copy_0 : decode prog_1_method_34_code 0 = .ok (.iload_n 1, 1) := by decide +kernel
theorem d_UF_copy_1 : decode prog_1_method_34_code 1 = .ok (.invokestatic 211, 3) := by decide +kernel
theorem d_UF_copy_4 : decode prog_1_method_34_code 4 = .ok (.ifCond .eq 10, 3) := by decide +kernel
theorem d_UF_copy_7 : decode prog_1_method_34_code 7 = .ok (.iload_n 3, 1) := by decide +kernel
theorem d_UF_copy_8 : decode prog_1_method_34_code 8 = .ok (.invokestatic 211, 3) := by decide +kernel
theorem d_UF_copy_11 : decode prog_1_method_34_code 11 = .ok (.ifCond .ne 6, 3) := by decide +kernel
theorem d_UF_copy_14 : decode prog_1_method_34_code 14 = .ok (.bipush (-2), 2) := by decide +kernel
theorem d_UF_copy_16 : decode prog_1_method_34_code 16 = .ok (.ireturn, 1) := by decide +kernel
theorem d_UF_copy_17 : decode prog_1_method_34_code 17 = .ok (.aload_n 0, 1) := by decide +kernel
theorem d_UF_copy_18 : decode prog_1_method_34_code 18 = .ok (.getfield 23, 3) := by decide +kernel
theorem d_UF_copy_21 : decode prog_1_method_34_code 21 = .ok (.iload_n 1, 1) := by decide +kernel
theorem d_UF_copy_22 : decode prog_1_method_34_code 22 = .ok (.aaload, 1) := by decide +kernel
theorem d_UF_copy_23 : decode prog_1_method_34_code 23 = .ok (.astore 6, 2) := by decide +kernel
theorem d_UF_copy_25 : decode prog_1_method_34_code 25 = .ok (.aload_n 0, 1) := by decide +kernel
theorem d_UF_copy_26 : decode prog_1_method_34_code 26 = .ok (.getfield 23, 3) := by decide +kernel
theorem d_UF_copy_29 : decode prog_1_method_34_code 29 = .ok (.iload_n 3, 1) := by decide +kernel
theorem d_UF_copy_30 : decode prog_1_method_34_code 30 = .ok (.aaload, 1) := by decide +kernel
theorem d_UF_copy_31 : decode prog_1_method_34_code 31 = .ok (.astore 7, 2) := by decide +kernel
theorem d_UF_copy_33 : decode prog_1_method_34_code 33 = .ok (.aload 6, 2) := by decide +kernel
theorem d_UF_copy_35 : decode prog_1_method_34_code 35 = .ok (.getfield 236, 3) := by decide +kernel
theorem d_UF_copy_38 : decode prog_1_method_34_code 38 = .ok (.iconst (-1), 1) := by decide +kernel
theorem d_UF_copy_39 : decode prog_1_method_34_code 39 = .ok (.if_icmp .eq 12, 3) := by decide +kernel
theorem d_UF_copy_42 : decode prog_1_method_34_code 42 = .ok (.aload 7, 2) := by decide +kernel
theorem d_UF_copy_44 : decode prog_1_method_34_code 44 = .ok (.getfield 236, 3) := by decide +kernel
theorem d_UF_copy_47 : decode prog_1_method_34_code 47 = .ok (.iconst (-1), 1) := by decide +kernel
theorem d_UF_copy_48 : decode prog_1_method_34_code 48 = .ok (.if_icmp .ne 6, 3) := by decide +kernel
theorem d_UF_copy_51 : decode prog_1_method_34_code 51 = .ok (.bipush (-11), 2) := by decide +kernel
theorem d_UF_copy_53 : decode prog_1_method_34_code 53 = .ok (.ireturn, 1) := by decide +kernel
theorem d_UF_copy_54 : decode prog_1_method_34_code 54 = .ok (.aload 6, 2) := by decide +kernel
theorem d_UF_copy_56 : decode prog_1_method_34_code 56 = .ok (.getfield 236, 3) := by decide +kernel
theorem d_UF_copy_59 : decode prog_1_method_34_code 59 = .ok (.aload 7, 2) := by decide +kernel
theorem d_UF_copy_61 : decode prog_1_method_34_code 61 = .ok (.getfield 236, 3) := by decide +kernel
theorem d_UF_copy_64 : decode prog_1_method_34_code 64 = .ok (.if_icmp .eq 6, 3) := by decide +kernel
theorem d_UF_copy_67 : decode prog_1_method_34_code 67 = .ok (.bipush (-13), 2) := by decide +kernel
theorem d_UF_copy_69 : decode prog_1_method_34_code 69 = .ok (.ireturn, 1) := by decide +kernel
theorem d_UF_copy_70 : decode prog_1_method_34_code 70 = .ok (.iload_n 2, 1) := by decide +kernel
theorem d_UF_copy_71 : decode prog_1_method_34_code 71 = .ok (.ifCond .lt 13, 3) := by decide +kernel
theorem d_UF_copy_74 : decode prog_1_method_34_code 74 = .ok (.iload 4, 2) := by decide +kernel
theorem d_UF_copy_76 : decode prog_1_method_34_code 76 = .ok (.ifCond .lt 8, 3) := by decide +kernel
theorem d_UF_copy_79 : decode prog_1_method_34_code 79 = .ok (.iload 5, 2) := by decide +kernel
theorem d_UF_copy_81 : decode prog_1_method_34_code 81 = .ok (.ifCond .ge 6, 3) := by decide +kernel
theorem d_UF_copy_84 : decode prog_1_method_34_code 84 = .ok (.bipush (-12), 2) := by decide +kernel
theorem d_UF_copy_86 : decode prog_1_method_34_code 86 = .ok (.ireturn, 1) := by decide +kernel
theorem d_UF_copy_87 : decode prog_1_method_34_code 87 = .ok (.iload 5, 2) := by decide +kernel
theorem d_UF_copy_89 : decode prog_1_method_34_code 89 = .ok (.aload 6, 2) := by decide +kernel
theorem d_UF_copy_91 : decode prog_1_method_34_code 91 = .ok (.getfield 242, 3) := by decide +kernel
theorem d_UF_copy_94 : decode prog_1_method_34_code 94 = .ok (.iload_n 2, 1) := by decide +kernel
theorem d_UF_copy_95 : decode prog_1_method_34_code 95 = .ok (.isub, 1) := by decide +kernel
theorem d_UF_copy_96 : decode prog_1_method_34_code 96 = .ok (.if_icmp .gt 16, 3) := by decide +kernel
theorem d_UF_copy_99 : decode prog_1_method_34_code 99 = .ok (.iload 5, 2) := by decide +kernel
theorem d_UF_copy_101 : decode prog_1_method_34_code 101 = .ok (.aload 7, 2) := by decide +kernel
theorem d_UF_copy_103 : decode prog_1_method_34_code 103 = .ok (.getfield 242, 3) := by decide +kernel
theorem d_UF_copy_106 : decode prog_1_method_34_code 106 = .ok (.iload 4, 2) := by decide +kernel
theorem d_UF_copy_108 : decode prog_1_method_34_code 108 = .ok (.isub, 1) := by decide +kernel
theorem d_UF_copy_109 : decode prog_1_method_34_code 109 = .ok (.if_icmp .le 6, 3) := by decide +kernel
theorem d_UF_copy_112 : decode prog_1_method_34_code 112 = .ok (.bipush (-12), 2) := by decide +kernel
theorem d_UF_copy_114 : decode prog_1_method_34_code 114 = .ok (.ireturn, 1) := by decide +kernel
theorem d_UF_copy_115 : decode prog_1_method_34_code 115 = .ok (.aload 6, 2) := by decide +kernel
theorem d_UF_copy_117 : decode prog_1_method_34_code 117 = .ok (.getfield 243, 3) := by decide +kernel
theorem d_UF_copy_120 : decode prog_1_method_34_code 120 = .ok (.iload_n 2, 1) := by decide +kernel
theorem d_UF_copy_121 : decode prog_1_method_34_code 121 = .ok (.aload 7, 2) := by decide +kernel
theorem d_UF_copy_123 : decode prog_1_method_34_code 123 = .ok (.getfield 243, 3) := by decide +kernel
theorem d_UF_copy_126 : decode prog_1_method_34_code 126 = .ok (.iload 4, 2) := by decide +kernel
theorem d_UF_copy_128 : decode prog_1_method_34_code 128 = .ok (.iload 5, 2) := by decide +kernel
theorem d_UF_copy_130 : decode prog_1_method_34_code 130 = .ok (.invokestatic 246, 3) := by decide +kernel
theorem d_UF_copy_133 : decode prog_1_method_34_code 133 = .ok (.iload 5, 2) := by decide +kernel
theorem d_UF_copy_135 : decode prog_1_method_34_code 135 = .ok (.ireturn, 1) := by decide +kernel
def p_UF_copy (Q : Int32 → AH → Prop) (x1 : Int32) (x2 : Int32) (x3 : Int32) (x4 : Int32) (x5 : Int32) (h : AH) : Prop := p_UF_isSheet (fun r2 h1 => ((r2 = 0 → Q (-2) h1) ∧ (¬ r2 = 0 → p_UF_isSheet (fun r4 h3 => ((¬ r4 = 0 → inb x1 4 ∧ 0 < rR T1 h3 3 x1.toNatClampNeg ∧ inb x3 4 ∧ 0 < rR T1 h3 3 x3.toNatClampNeg ∧ vA T1 h3 (rR T1 h3 3 x1.toNatClampNeg - 1) ∧ (rS T1 h3 (rR T1 h3 3 x1.toNatClampNeg - 1)).1 = 8 ∧ (((h3.1 (rR T1 h3 3 x1.toNatClampNeg - 1) 1) = (-1) → Q (-11) h3) ∧ (¬ (h3.1 (rR T1 h3 3 x1.toNatClampNeg - 1) 1) = (-1) → vA T1 h3 (rR T1 h3 3 x3.toNatClampNeg - 1) ∧ (rS T1 h3 (rR T1 h3 3 x3.toNatClampNeg - 1)).1 = 8 ∧ ((¬ (h3.1 (rR T1 h3 3 x3.toNatClampNeg - 1) 1) = (-1) → (((h3.1 (rR T1 h3 3 x1.toNatClampNeg - 1) 1) = (h3.1 (rR T1 h3 3 x3.toNatClampNeg - 1) 1) → ((x2 < 0 → Q (-12) h3) ∧ (¬ x2 < 0 → ((x4 < 0 → Q (-12) h3) ∧ (¬ x4 < 0 → ((0 ≤ x5 → ((((h3.1 (rR T1 h3 3 x1.toNatClampNeg - 1) 2) - x2) < x5 → Q (-12) h3) ∧ (¬ ((h3.1 (rR T1 h3 3 x1.toNatClampNeg - 1) 2) - x2) < x5 → ((x5 ≤ ((h3.1 (rR T1 h3 3 x3.toNatClampNeg - 1) 2) - x4) → 0 < rR T1 h3 (rR T1 h3 3 x1.toNatClampNeg - 1) 0 ∧ 0 < rR T1 h3 (rR T1 h3 3 x3.toNatClampNeg - 1) 0 ∧ vA T1 h3 (rR T1 h3 (rR T1 h3 3 x1.toNatClampNeg - 1) 0 - 1) ∧ (rS T1 h3 (rR T1 h3 (rR T1 h3 3 x1.toNatClampNeg - 1) 0 - 1)).1 = 100 ∧ vA T1 h3 (rR T1 h3 (rR T1 h3 3 x3.toNatClampNeg - 1) 0 - 1) ∧ (rS T1 h3 (rR T1 h3 (rR T1 h3 3 x3.toNatClampNeg - 1) 0 - 1)).1 = 100 ∧ 0 ≤ x2.toInt ∧ 0 ≤ x4.toInt ∧ 0 ≤ x5.toInt ∧ x2.toInt + x5.toInt ≤ ((rS T1 h3 (rR T1 h3 (rR T1 h3 3 x1.toNatClampNeg - 1) 0 - 1)).2 : Nat) ∧ x4.toInt + x5.toInt ≤ ((rS T1 h3 (rR T1 h3 (rR T1 h3 3 x3.toNatClampNeg - 1) 0 - 1)).2 : Nat) ∧ (rS T1 h3 (rR T1 h3 (rR T1 h3 3 x1.toNatClampNeg - 1) 0 - 1)).2 < 2147483648 ∧ (rS T1 h3 (rR T1 h3 (rR T1 h3 3 x3.toNatClampNeg - 1) 0 - 1)).2 < 2147483648 ∧ Q x5 (wC h3 (rR T1 h3 (rR T1 h3 3 x1.toNatClampNeg - 1) 0 - 1) (rR T1 h3 (rR T1 h3 3 x3.toNatClampNeg - 1) 0 - 1) x2 x4 x5)) ∧ (¬ x5 ≤ ((h3.1 (rR T1 h3 3 x3.toNatClampNeg - 1) 2) - x4) → Q (-12) h3))))) ∧ (¬ 0 ≤ x5 → Q (-12) h3))))))) ∧ (¬ (h3.1 (rR T1 h3 3 x1.toNatClampNeg - 1) 1) = (h3.1 (rR T1 h3 3 x3.toNatClampNeg - 1) 1) → Q (-13) h3))) ∧ ((h3.1 (rR T1 h3 3 x3.toNatClampNeg - 1) 1) = (-1) → Q (-11) h3))))) ∧ (r4 = 0 → Q (-2) h3))) x3 h1))) x1 h
set_option maxRecDepth 20000 in
theorem r_UF_copy_0 {G : GG} {d : Nat} {Q : Int32 → AH → Prop} (x1 : Int32) (x2 : Int32) (x3 : Int32) (x4 : Int32) (x5 : Int32) (h : AH) (H : p_UF_copy Q x1 x2 x3 x4 x5 h) : Att G T1 m_UF_copy (d + 2) 0 [some (.ref 0), some (.int x1), some (.int x2), some (.int x3), some (.int x4), some (.int x5), none, none] [] h 0 0 (iQ Q) := by
  refine A_iload_n d_UF_copy_0 rfl ?_
  refine A_cI [.int x1] [] (ct_UF_211 rfl) d_UF_copy_1 rfl rfl (by decide) (Nat.le_of_ble_eq_true rfl) trivial (ok_UF_isSheet (d := d) H) (fun r2 h1 H => ?_)
  refine A_if_eq 14 d_UF_copy_4 (by decide) (fun z => ?_) (fun z => ?_)
  · have H := H.1 z
    refine A_bipush (-2) (by decide) d_UF_copy_14 ?_
    exact A_iret d_UF_copy_16 rfl rfl H
  · have H := H.2 z
    refine A_iload_n d_UF_copy_7 rfl ?_
    refine A_cI [.int x3] [] (ct_UF_211 rfl) d_UF_copy_8 rfl rfl (by decide) (Nat.le_of_ble_eq_true rfl) trivial (ok_UF_isSheet (d := d) H) (fun r4 h3 H => ?_)
    refine A_if_ne 17 d_UF_copy_11 (by decide) (fun z => ?_) (fun z => ?_)
    · have H := H.1 z
      refine A_aload_n d_UF_copy_17 rfl ?_
      refine A_get (v := .ref 3) d_UF_copy_18 (fo_UF_23_11 rfl) (vA_s (by decide)) rfl rfl ?_
      refine A_iload_n d_UF_copy_21 rfl ?_
      obtain ⟨c5, H⟩ := H
      obtain ⟨c6, H⟩ := H
      refine A_aald (t := 2) (n := 4) d_UF_copy_22 (by decide) (vA_s (by decide)) rfl c5 (pos_sub c6) ?_
      refine A_astore [some (.ref 0), some (.int x1), some (.int x2), some (.int x3), some (.int x4), some (.int x5), some (.ref (rR T1 h3 3 x1.toNatClampNeg - 1)), none] d_UF_copy_23 (by decide) rfl rfl ?_
      refine A_aload_n d_UF_copy_25 rfl ?_
      refine A_get (v := .ref 3) d_UF_copy_26 (fo_UF_23_11 rfl) (vA_s (by decide)) rfl rfl ?_
      refine A_iload_n d_UF_copy_29 rfl ?_
      obtain ⟨c7, H⟩ := H
      obtain ⟨c8, H⟩ := H
      refine A_aald (t := 2) (n := 4) d_UF_copy_30 (by decide) (vA_s (by decide)) rfl c7 (pos_sub c8) ?_
      refine A_astore [some (.ref 0), some (.int x1), some (.int x2), some (.int x3), some (.int x4), some (.int x5), some (.ref (rR T1 h3 3 x1.toNatClampNeg - 1)), some (.ref (rR T1 h3 3 x3.toNatClampNeg - 1))] d_UF_copy_31 (by decide) rfl rfl ?_
      refine A_aload d_UF_copy_33 rfl ?_
      obtain ⟨c9, H⟩ := H
      obtain ⟨c10, H⟩ := H
      refine A_get (v := .int (h3.1 (rR T1 h3 3 x1.toNatClampNeg - 1) 1)) d_UF_copy_35 (fo_UF_236_8 rfl) c9 c10 rfl ?_
      refine A_iconst (-1) (by decide) d_UF_copy_38 ?_
      refine A_icmp_eq 51 d_UF_copy_39 (by decide) (fun z => ?_) (fun z => ?_)
      · have H := H.1 z
        refine A_bipush (-11) (by decide) d_UF_copy_51 ?_
        exact A_iret d_UF_copy_53 rfl rfl H
      · have H := H.2 z
        refine A_aload d_UF_copy_42 rfl ?_
        obtain ⟨c11, H⟩ := H
        obtain ⟨c12, H⟩ := H
        refine A_get (v := .int (h3.1 (rR T1 h3 3 x3.toNatClampNeg - 1) 1)) d_UF_copy_44 (fo_UF_236_8 rfl) c11 c12 rfl ?_
        refine A_iconst (-1) (by decide) d_UF_copy_47 ?_
        refine A_icmp_ne 54 d_UF_copy_48 (by decide) (fun z => ?_) (fun z => ?_)
        · have H := H.1 z
          refine A_aload d_UF_copy_54 rfl ?_
          refine A_get (v := .int (h3.1 (rR T1 h3 3 x1.toNatClampNeg - 1) 1)) d_UF_copy_56 (fo_UF_236_8 rfl) c9 c10 rfl ?_
          refine A_aload d_UF_copy_59 rfl ?_
          refine A_get (v := .int (h3.1 (rR T1 h3 3 x3.toNatClampNeg - 1) 1)) d_UF_copy_61 (fo_UF_236_8 rfl) c11 c12 rfl ?_
          refine A_icmp_eq 70 d_UF_copy_64 (by decide) (fun z => ?_) (fun z => ?_)
          · have H := H.1 z
            refine A_iload_n d_UF_copy_70 rfl ?_
            refine A_if_lt 84 d_UF_copy_71 (by decide) (fun z => ?_) (fun z => ?_)
            · have H := H.1 z
              refine A_bipush (-12) (by decide) d_UF_copy_84 ?_
              exact A_iret d_UF_copy_86 rfl rfl H
            · have H := H.2 z
              refine A_iload d_UF_copy_74 rfl ?_
              refine A_if_lt 84 d_UF_copy_76 (by decide) (fun z => ?_) (fun z => ?_)
              · have H := H.1 z
                refine A_bipush (-12) (by decide) d_UF_copy_84 ?_
                exact A_iret d_UF_copy_86 rfl rfl H
              · have H := H.2 z
                refine A_iload d_UF_copy_79 rfl ?_
                refine A_if_ge 87 d_UF_copy_81 (by decide) (fun z => ?_) (fun z => ?_)
                · have H := H.1 z
                  refine A_iload d_UF_copy_87 rfl ?_
                  refine A_aload d_UF_copy_89 rfl ?_
                  refine A_get (v := .int (h3.1 (rR T1 h3 3 x1.toNatClampNeg - 1) 2)) d_UF_copy_91 (fo_UF_242_8 rfl) c9 c10 rfl ?_
                  refine A_iload_n d_UF_copy_94 rfl ?_
                  refine A_isub d_UF_copy_95 ?_
                  refine A_icmp_gt 112 d_UF_copy_96 (by decide) (fun z => ?_) (fun z => ?_)
                  · have H := H.1 z
                    refine A_bipush (-12) (by decide) d_UF_copy_112 ?_
                    exact A_iret d_UF_copy_114 rfl rfl H
                  · have H := H.2 z
                    refine A_iload d_UF_copy_99 rfl ?_
                    refine A_aload d_UF_copy_101 rfl ?_
                    refine A_get (v := .int (h3.1 (rR T1 h3 3 x3.toNatClampNeg - 1) 2)) d_UF_copy_103 (fo_UF_242_8 rfl) c11 c12 rfl ?_
                    refine A_iload d_UF_copy_106 rfl ?_
                    refine A_isub d_UF_copy_108 ?_
                    refine A_icmp_le 115 d_UF_copy_109 (by decide) (fun z => ?_) (fun z => ?_)
                    · have H := H.1 z
                      refine A_aload d_UF_copy_115 rfl ?_
                      obtain ⟨c13, H⟩ := H
                      refine A_get (v := .ref (rR T1 h3 (rR T1 h3 3 x1.toNatClampNeg - 1) 0 - 1)) d_UF_copy_117 (fo_UF_243_8 rfl) c9 c10 (vR_pos c13) ?_
                      refine A_iload_n d_UF_copy_120 rfl ?_
                      refine A_aload d_UF_copy_121 rfl ?_
                      obtain ⟨c14, H⟩ := H
                      refine A_get (v := .ref (rR T1 h3 (rR T1 h3 3 x3.toNatClampNeg - 1) 0 - 1)) d_UF_copy_123 (fo_UF_243_8 rfl) c11 c12 (vR_pos c14) ?_
                      refine A_iload d_UF_copy_126 rfl ?_
                      refine A_iload d_UF_copy_128 rfl ?_
                      obtain ⟨c15, H⟩ := H
                      obtain ⟨c16, H⟩ := H
                      obtain ⟨c17, H⟩ := H
                      obtain ⟨c18, H⟩ := H
                      obtain ⟨c19, H⟩ := H
                      obtain ⟨c20, H⟩ := H
                      obtain ⟨c21, H⟩ := H
                      obtain ⟨c22, H⟩ := H
                      obtain ⟨c23, H⟩ := H
                      obtain ⟨c24, H⟩ := H
                      obtain ⟨c25, H⟩ := H
                      refine A_acopy (n0 := _) (n1 := _) d_UF_copy_130 (tG 806 (by decide +kernel) (by decide +kernel)) (tG 439 (by decide +kernel) (by decide +kernel)) (tG 438 (by decide +kernel) (by decide +kernel)) (tG 14 (by decide +kernel) (by decide +kernel)) c15 (rS_ex c16) c17 (rS_ex c18) c19 c20 c21 c22 c23 c24 c25 (Nat.le_of_ble_eq_true rfl) ?_
                      refine A_iload d_UF_copy_133 rfl ?_
                      exact A_iret d_UF_copy_135 rfl rfl H
                    · have H := H.2 z
                      refine A_bipush (-12) (by decide) d_UF_copy_112 ?_
                      exact A_iret d_UF_copy_114 rfl rfl H
                · have H := H.2 z
                  refine A_bipush (-12) (by decide) d_UF_copy_84 ?_
                  exact A_iret d_UF_copy_86 rfl rfl H
          · have H := H.2 z
            refine A_bipush (-13) (by decide) d_UF_copy_67 ?_
            exact A_iret d_UF_copy_69 rfl rfl H
        · have H := H.2 z
          refine A_bipush (-11) (by decide) d_UF_copy_51 ?_
          exact A_iret d_UF_copy_53 rfl rfl H
    · have H := H.2 z
      refine A_bipush (-2) (by decide) d_UF_copy_14 ?_
      exact A_iret d_UF_copy_16 rfl rfl H
set_option maxRecDepth 20000 in
theorem ok_UF_copy {G : GG} {d : Nat} {Q : Int32 → AH → Prop} {x1 : Int32} {x2 : Int32} {x3 : Int32} {x4 : Int32} {x5 : Int32} {h : AH} (H : p_UF_copy Q x1 x2 x3 x4 x5 h) : WP G T1 m_UF_copy (d + 2) [.ref 0, .int x1, .int x2, .int x3, .int x4, .int x5] h 0 0 (iQ Q) := by
  exact WP.enter 2 (by decide) rfl rfl (r_UF_copy_0 x1 x2 x3 x4 x5 h H)
theorem d_MO_between_0 : decode prog_14_method_19_code 0 = .ok (.aload_n 0, 1) := by decide +kernel
theorem d_MO_between_1 : decode prog_14_method_19_code 1 = .ok (.iload_n 1, 1) := by decide +kernel
theorem d_MO_between_2 : decode prog_14_method_19_code 2 = .ok (.invokestatic 138, 3) := by decide +kernel
theorem d_MO_between_5 : decode prog_14_method_19_code 5 = .ok (.iconst 4, 1) := by decide +kernel
theorem d_MO_between_6 : decode prog_14_method_19_code 6 = .ok (.if_icmp .ne 7, 3) := by decide +kernel
theorem d_MO_between_9 : decode prog_14_method_19_code 9 = .ok (.iconst 5, 1) := by decide +kernel
theorem d_MO_between_10 : decode prog_14_method_19_code 10 = .ok (.goto 7, 3) := by decide +kernel
theorem d_MO_between_13 : decode prog_14_method_19_code 13 = .ok (.iload_n 1, 1) := by decide +kernel
theorem d_MO_between_14 : decode prog_14_method_19_code 14 = .ok (.invokestatic 138, 3) := by decide +kernel
theorem d_MO_between_17 : decode prog_14_method_19_code 17 = .ok (.invokevirtual 152, 3) := by decide +kernel
theorem d_MO_between_20 : decode prog_14_method_19_code 20 = .ok (.iload_n 1, 1) := by decide +kernel
theorem d_MO_between_21 : decode prog_14_method_19_code 21 = .ok (.invokestatic 138, 3) := by decide +kernel
theorem d_MO_between_24 : decode prog_14_method_19_code 24 = .ok (.iconst 4, 1) := by decide +kernel
theorem d_MO_between_25 : decode prog_14_method_19_code 25 = .ok (.if_icmp .ne 30, 3) := by decide +kernel
theorem d_MO_between_28 : decode prog_14_method_19_code 28 = .ok (.aload_n 0, 1) := by decide +kernel
theorem d_MO_between_29 : decode prog_14_method_19_code 29 = .ok (.getfield 135, 3) := by decide +kernel
theorem d_MO_between_32 : decode prog_14_method_19_code 32 = .ok (.ifCond .le 23, 3) := by decide +kernel
theorem d_MO_between_35 : decode prog_14_method_19_code 35 = .ok (.aload_n 0, 1) := by decide +kernel
theorem d_MO_between_36 : decode prog_14_method_19_code 36 = .ok (.getfield 55, 3) := by decide +kernel
theorem d_MO_between_39 : decode prog_14_method_19_code 39 = .ok (.aload_n 0, 1) := by decide +kernel
theorem d_MO_between_40 : decode prog_14_method_19_code 40 = .ok (.getfield 135, 3) := by decide +kernel
theorem d_MO_between_43 : decode prog_14_method_19_code 43 = .ok (.iconst 1, 1) := by decide +kernel
theorem d_MO_between_44 : decode prog_14_method_19_code 44 = .ok (.isub, 1) := by decide +kernel
theorem d_MO_between_45 : decode prog_14_method_19_code 45 = .ok (.iaload, 1) := by decide +kernel
theorem d_MO_between_46 : decode prog_14_method_19_code 46 = .ok (.invokestatic 138, 3) := by decide +kernel
theorem d_MO_between_49 : decode prog_14_method_19_code 49 = .ok (.iconst 4, 1) := by decide +kernel
theorem d_MO_between_50 : decode prog_14_method_19_code 50 = .ok (.if_icmp .ne 5, 3) := by decide +kernel
theorem d_MO_between_53 : decode prog_14_method_19_code 53 = .ok (.iconst 0, 1) := by decide +kernel
theorem d_MO_between_54 : decode prog_14_method_19_code 54 = .ok (.ireturn, 1) := by decide +kernel
theorem d_MO_between_55 : decode prog_14_method_19_code 55 = .ok (.aload_n 0, 1) := by decide +kernel
theorem d_MO_between_56 : decode prog_14_method_19_code 56 = .ok (.iload_n 1, 1) := by decide +kernel
theorem d_MO_between_57 : decode prog_14_method_19_code 57 = .ok (.invokevirtual 149, 3) := by decide +kernel
theorem d_MO_between_60 : decode prog_14_method_19_code 60 = .ok (.iconst 1, 1) := by decide +kernel
theorem d_MO_between_61 : decode prog_14_method_19_code 61 = .ok (.ireturn, 1) := by decide +kernel
def p_MO_between_55 (Q : Int32 → AH → Prop) (x1 : Int32) (h : AH) : Prop := p_MO_holds (fun h1 => Q 1 h1) x1 h
def p_MO_between_17 (Q : Int32 → AH → Prop) (x1 : Int32) (s1 : Int32) (h : AH) : Prop := p_MO_unwinds (fun h1 => p_MO_rank (fun r3 h2 => ((¬ r3 = 4 → p_MO_between_55 Q   x1 h2) ∧ (r3 = 4 → (((h2.1 59 27) ≤ 0 → p_MO_between_55 Q   x1 h2) ∧ (¬ (h2.1 59 27) ≤ 0 → inb ((h2.1 59 27) - 1) 200 ∧ p_MO_rank (fun r6 h5 => ((¬ r6 = 4 → p_MO_between_55 Q   x1 h5) ∧ (r6 = 4 → Q 0 h5))) (h2.1 75 ((h2.1 59 27) - 1)) h2))))) x1 h1) s1 h
def p_MO_between (Q : Int32 → AH → Prop) (x1 : Int32) (h : AH) : Prop := p_MO_rank (fun r2 h1 => ((¬ r2 = 4 → p_MO_rank (fun r4 h3 => p_MO_between_17 Q   x1 r4 h3) x1 h1) ∧ (r2 = 4 → p_MO_between_17 Q   x1 5 h1))) x1 h
set_option maxRecDepth 20000 in
theorem r_MO_between_55 {G : GG} {d : Nat} {Q : Int32 → AH → Prop} (x1 : Int32) (h : AH) (H : p_MO_between_55 Q x1 h) : Att G T1 m_MO_between (d + 2) 55 [some (.ref 59), some (.int x1)] [] h 0 0 (iQ Q) := by
  refine A_aload_n d_MO_between_55 rfl ?_
  refine A_iload_n d_MO_between_56 rfl ?_
  refine A_cV [.ref 59, .int x1] [] (ct_MO_149 rfl) d_MO_between_57 rfl rfl (by decide) (Nat.le_of_ble_eq_true rfl) (rcA_o (c := 12) rfl (vA_s (by decide)) rfl (by decide) rfl) (ok_MO_holds (d := d + 1) H) (fun h1 H => ?_)
  refine A_iconst 1 (by decide) d_MO_between_60 ?_
  exact A_iret d_MO_between_61 rfl rfl H
set_option maxRecDepth 20000 in
theorem r_MO_between_17 {G : GG} {d : Nat} {Q : Int32 → AH → Prop} (x1 : Int32) (s1 : Int32) (h : AH) (H : p_MO_between_17 Q x1 s1 h) : Att G T1 m_MO_between (d + 2) 17 [some (.ref 59), some (.int x1)] [.int s1, .ref 59] h 0 0 (iQ Q) := by
  refine A_cV [.ref 59, .int s1] [] (ct_MO_152 rfl) d_MO_between_17 rfl rfl (by decide) (Nat.le_of_ble_eq_true rfl) (rcA_o (c := 12) rfl (vA_s (by decide)) rfl (by decide) rfl) (ok_MO_unwinds (d := d) H) (fun h1 H => ?_)
  refine A_iload_n d_MO_between_20 rfl ?_
  refine A_cI [.int x1] [] (ct_MO_138 rfl) d_MO_between_21 rfl rfl (by decide) (Nat.le_of_ble_eq_true rfl) trivial (ok_MO_rank (d := d + 1) H) (fun r3 h2 H => ?_)
  refine A_iconst 4 (by decide) d_MO_between_24 ?_
  refine A_icmp_ne 55 d_MO_between_25 (by decide) (fun z => ?_) (fun z => ?_)
  · have H := H.1 z
    exact r_MO_between_55   _ _ H
  · have H := H.2 z
    refine A_aload_n d_MO_between_28 rfl ?_
    refine A_get (v := .int (h2.1 59 27)) d_MO_between_29 (fo_MO_135_12 rfl) (vA_s (by decide)) rfl rfl ?_
    refine A_if_le 55 d_MO_between_32 (by decide) (fun z => ?_) (fun z => ?_)
    · have H := H.1 z
      exact r_MO_between_55   _ _ H
    · have H := H.2 z
      refine A_aload_n d_MO_between_35 rfl ?_
      refine A_get (v := .ref 75) d_MO_between_36 (fo_MO_55_12 rfl) (vA_s (by decide)) rfl rfl ?_
      refine A_aload_n d_MO_between_39 rfl ?_
      refine A_get (v := .int (h2.1 59 27)) d_MO_between_40 (fo_MO_135_12 rfl) (vA_s (by decide)) rfl rfl ?_
      refine A_iconst 1 (by decide) d_MO_between_43 ?_
      refine A_isub d_MO_between_44 ?_
      obtain ⟨c4, H⟩ := H
      refine A_iald (n := 200) d_MO_between_45 (vA_s (by decide)) rfl c4 ?_
      refine A_cI [.int (h2.1 75 ((h2.1 59 27) - 1))] [] (ct_MO_138 rfl) d_MO_between_46 rfl rfl (by decide) (Nat.le_of_ble_eq_true rfl) trivial (ok_MO_rank (d := d + 1) H) (fun r6 h5 H => ?_)
      refine A_iconst 4 (by decide) d_MO_between_49 ?_
      refine A_icmp_ne 55 d_MO_between_50 (by decide) (fun z => ?_) (fun z => ?_)
      · have H := H.1 z
        exact r_MO_between_55   _ _ H
      · have H := H.2 z
        refine A_iconst 0 (by decide) d_MO_between_53 ?_
        exact A_iret d_MO_between_54 rfl rfl H
set_option maxRecDepth 20000 in
theorem r_MO_between_0 {G : GG} {d : Nat} {Q : Int32 → AH → Prop} (x1 : Int32) (h : AH) (H : p_MO_between Q x1 h) : Att G T1 m_MO_between (d + 2) 0 [some (.ref 59), some (.int x1)] [] h 0 0 (iQ Q) := by
  refine A_aload_n d_MO_between_0 rfl ?_
  refine A_iload_n d_MO_between_1 rfl ?_
  refine A_cI [.int x1] [.ref 59] (ct_MO_138 rfl) d_MO_between_2 rfl rfl (by decide) (Nat.le_of_ble_eq_true rfl) trivial (ok_MO_rank (d := d + 1) H) (fun r2 h1 H => ?_)
  refine A_iconst 4 (by decide) d_MO_between_5 ?_
  refine A_icmp_ne 13 d_MO_between_6 (by decide) (fun z => ?_) (fun z => ?_)
  · have H := H.1 z
    refine A_iload_n d_MO_between_13 rfl ?_
    refine A_cI [.int x1] [.ref 59] (ct_MO_138 rfl) d_MO_between_14 rfl rfl (by decide) (Nat.le_of_ble_eq_true rfl) trivial (ok_MO_rank (d := d + 1) H) (fun r4 h3 H => ?_)
    exact r_MO_between_17   _ _ _ H
  · have H := H.2 z
    refine A_iconst 5 (by decide) d_MO_between_9 ?_
    refine A_goto 17 d_MO_between_10 (by decide) ?_
    exact r_MO_between_17   _ _ _ H
set_option maxRecDepth 20000 in
theorem ok_MO_between {G : GG} {d : Nat} {Q : Int32 → AH → Prop} {x1 : Int32} {h : AH} (H : p_MO_between Q x1 h) : WP G T1 m_MO_between (d + 2) [.ref 59, .int x1] h 0 0 (iQ Q) := by
  exact WP.enter 0 (by decide) rfl rfl (r_MO_between_0 x1 h H)
theorem d_MO_count_0 : decode prog_14_method_9_code 0 = .ok (.iload_n 1, 1) := by decide +kernel
theorem d_MO_count_1 : decode prog_14_method_9_code 1 = .ok (.tableswitch 69 0 5 #[39, 44, 49, 54, 59, 64], 39) := by decide +kernel
theorem d_MO_count_40 : decode prog_14_method_9_code 40 = .ok (.aload_n 0, 1) := by decide +kernel
theorem d_MO_count_41 : decode prog_14_method_9_code 41 = .ok (.getfield 90, 3) := by decide +kernel
theorem d_MO_count_44 : decode prog_14_method_9_code 44 = .ok (.ireturn, 1) := by decide +kernel
theorem d_MO_count_45 : decode prog_14_method_9_code 45 = .ok (.aload_n 0, 1) := by decide +kernel
theorem d_MO_count_46 : decode prog_14_method_9_code 46 = .ok (.invokevirtual 101, 3) := by decide +kernel
theorem d_MO_count_49 : decode prog_14_method_9_code 49 = .ok (.ireturn, 1) := by decide +kernel
theorem d_MO_count_50 : decode prog_14_method_9_code 50 = .ok (.aload_n 0, 1) := by decide +kernel
theorem d_MO_count_51 : decode prog_14_method_9_code 51 = .ok (.invokevirtual 104, 3) := by decide +kernel
theorem d_MO_count_54 : decode prog_14_method_9_code 54 = .ok (.ireturn, 1) := by decide +kernel
theorem d_MO_count_55 : decode prog_14_method_9_code 55 = .ok (.aload_n 0, 1) := by decide +kernel
theorem d_MO_count_56 : decode prog_14_method_9_code 56 = .ok (.getfield 107, 3) := by decide +kernel
theorem d_MO_count_59 : decode prog_14_method_9_code 59 = .ok (.ireturn, 1) := by decide +kernel
theorem d_MO_count_60 : decode prog_14_method_9_code 60 = .ok (.aload_n 0, 1) := by decide +kernel
theorem d_MO_count_61 : decode prog_14_method_9_code 61 = .ok (.getfield 110, 3) := by decide +kernel
theorem d_MO_count_64 : decode prog_14_method_9_code 64 = .ok (.ireturn, 1) := by decide +kernel
theorem d_MO_count_65 : decode prog_14_method_9_code 65 = .ok (.aload_n 0, 1) := by decide +kernel
theorem d_MO_count_66 : decode prog_14_method_9_code 66 = .ok (.getfield 82, 3) := by decide +kernel
theorem d_MO_count_69 : decode prog_14_method_9_code 69 = .ok (.ireturn, 1) := by decide +kernel
theorem d_MO_count_70 : decode prog_14_method_9_code 70 = .ok (.bipush (-2), 2) := by decide +kernel
theorem d_MO_count_72 : decode prog_14_method_9_code 72 = .ok (.ireturn, 1) := by decide +kernel
def p_MO_count (Q : Int32 → AH → Prop) (x1 : Int32) (h : AH) : Prop := ((x1 = 0 → Q (h.1 59 0) h) ∧ (x1 = 1 → p_MO_chains (fun r2 h1 => Q r2 h1) h) ∧ (x1 = 2 → p_MO_peopleAll (fun r4 h3 => Q r4 h3) h) ∧ (x1 = 3 → Q (h.1 59 11) h) ∧ (x1 = 4 → Q (h.1 59 12) h) ∧ (x1 = 5 → Q (h.1 59 8) h) ∧ (¬ x1 = 0 → ¬ x1 = 1 → ¬ x1 = 2 → ¬ x1 = 3 → ¬ x1 = 4 → ¬ x1 = 5 → Q (-2) h))
set_option maxRecDepth 20000 in
theorem r_MO_count_0 {G : GG} {d : Nat} {Q : Int32 → AH → Prop} (x1 : Int32) (h : AH) (H : p_MO_count Q x1 h) : Att G T1 m_MO_count (d + 2) 0 [some (.ref 59), some (.int x1)] [] h 0 0 (iQ Q) := by
  refine A_iload_n d_MO_count_0 rfl ?_
  by_cases z0 : x1 = 0
  · have H := H.1 z0
    refine A_tsI 40 d_MO_count_1 (by rw [z0]; decide) (by rw [z0]; decide) (by rw [z0]; rfl) (by decide) ?_
    refine A_aload_n d_MO_count_40 rfl ?_
    refine A_get (v := .int (h.1 59 0)) d_MO_count_41 (fo_MO_90_12 rfl) (vA_s (by decide)) rfl rfl ?_
    exact A_iret d_MO_count_44 rfl rfl H
  · have H := H.2
    by_cases z1 : x1 = 1
    · have H := H.1 z1
      refine A_tsI 45 d_MO_count_1 (by rw [z1]; decide) (by rw [z1]; decide) (by rw [z1]; rfl) (by decide) ?_
      refine A_aload_n d_MO_count_45 rfl ?_
      refine A_cI [.ref 59] [] (ct_MO_101 rfl) d_MO_count_46 rfl rfl (by decide) (Nat.le_of_ble_eq_true rfl) (rcA_o (c := 12) rfl (vA_s (by decide)) rfl (by decide) rfl) (ok_MO_chains (d := d) H) (fun r2 h1 H => ?_)
      exact A_iret d_MO_count_49 rfl rfl H
    · have H := H.2
      by_cases z2 : x1 = 2
      · have H := H.1 z2
        refine A_tsI 50 d_MO_count_1 (by rw [z2]; decide) (by rw [z2]; decide) (by rw [z2]; rfl) (by decide) ?_
        refine A_aload_n d_MO_count_50 rfl ?_
        refine A_cI [.ref 59] [] (ct_MO_104 rfl) d_MO_count_51 rfl rfl (by decide) (Nat.le_of_ble_eq_true rfl) (rcA_o (c := 12) rfl (vA_s (by decide)) rfl (by decide) rfl) (ok_MO_peopleAll (d := d + 1) H) (fun r4 h3 H => ?_)
        exact A_iret d_MO_count_54 rfl rfl H
      · have H := H.2
        by_cases z3 : x1 = 3
        · have H := H.1 z3
          refine A_tsI 55 d_MO_count_1 (by rw [z3]; decide) (by rw [z3]; decide) (by rw [z3]; rfl) (by decide) ?_
          refine A_aload_n d_MO_count_55 rfl ?_
          refine A_get (v := .int (h.1 59 11)) d_MO_count_56 (fo_MO_107_12 rfl) (vA_s (by decide)) rfl rfl ?_
          exact A_iret d_MO_count_59 rfl rfl H
        · have H := H.2
          by_cases z4 : x1 = 4
          · have H := H.1 z4
            refine A_tsI 60 d_MO_count_1 (by rw [z4]; decide) (by rw [z4]; decide) (by rw [z4]; rfl) (by decide) ?_
            refine A_aload_n d_MO_count_60 rfl ?_
            refine A_get (v := .int (h.1 59 12)) d_MO_count_61 (fo_MO_110_12 rfl) (vA_s (by decide)) rfl rfl ?_
            exact A_iret d_MO_count_64 rfl rfl H
          · have H := H.2
            by_cases z5 : x1 = 5
            · have H := H.1 z5
              refine A_tsI 65 d_MO_count_1 (by rw [z5]; decide) (by rw [z5]; decide) (by rw [z5]; rfl) (by decide) ?_
              refine A_aload_n d_MO_count_65 rfl ?_
              refine A_get (v := .int (h.1 59 8)) d_MO_count_66 (fo_MO_82_12 rfl) (vA_s (by decide)) rfl rfl ?_
              exact A_iret d_MO_count_69 rfl rfl H
            · have H := H.2
              have H := H z0 z1 z2 z3 z4 z5
              refine A_tsO 70 d_MO_count_1 (by have t0 := lv_neT z0 (a := 0) (by decide); have t1 := lv_neT z1 (a := 1) (by decide); have t2 := lv_neT z2 (a := 2) (by decide); have t3 := lv_neT z3 (a := 3) (by decide); have t4 := lv_neT z4 (a := 4) (by decide); have t5 := lv_neT z5 (a := 5) (by decide); omega) (by decide) ?_
              refine A_bipush (-2) (by decide) d_MO_count_70 ?_
              exact A_iret d_MO_count_72 rfl rfl H
set_option maxRecDepth 20000 in
theorem ok_MO_count {G : GG} {d : Nat} {Q : Int32 → AH → Prop} {x1 : Int32} {h : AH} (H : p_MO_count Q x1 h) : WP G T1 m_MO_count (d + 2) [.ref 59, .int x1] h 0 0 (iQ Q) := by
  exact WP.enter 0 (by decide) rfl rfl (r_MO_count_0 x1 h H)
theorem d_MO_feed_0 : decode prog_14_method_11_code 0 = .ok (.iload_n 1, 1) := by decide +kernel
theorem d_MO_feed_1 : decode prog_14_method_11_code 1 = .ok (.iconst 1, 1) := by decide +kernel
theorem d_MO_feed_2 : decode prog_14_method_11_code 2 = .ok (.iconst 5, 1) := by decide +kernel
theorem d_MO_feed_3 : decode prog_14_method_11_code 3 = .ok (.invokestatic 93, 3) := by decide +kernel
theorem d_MO_feed_6 : decode prog_14_method_11_code 6 = .ok (.ifCond .eq 41, 3) := by decide +kernel
theorem d_MO_feed_9 : decode prog_14_method_11_code 9 = .ok (.iload_n 2, 1) := by decide +kernel
theorem d_MO_feed_10 : decode prog_14_method_11_code 10 = .ok (.invokestatic 113, 3) := by decide +kernel
theorem d_MO_feed_13 : decode prog_14_method_11_code 13 = .ok (.ifCond .eq 34, 3) := by decide +kernel
theorem d_MO_feed_16 : decode prog_14_method_11_code 16 = .ok (.iload_n 3, 1) := by decide +kernel
theorem d_MO_feed_17 : decode prog_14_method_11_code 17 = .ok (.invokestatic 113, 3) := by decide +kernel
theorem d_MO_feed_20 : decode prog_14_method_11_code 20 = .ok (.ifCond .eq 27, 3) := by decide +kernel
theorem d_MO_feed_23 : decode prog_14_method_11_code 23 = .ok (.iload 4, 2) := by decide +kernel
theorem d_MO_feed_25 : decode prog_14_method_11_code 25 = .ok (.invokestatic 113, 3) := by decide +kernel
theorem d_MO_feed_28 : decode prog_14_method_11_code 28 = .ok (.ifCond .eq 19, 3) := by decide +kernel
theorem d_MO_feed_31 : decode prog_14_method_11_code 31 = .ok (.iload 5, 2) := by decide +kernel
theorem d_MO_feed_33 : decode prog_14_method_11_code 33 = .ok (.invokestatic 113, 3) := by decide +kernel
theorem d_MO_feed_36 : decode prog_14_method_11_code 36 = .ok (.ifCond .eq 11, 3) := by decide +kernel
theorem d_MO_feed_39 : decode prog_14_method_11_code 39 = .ok (.iload 6, 2) := by decide +kernel
theorem d_MO_feed_41 : decode prog_14_method_11_code 41 = .ok (.invokestatic 113, 3) := by decide +kernel
theorem d_MO_feed_44 : decode prog_14_method_11_code 44 = .ok (.ifCond .ne 6, 3) := by decide +kernel
theorem d_MO_feed_47 : decode prog_14_method_11_code 47 = .ok (.bipush (-2), 2) := by decide +kernel
theorem d_MO_feed_49 : decode prog_14_method_11_code 49 = .ok (.ireturn, 1) := by decide +kernel
theorem d_MO_feed_50 : decode prog_14_method_11_code 50 = .ok (.aload_n 0, 1) := by decide +kernel
theorem d_MO_feed_51 : decode prog_14_method_11_code 51 = .ok (.getfield 82, 3) := by decide +kernel
theorem d_MO_feed_54 : decode prog_14_method_11_code 54 = .ok (.iload_n 1, 1) := by decide +kernel
theorem d_MO_feed_55 : decode prog_14_method_11_code 55 = .ok (.iadd, 1) := by decide +kernel
theorem d_MO_feed_56 : decode prog_14_method_11_code 56 = .ok (.sipush 160, 3) := by decide +kernel
theorem d_MO_feed_59 : decode prog_14_method_11_code 59 = .ok (.if_icmp .le 6, 3) := by decide +kernel
theorem d_MO_feed_62 : decode prog_14_method_11_code 62 = .ok (.bipush (-4), 2) := by decide +kernel
theorem d_MO_feed_64 : decode prog_14_method_11_code 64 = .ok (.ireturn, 1) := by decide +kernel
theorem d_MO_feed_65 : decode prog_14_method_11_code 65 = .ok (.iconst 0, 1) := by decide +kernel
theorem d_MO_feed_66 : decode prog_14_method_11_code 66 = .ok (.istore 7, 2) := by decide +kernel
theorem d_MO_feed_68 : decode prog_14_method_11_code 68 = .ok (.iload 7, 2) := by decide +kernel
theorem d_MO_feed_70 : decode prog_14_method_11_code 70 = .ok (.iload_n 1, 1) := by decide +kernel
theorem d_MO_feed_71 : decode prog_14_method_11_code 71 = .ok (.if_icmp .ge 71, 3) := by decide +kernel
theorem d_MO_feed_74 : decode prog_14_method_11_code 74 = .ok (.aload_n 0, 1) := by decide +kernel
theorem d_MO_feed_75 : decode prog_14_method_11_code 75 = .ok (.getfield 28, 3) := by decide +kernel
theorem d_MO_feed_78 : decode prog_14_method_11_code 78 = .ok (.aload_n 0, 1) := by decide +kernel
theorem d_MO_feed_79 : decode prog_14_method_11_code 79 = .ok (.getfield 82, 3) := by decide +kernel
theorem d_MO_feed_82 : decode prog_14_method_11_code 82 = .ok (.iload 7, 2) := by decide +kernel
theorem d_MO_feed_84 : decode prog_14_method_11_code 84 = .ok (.ifCond .ne 7, 3) := by decide +kernel
theorem d_MO_feed_87 : decode prog_14_method_11_code 87 = .ok (.iload_n 2, 1) := by decide +kernel
theorem d_MO_feed_88 : decode prog_14_method_11_code 88 = .ok (.goto 37, 3) := by decide +kernel
theorem d_MO_feed_91 : decode prog_14_method_11_code 91 = .ok (.iload 7, 2) := by decide +kernel
theorem d_MO_feed_93 : decode prog_14_method_11_code 93 = .ok (.iconst 1, 1) := by decide +kernel
theorem d_MO_feed_94 : decode prog_14_method_11_code 94 = .ok (.if_icmp .ne 7, 3) := by decide +kernel
theorem d_MO_feed_97 : decode prog_14_method_11_code 97 = .ok (.iload_n 3, 1) := by decide +kernel
theorem d_MO_feed_98 : decode prog_14_method_11_code 98 = .ok (.goto 27, 3) := by decide +kernel
theorem d_MO_feed_101 : decode prog_14_method_11_code 101 = .ok (.iload 7, 2) := by decide +kernel
theorem d_MO_feed_103 : decode prog_14_method_11_code 103 = .ok (.iconst 2, 1) := by decide +kernel
theorem d_MO_feed_104 : decode prog_14_method_11_code 104 = .ok (.if_icmp .ne 8, 3) := by decide +kernel
theorem d_MO_feed_107 : decode prog_14_method_11_code 107 = .ok (.iload 4, 2) := by decide +kernel
theorem d_MO_feed_109 : decode prog_14_method_11_code 109 = .ok (.goto 16, 3) := by decide +kernel
theorem d_MO_feed_112 : decode prog_14_method_11_code 112 = .ok (.iload 7, 2) := by decide +kernel
theorem d_MO_feed_114 : decode prog_14_method_11_code 114 = .ok (.iconst 3, 1) := by decide +kernel
theorem d_MO_feed_115 : decode prog_14_method_11_code 115 = .ok (.if_icmp .ne 8, 3) := by decide +kernel
theorem d_MO_feed_118 : decode prog_14_method_11_code 118 = .ok (.iload 5, 2) := by decide +kernel
theorem d_MO_feed_120 : decode prog_14_method_11_code 120 = .ok (.goto 5, 3) := by decide +kernel
theorem d_MO_feed_123 : decode prog_14_method_11_code 123 = .ok (.iload 6, 2) := by decide +kernel
theorem d_MO_feed_125 : decode prog_14_method_11_code 125 = .ok (.iastore, 1) := by decide +kernel
theorem d_MO_feed_126 : decode prog_14_method_11_code 126 = .ok (.aload_n 0, 1) := by decide +kernel
theorem d_MO_feed_127 : decode prog_14_method_11_code 127 = .ok (.dup, 1) := by decide +kernel
theorem d_MO_feed_128 : decode prog_14_method_11_code 128 = .ok (.getfield 82, 3) := by decide +kernel
theorem d_MO_feed_131 : decode prog_14_method_11_code 131 = .ok (.iconst 1, 1) := by decide +kernel
theorem d_MO_feed_132 : decode prog_14_method_11_code 132 = .ok (.iadd, 1) := by decide +kernel
theorem d_MO_feed_133 : decode prog_14_method_11_code 133 = .ok (.putfield 82, 3) := by decide +kernel
theorem d_MO_feed_136 : decode prog_14_method_11_code 136 = .ok (.iinc 7 1, 3) := by decide +kernel
theorem d_MO_feed_139 : decode prog_14_method_11_code 139 = .ok (.goto (-71), 3) := by decide +kernel
theorem d_MO_feed_142 : decode prog_14_method_11_code 142 = .ok (.aload_n 0, 1) := by decide +kernel
theorem d_MO_feed_143 : decode prog_14_method_11_code 143 = .ok (.getfield 82, 3) := by decide +kernel
theorem d_MO_feed_146 : decode prog_14_method_11_code 146 = .ok (.ireturn, 1) := by decide +kernel
def p_MO_feed_125 (Q : Int32 → AH → Prop) (K68 : Int32 → Int32 → Int32 → Int32 → Int32 → Int32 → Int32 → AH → Prop) (x1 : Int32) (x2 : Int32) (x3 : Int32) (x4 : Int32) (x5 : Int32) (x6 : Int32) (x7 : Int32) (s1 : Int32) (s2 : Int32) (h : AH) : Prop := inb s1 160 ∧ K68 x1 x2 x3 x4 x5 x6 (x7 + 1) (wI (wI h 66 s1 s2) 59 8 (((wI h 66 s1 s2).1 59 8) + 1))
def p_MO_feed_68 (Q : Int32 → AH → Prop) : Nat → Int32 → Int32 → Int32 → Int32 → Int32 → Int32 → Int32 → AH → Prop
  | 0 => fun _ _ _ _ _ _ _ _ => False
  | n + 1 => fun x1 x2 x3 x4 x5 x6 x7 h => let K68 := p_MO_feed_68 Q n; ((x1 ≤ x7 → Q (h.1 59 8) h) ∧ (¬ x1 ≤ x7 → ((¬ x7 = 0 → ((¬ x7 = 1 → ((¬ x7 = 2 → ((¬ x7 = 3 → p_MO_feed_125 Q  K68 x1 x2 x3 x4 x5 x6 x7 (h.1 59 8) x6 h) ∧ (x7 = 3 → p_MO_feed_125 Q  K68 x1 x2 x3 x4 x5 x6 x7 (h.1 59 8) x5 h))) ∧ (x7 = 2 → p_MO_feed_125 Q  K68 x1 x2 x3 x4 x5 x6 x7 (h.1 59 8) x4 h))) ∧ (x7 = 1 → p_MO_feed_125 Q  K68 x1 x2 x3 x4 x5 x6 x7 (h.1 59 8) x3 h))) ∧ (x7 = 0 → p_MO_feed_125 Q  K68 x1 x2 x3 x4 x5 x6 x7 (h.1 59 8) x2 h))))
def p_MO_feed (Q : Int32 → AH → Prop) (x1 : Int32) (x2 : Int32) (x3 : Int32) (x4 : Int32) (x5 : Int32) (x6 : Int32) (h : AH) : Prop := p_MO_in (fun r2 h1 => ((r2 = 0 → Q (-2) h1) ∧ (¬ r2 = 0 → p_MO_isByte (fun r4 h3 => ((r4 = 0 → Q (-2) h3) ∧ (¬ r4 = 0 → p_MO_isByte (fun r6 h5 => ((r6 = 0 → Q (-2) h5) ∧ (¬ r6 = 0 → p_MO_isByte (fun r8 h7 => ((r8 = 0 → Q (-2) h7) ∧ (¬ r8 = 0 → p_MO_isByte (fun r10 h9 => ((r10 = 0 → Q (-2) h9) ∧ (¬ r10 = 0 → p_MO_isByte (fun r12 h11 => ((¬ r12 = 0 → ((((h11.1 59 8) + x1) ≤ 160 → ∃ n, p_MO_feed_68 Q   n x1 x2 x3 x4 x5 x6 0 h11) ∧ (¬ ((h11.1 59 8) + x1) ≤ 160 → Q (-4) h11))) ∧ (r12 = 0 → Q (-2) h11))) x6 h9))) x5 h7))) x4 h5))) x3 h3))) x2 h1))) x1 1 5 h
set_option maxRecDepth 20000 in
theorem r_MO_feed_125 {G : GG} {d : Nat} {Q : Int32 → AH → Prop} {K68 : Int32 → Int32 → Int32 → Int32 → Int32 → Int32 → Int32 → AH → Prop} (k68 : ∀ x1 x2 x3 x4 x5 x6 x7 h, K68 x1 x2 x3 x4 x5 x6 x7 h → Att G T1 m_MO_feed (d + 2) 68 [some (.ref 59), some (.int x1), some (.int x2), some (.int x3), some (.int x4), some (.int x5), some (.int x6), some (.int x7)] [] h 0 0 (iQ Q)) (x1 : Int32) (x2 : Int32) (x3 : Int32) (x4 : Int32) (x5 : Int32) (x6 : Int32) (x7 : Int32) (s1 : Int32) (s2 : Int32) (h : AH) (H : p_MO_feed_125 Q K68 x1 x2 x3 x4 x5 x6 x7 s1 s2 h) : Att G T1 m_MO_feed (d + 2) 125 [some (.ref 59), some (.int x1), some (.int x2), some (.int x3), some (.int x4), some (.int x5), some (.int x6), some (.int x7)] [.int s2, .int s1, .ref 66] h 0 0 (iQ Q) := by
  obtain ⟨c1, H⟩ := H
  refine A_iast (n := 160) d_MO_feed_125 (vA_s (by decide)) rfl c1 ?_
  refine A_aload_n d_MO_feed_126 rfl ?_
  refine A_dup rfl d_MO_feed_127 ?_
  refine A_get (v := .int ((wI h 66 s1 s2).1 59 8)) d_MO_feed_128 (fo_MO_82_12 rfl) (vA_s (by decide)) rfl rfl ?_
  refine A_iconst 1 (by decide) d_MO_feed_131 ?_
  refine A_iadd d_MO_feed_132 ?_
  refine A_putI (k := 8) d_MO_feed_133 (fo_MO_82_12 rfl) (Or.inr ⟨rfl, _, ft_12_8⟩) (fun z => by cases z) rfl (vA_s (by decide)) rfl rfl rfl ?_
  refine A_iinc 1 [some (.ref 59), some (.int x1), some (.int x2), some (.int x3), some (.int x4), some (.int x5), some (.int x6), some (.int (x7 + 1))] d_MO_feed_136 rfl (by decide) (by decide) rfl rfl ?_
  refine A_goto 68 d_MO_feed_139 (by decide) ?_
  exact k68 _ _ _ _ _ _ _ _ H
set_option maxRecDepth 20000 in
theorem r_MO_feed_68 {G : GG} {d : Nat} {Q : Int32 → AH → Prop} : ∀ (n : Nat) (x1 : Int32) (x2 : Int32) (x3 : Int32) (x4 : Int32) (x5 : Int32) (x6 : Int32) (x7 : Int32) (h : AH), p_MO_feed_68 Q n x1 x2 x3 x4 x5 x6 x7 h → Att G T1 m_MO_feed (d + 2) 68 [some (.ref 59), some (.int x1), some (.int x2), some (.int x3), some (.int x4), some (.int x5), some (.int x6), some (.int x7)] [] h 0 0 (iQ Q) := by
  intro n
  induction n with
  | zero => intro x1 x2 x3 x4 x5 x6 x7 h H; exact H.elim
  | succ n k68 =>
    intro x1 x2 x3 x4 x5 x6 x7 h H
    refine A_iload d_MO_feed_68 rfl ?_
    refine A_iload_n d_MO_feed_70 rfl ?_
    refine A_icmp_ge 142 d_MO_feed_71 (by decide) (fun z => ?_) (fun z => ?_)
    · have H := H.1 z
      refine A_aload_n d_MO_feed_142 rfl ?_
      refine A_get (v := .int (h.1 59 8)) d_MO_feed_143 (fo_MO_82_12 rfl) (vA_s (by decide)) rfl rfl ?_
      exact A_iret d_MO_feed_146 rfl rfl H
    · have H := H.2 z
      refine A_aload_n d_MO_feed_74 rfl ?_
      refine A_get (v := .ref 66) d_MO_feed_75 (fo_MO_28_12 rfl) (vA_s (by decide)) rfl rfl ?_
      refine A_aload_n d_MO_feed_78 rfl ?_
      refine A_get (v := .int (h.1 59 8)) d_MO_feed_79 (fo_MO_82_12 rfl) (vA_s (by decide)) rfl rfl ?_
      refine A_iload d_MO_feed_82 rfl ?_
      refine A_if_ne 91 d_MO_feed_84 (by decide) (fun z => ?_) (fun z => ?_)
      · have H := H.1 z
        refine A_iload d_MO_feed_91 rfl ?_
        refine A_iconst 1 (by decide) d_MO_feed_93 ?_
        refine A_icmp_ne 101 d_MO_feed_94 (by decide) (fun z => ?_) (fun z => ?_)
        · have H := H.1 z
          refine A_iload d_MO_feed_101 rfl ?_
          refine A_iconst 2 (by decide) d_MO_feed_103 ?_
          refine A_icmp_ne 112 d_MO_feed_104 (by decide) (fun z => ?_) (fun z => ?_)
          · have H := H.1 z
            refine A_iload d_MO_feed_112 rfl ?_
            refine A_iconst 3 (by decide) d_MO_feed_114 ?_
            refine A_icmp_ne 123 d_MO_feed_115 (by decide) (fun z => ?_) (fun z => ?_)
            · have H := H.1 z
              refine A_iload d_MO_feed_123 rfl ?_
              exact r_MO_feed_125  k68 _ _ _ _ _ _ _ _ _ _ H
            · have H := H.2 z
              refine A_iload d_MO_feed_118 rfl ?_
              refine A_goto 125 d_MO_feed_120 (by decide) ?_
              exact r_MO_feed_125  k68 _ _ _ _ _ _ _ _ _ _ H
          · have H := H.2 z
            refine A_iload d_MO_feed_107 rfl ?_
            refine A_goto 125 d_MO_feed_109 (by decide) ?_
            exact r_MO_feed_125  k68 _ _ _ _ _ _ _ _ _ _ H
        · have H := H.2 z
          refine A_iload_n d_MO_feed_97 rfl ?_
          refine A_goto 125 d_MO_feed_98 (by decide) ?_
          exact r_MO_feed_125  k68 _ _ _ _ _ _ _ _ _ _ H
      · have H := H.2 z
        refine A_iload_n d_MO_feed_87 rfl ?_
        refine A_goto 125 d_MO_feed_88 (by decide) ?_
        exact r_MO_feed_125  k68 _ _ _ _ _ _ _ _ _ _ H
set_option maxRecDepth 20000 in
theorem r_MO_feed_0 {G : GG} {d : Nat} {Q : Int32 → AH → Prop} (x1 : Int32) (x2 : Int32) (x3 : Int32) (x4 : Int32) (x5 : Int32) (x6 : Int32) (h : AH) (H : p_MO_feed Q x1 x2 x3 x4 x5 x6 h) : Att G T1 m_MO_feed (d + 2) 0 [some (.ref 59), some (.int x1), some (.int x2), some (.int x3), some (.int x4), some (.int x5), some (.int x6), none] [] h 0 0 (iQ Q) := by
  refine A_iload_n d_MO_feed_0 rfl ?_
  refine A_iconst 1 (by decide) d_MO_feed_1 ?_
  refine A_iconst 5 (by decide) d_MO_feed_2 ?_
  refine A_cI [.int x1, .int 1, .int 5] [] (ct_MO_93 rfl) d_MO_feed_3 rfl rfl (by decide) (Nat.le_of_ble_eq_true rfl) trivial (ok_MO_in (d := d + 1) H) (fun r2 h1 H => ?_)
  refine A_if_eq 47 d_MO_feed_6 (by decide) (fun z => ?_) (fun z => ?_)
  · have H := H.1 z
    refine A_bipush (-2) (by decide) d_MO_feed_47 ?_
    exact A_iret d_MO_feed_49 rfl rfl H
  · have H := H.2 z
    refine A_iload_n d_MO_feed_9 rfl ?_
    refine A_cI [.int x2] [] (ct_MO_113 rfl) d_MO_feed_10 rfl rfl (by decide) (Nat.le_of_ble_eq_true rfl) trivial (ok_MO_isByte (d := d) H) (fun r4 h3 H => ?_)
    refine A_if_eq 47 d_MO_feed_13 (by decide) (fun z => ?_) (fun z => ?_)
    · have H := H.1 z
      refine A_bipush (-2) (by decide) d_MO_feed_47 ?_
      exact A_iret d_MO_feed_49 rfl rfl H
    · have H := H.2 z
      refine A_iload_n d_MO_feed_16 rfl ?_
      refine A_cI [.int x3] [] (ct_MO_113 rfl) d_MO_feed_17 rfl rfl (by decide) (Nat.le_of_ble_eq_true rfl) trivial (ok_MO_isByte (d := d) H) (fun r6 h5 H => ?_)
      refine A_if_eq 47 d_MO_feed_20 (by decide) (fun z => ?_) (fun z => ?_)
      · have H := H.1 z
        refine A_bipush (-2) (by decide) d_MO_feed_47 ?_
        exact A_iret d_MO_feed_49 rfl rfl H
      · have H := H.2 z
        refine A_iload d_MO_feed_23 rfl ?_
        refine A_cI [.int x4] [] (ct_MO_113 rfl) d_MO_feed_25 rfl rfl (by decide) (Nat.le_of_ble_eq_true rfl) trivial (ok_MO_isByte (d := d) H) (fun r8 h7 H => ?_)
        refine A_if_eq 47 d_MO_feed_28 (by decide) (fun z => ?_) (fun z => ?_)
        · have H := H.1 z
          refine A_bipush (-2) (by decide) d_MO_feed_47 ?_
          exact A_iret d_MO_feed_49 rfl rfl H
        · have H := H.2 z
          refine A_iload d_MO_feed_31 rfl ?_
          refine A_cI [.int x5] [] (ct_MO_113 rfl) d_MO_feed_33 rfl rfl (by decide) (Nat.le_of_ble_eq_true rfl) trivial (ok_MO_isByte (d := d) H) (fun r10 h9 H => ?_)
          refine A_if_eq 47 d_MO_feed_36 (by decide) (fun z => ?_) (fun z => ?_)
          · have H := H.1 z
            refine A_bipush (-2) (by decide) d_MO_feed_47 ?_
            exact A_iret d_MO_feed_49 rfl rfl H
          · have H := H.2 z
            refine A_iload d_MO_feed_39 rfl ?_
            refine A_cI [.int x6] [] (ct_MO_113 rfl) d_MO_feed_41 rfl rfl (by decide) (Nat.le_of_ble_eq_true rfl) trivial (ok_MO_isByte (d := d) H) (fun r12 h11 H => ?_)
            refine A_if_ne 50 d_MO_feed_44 (by decide) (fun z => ?_) (fun z => ?_)
            · have H := H.1 z
              refine A_aload_n d_MO_feed_50 rfl ?_
              refine A_get (v := .int (h11.1 59 8)) d_MO_feed_51 (fo_MO_82_12 rfl) (vA_s (by decide)) rfl rfl ?_
              refine A_iload_n d_MO_feed_54 rfl ?_
              refine A_iadd d_MO_feed_55 ?_
              refine A_sipush 160 (by decide) d_MO_feed_56 ?_
              refine A_icmp_le 65 d_MO_feed_59 (by decide) (fun z => ?_) (fun z => ?_)
              · have H := H.1 z
                refine A_iconst 0 (by decide) d_MO_feed_65 ?_
                refine A_istore [some (.ref 59), some (.int x1), some (.int x2), some (.int x3), some (.int x4), some (.int x5), some (.int x6), some (.int 0)] d_MO_feed_66 (by decide) rfl rfl ?_
                obtain ⟨n9, H⟩ := H
                exact r_MO_feed_68   n9 _ _ _ _ _ _ _ _ H
              · have H := H.2 z
                refine A_bipush (-4) (by decide) d_MO_feed_62 ?_
                exact A_iret d_MO_feed_64 rfl rfl H
            · have H := H.2 z
              refine A_bipush (-2) (by decide) d_MO_feed_47 ?_
              exact A_iret d_MO_feed_49 rfl rfl H
set_option maxRecDepth 20000 in
theorem ok_MO_feed {G : GG} {d : Nat} {Q : Int32 → AH → Prop} {x1 : Int32} {x2 : Int32} {x3 : Int32} {x4 : Int32} {x5 : Int32} {x6 : Int32} {h : AH} (H : p_MO_feed Q x1 x2 x3 x4 x5 x6 h) : WP G T1 m_MO_feed (d + 2) [.ref 59, .int x1, .int x2, .int x3, .int x4, .int x5, .int x6] h 0 0 (iQ Q) := by
  exact WP.enter 1 (by decide) rfl rfl (r_MO_feed_0 x1 x2 x3 x4 x5 x6 h H)
theorem d_MO_asksOf_0 : decode prog_14_method_26_code 0 = .ok (.aload_n 0, 1) := by decide +kernel
theorem d_MO_asksOf_1 : decode prog_14_method_26_code 1 = .ok (.getfield 61, 3) := by decide +kernel
theorem d_MO_asksOf_4 : decode prog_14_method_26_code 4 = .ok (.iconst 0, 1) := by decide +kernel
theorem d_MO_asksOf_5 : decode prog_14_method_26_code 5 = .ok (.aload_n 0, 1) := by decide +kernel
theorem d_MO_asksOf_6 : decode prog_14_method_26_code 6 = .ok (.getfield 13, 3) := by decide +kernel
theorem d_MO_asksOf_9 : decode prog_14_method_26_code 9 = .ok (.iload_n 2, 1) := by decide +kernel
theorem d_MO_asksOf_10 : decode prog_14_method_26_code 10 = .ok (.iaload, 1) := by decide +kernel
theorem d_MO_asksOf_11 : decode prog_14_method_26_code 11 = .ok (.iastore, 1) := by decide +kernel
theorem d_MO_asksOf_12 : decode prog_14_method_26_code 12 = .ok (.aload_n 0, 1) := by decide +kernel
theorem d_MO_asksOf_13 : decode prog_14_method_26_code 13 = .ok (.getfield 61, 3) := by decide +kernel
theorem d_MO_asksOf_16 : decode prog_14_method_26_code 16 = .ok (.iconst 1, 1) := by decide +kernel
theorem d_MO_asksOf_17 : decode prog_14_method_26_code 17 = .ok (.aload_n 0, 1) := by decide +kernel
theorem d_MO_asksOf_18 : decode prog_14_method_26_code 18 = .ok (.getfield 22, 3) := by decide +kernel
theorem d_MO_asksOf_21 : decode prog_14_method_26_code 21 = .ok (.iload_n 2, 1) := by decide +kernel
theorem d_MO_asksOf_22 : decode prog_14_method_26_code 22 = .ok (.iaload, 1) := by decide +kernel
theorem d_MO_asksOf_23 : decode prog_14_method_26_code 23 = .ok (.iastore, 1) := by decide +kernel
theorem d_MO_asksOf_24 : decode prog_14_method_26_code 24 = .ok (.aload_n 0, 1) := by decide +kernel
theorem d_MO_asksOf_25 : decode prog_14_method_26_code 25 = .ok (.getfield 61, 3) := by decide +kernel
theorem d_MO_asksOf_28 : decode prog_14_method_26_code 28 = .ok (.iconst 2, 1) := by decide +kernel
theorem d_MO_asksOf_29 : decode prog_14_method_26_code 29 = .ok (.aload_n 0, 1) := by decide +kernel
theorem d_MO_asksOf_30 : decode prog_14_method_26_code 30 = .ok (.getfield 16, 3) := by decide +kernel
theorem d_MO_asksOf_33 : decode prog_14_method_26_code 33 = .ok (.iload_n 2, 1) := by decide +kernel
theorem d_MO_asksOf_34 : decode prog_14_method_26_code 34 = .ok (.iaload, 1) := by decide +kernel
theorem d_MO_asksOf_35 : decode prog_14_method_26_code 35 = .ok (.iastore, 1) := by decide +kernel
theorem d_MO_asksOf_36 : decode prog_14_method_26_code 36 = .ok (.aload_n 0, 1) := by decide +kernel
theorem d_MO_asksOf_37 : decode prog_14_method_26_code 37 = .ok (.getfield 61, 3) := by decide +kernel
theorem d_MO_asksOf_40 : decode prog_14_method_26_code 40 = .ok (.iconst 3, 1) := by decide +kernel
theorem d_MO_asksOf_41 : decode prog_14_method_26_code 41 = .ok (.iload_n 3, 1) := by decide +kernel
theorem d_MO_asksOf_42 : decode prog_14_method_26_code 42 = .ok (.iastore, 1) := by decide +kernel
theorem d_MO_asksOf_43 : decode prog_14_method_26_code 43 = .ok (.aload_n 0, 1) := by decide +kernel
theorem d_MO_asksOf_44 : decode prog_14_method_26_code 44 = .ok (.getfield 61, 3) := by decide +kernel
theorem d_MO_asksOf_47 : decode prog_14_method_26_code 47 = .ok (.iconst 4, 1) := by decide +kernel
theorem d_MO_asksOf_48 : decode prog_14_method_26_code 48 = .ok (.iload 4, 2) := by decide +kernel
theorem d_MO_asksOf_50 : decode prog_14_method_26_code 50 = .ok (.iastore, 1) := by decide +kernel
theorem d_MO_asksOf_51 : decode prog_14_method_26_code 51 = .ok (.aload_n 0, 1) := by decide +kernel
theorem d_MO_asksOf_52 : decode prog_14_method_26_code 52 = .ok (.getfield 61, 3) := by decide +kernel
theorem d_MO_asksOf_55 : decode prog_14_method_26_code 55 = .ok (.iconst 5, 1) := by decide +kernel
theorem d_MO_asksOf_56 : decode prog_14_method_26_code 56 = .ok (.iload 5, 2) := by decide +kernel
theorem d_MO_asksOf_58 : decode prog_14_method_26_code 58 = .ok (.iastore, 1) := by decide +kernel
theorem d_MO_asksOf_59 : decode prog_14_method_26_code 59 = .ok (.aload_n 0, 1) := by decide +kernel
theorem d_MO_asksOf_60 : decode prog_14_method_26_code 60 = .ok (.iload_n 1, 1) := by decide +kernel
theorem d_MO_asksOf_61 : decode prog_14_method_26_code 61 = .ok (.invokevirtual 176, 3) := by decide +kernel
theorem d_MO_asksOf_64 : decode prog_14_method_26_code 64 = .ok (.iconst 0, 1) := by decide +kernel
theorem d_MO_asksOf_65 : decode prog_14_method_26_code 65 = .ok (.iload_n 1, 1) := by decide +kernel
theorem d_MO_asksOf_66 : decode prog_14_method_26_code 66 = .ok (.ifCond .ne 9, 3) := by decide +kernel
theorem d_MO_asksOf_69 : decode prog_14_method_26_code 69 = .ok (.sipush 999, 3) := by decide +kernel
theorem d_MO_asksOf_72 : decode prog_14_method_26_code 72 = .ok (.goto 5, 3) := by decide +kernel
theorem d_MO_asksOf_75 : decode prog_14_method_26_code 75 = .ok (.bipush 99, 2) := by decide +kernel
theorem d_MO_asksOf_77 : decode prog_14_method_26_code 77 = .ok (.invokestatic 179, 3) := by decide +kernel
theorem d_MO_asksOf_80 : decode prog_14_method_26_code 80 = .ok (.ireturn, 1) := by decide +kernel
def p_MO_asksOf_77 (Q : Int32 → AH → Prop) (s0 : Int32) (s1 : Int32) (s2 : Int32) (h : AH) : Prop := p_MO_within (fun r2 h1 => Q r2 h1) s0 s1 s2 h
def p_MO_asksOf (Q : Int32 → AH → Prop) (x1 : Int32) (x2 : Int32) (x3 : Int32) (x4 : Int32) (x5 : Int32) (h : AH) : Prop := inb x2 7 ∧ p_MO_says (fun r3 h2 => ((¬ x1 = 0 → p_MO_asksOf_77 Q   r3 0 99 h2) ∧ (x1 = 0 → p_MO_asksOf_77 Q   r3 0 999 h2))) x1 (wI (wI (wI (wI (wI (wI h 77 0 (h.1 61 x2)) 77 1 ((wI h 77 0 (h.1 61 x2)).1 64 x2)) 77 2 ((wI (wI h 77 0 (h.1 61 x2)) 77 1 ((wI h 77 0 (h.1 61 x2)).1 64 x2)).1 62 x2)) 77 3 x3) 77 4 x4) 77 5 x5)
set_option maxRecDepth 20000 in
theorem r_MO_asksOf_77 {G : GG} {d : Nat} {Q : Int32 → AH → Prop} (s0 : Int32) (s1 : Int32) (s2 : Int32) (h : AH) (H : p_MO_asksOf_77 Q s0 s1 s2 h) : Att G T1 m_MO_asksOf (d + 2) 77 [none, none, none, none, none, none] [.int s2, .int s1, .int s0] h 0 0 (iQ Q) := by
  refine A_cI [.int s0, .int s1, .int s2] [] (ct_MO_179 rfl) d_MO_asksOf_77 rfl rfl (by decide) (Nat.le_of_ble_eq_true rfl) trivial (ok_MO_within (d := d + 1) H) (fun r2 h1 H => ?_)
  exact A_iret d_MO_asksOf_80 rfl rfl H
set_option maxRecDepth 20000 in
theorem r_MO_asksOf_0 {G : GG} {d : Nat} {Q : Int32 → AH → Prop} (x1 : Int32) (x2 : Int32) (x3 : Int32) (x4 : Int32) (x5 : Int32) (h : AH) (H : p_MO_asksOf Q x1 x2 x3 x4 x5 h) : Att G T1 m_MO_asksOf (d + 2) 0 [some (.ref 59), some (.int x1), some (.int x2), some (.int x3), some (.int x4), some (.int x5)] [] h 0 0 (iQ Q) := by
  refine A_aload_n d_MO_asksOf_0 rfl ?_
  refine A_get (v := .ref 77) d_MO_asksOf_1 (fo_MO_61_12 rfl) (vA_s (by decide)) rfl rfl ?_
  refine A_iconst 0 (by decide) d_MO_asksOf_4 ?_
  refine A_aload_n d_MO_asksOf_5 rfl ?_
  refine A_get (v := .ref 61) d_MO_asksOf_6 (fo_MO_13_12 rfl) (vA_s (by decide)) rfl rfl ?_
  refine A_iload_n d_MO_asksOf_9 rfl ?_
  obtain ⟨c1, H⟩ := H
  refine A_iald (n := 7) d_MO_asksOf_10 (vA_s (by decide)) rfl c1 ?_
  refine A_iast (n := 6) d_MO_asksOf_11 (vA_s (by decide)) rfl (by decide) ?_
  refine A_aload_n d_MO_asksOf_12 rfl ?_
  refine A_get (v := .ref 77) d_MO_asksOf_13 (fo_MO_61_12 rfl) (vA_s (by decide)) rfl rfl ?_
  refine A_iconst 1 (by decide) d_MO_asksOf_16 ?_
  refine A_aload_n d_MO_asksOf_17 rfl ?_
  refine A_get (v := .ref 64) d_MO_asksOf_18 (fo_MO_22_12 rfl) (vA_s (by decide)) rfl rfl ?_
  refine A_iload_n d_MO_asksOf_21 rfl ?_
  refine A_iald (n := 7) d_MO_asksOf_22 (vA_s (by decide)) rfl c1 ?_
  refine A_iast (n := 6) d_MO_asksOf_23 (vA_s (by decide)) rfl (by decide) ?_
  refine A_aload_n d_MO_asksOf_24 rfl ?_
  refine A_get (v := .ref 77) d_MO_asksOf_25 (fo_MO_61_12 rfl) (vA_s (by decide)) rfl rfl ?_
  refine A_iconst 2 (by decide) d_MO_asksOf_28 ?_
  refine A_aload_n d_MO_asksOf_29 rfl ?_
  refine A_get (v := .ref 62) d_MO_asksOf_30 (fo_MO_16_12 rfl) (vA_s (by decide)) rfl rfl ?_
  refine A_iload_n d_MO_asksOf_33 rfl ?_
  refine A_iald (n := 7) d_MO_asksOf_34 (vA_s (by decide)) rfl c1 ?_
  refine A_iast (n := 6) d_MO_asksOf_35 (vA_s (by decide)) rfl (by decide) ?_
  refine A_aload_n d_MO_asksOf_36 rfl ?_
  refine A_get (v := .ref 77) d_MO_asksOf_37 (fo_MO_61_12 rfl) (vA_s (by decide)) rfl rfl ?_
  refine A_iconst 3 (by decide) d_MO_asksOf_40 ?_
  refine A_iload_n d_MO_asksOf_41 rfl ?_
  refine A_iast (n := 6) d_MO_asksOf_42 (vA_s (by decide)) rfl (by decide) ?_
  refine A_aload_n d_MO_asksOf_43 rfl ?_
  refine A_get (v := .ref 77) d_MO_asksOf_44 (fo_MO_61_12 rfl) (vA_s (by decide)) rfl rfl ?_
  refine A_iconst 4 (by decide) d_MO_asksOf_47 ?_
  refine A_iload d_MO_asksOf_48 rfl ?_
  refine A_iast (n := 6) d_MO_asksOf_50 (vA_s (by decide)) rfl (by decide) ?_
  refine A_aload_n d_MO_asksOf_51 rfl ?_
  refine A_get (v := .ref 77) d_MO_asksOf_52 (fo_MO_61_12 rfl) (vA_s (by decide)) rfl rfl ?_
  refine A_iconst 5 (by decide) d_MO_asksOf_55 ?_
  refine A_iload d_MO_asksOf_56 rfl ?_
  refine A_iast (n := 6) d_MO_asksOf_58 (vA_s (by decide)) rfl (by decide) ?_
  refine A_aload_n d_MO_asksOf_59 rfl ?_
  refine A_iload_n d_MO_asksOf_60 rfl ?_
  refine A_cI [.ref 59, .int x1] [] (ct_MO_176 rfl) d_MO_asksOf_61 rfl rfl (by decide) (Nat.le_of_ble_eq_true rfl) (rcA_o (c := 12) rfl (vA_s (by decide)) rfl (by decide) rfl) (ok_MO_says (d := d) H) (fun r3 h2 H => ?_)
  refine A_iconst 0 (by decide) d_MO_asksOf_64 ?_
  refine A_iload_n d_MO_asksOf_65 rfl ?_
  refine A_if_ne 75 d_MO_asksOf_66 (by decide) (fun z => ?_) (fun z => ?_)
  · have H := H.1 z
    refine A_bipush 99 (by decide) d_MO_asksOf_75 ?_
    refine A_sub (L' := [none, none, none, none, none, none]) trivial ?_
    exact r_MO_asksOf_77   _ _ _ _ H
  · have H := H.2 z
    refine A_sipush 999 (by decide) d_MO_asksOf_69 ?_
    refine A_goto 77 d_MO_asksOf_72 (by decide) ?_
    refine A_sub (L' := [none, none, none, none, none, none]) trivial ?_
    exact r_MO_asksOf_77   _ _ _ _ H
set_option maxRecDepth 20000 in
theorem ok_MO_asksOf {G : GG} {d : Nat} {Q : Int32 → AH → Prop} {x1 : Int32} {x2 : Int32} {x3 : Int32} {x4 : Int32} {x5 : Int32} {h : AH} (H : p_MO_asksOf Q x1 x2 x3 x4 x5 h) : WP G T1 m_MO_asksOf (d + 2) [.ref 59, .int x1, .int x2, .int x3, .int x4, .int x5] h 0 0 (iQ Q) := by
  exact WP.enter 0 (by decide) rfl rfl (r_MO_asksOf_0 x1 x2 x3 x4 x5 h H)
