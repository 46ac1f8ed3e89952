theorem d_UF_copy_0 : decode prog_1_method_34_code 0 = .ok (.iload_n 1, 1) := by decide +kernel
theorem d_UF_copy_1 : decode prog_1_method_34_code 1 = .ok (.invokestatic 211, 3) := by decide +kernel
theorem d_UF_copy_4 : decode prog_1_method_34_code 4 = .ok (.ifCond .eq 10, 3) := by decide +kernel
theorem d_UF_copy_7 : decode prog_1_method_34_code 7 = .ok (.iload_n 3, 1) := by decide +kernel
theorem d_UF_copy_8 : decode prog_1_method_34_code 8 = .ok (.invokestatic 211, 3) := by decide +kernel
theorem d_UF_copy_11 : decode prog_1_method_34_code 11 = .ok (.ifCond .ne 6, 3) := by decide +kernel
theorem d_UF_copy_14 : decode prog_1_method_34_code 14 = .ok (.bipush (-2), 2) := by decide +kernel
theorem d_UF_copy_16 : decode prog_1_method_34_code 16 = .ok (.ireturn, 1) := by decide +kernel
theorem d_UF_copy_17 : decode prog_1_method_34_code 17 = .ok (.aload_n 0, 1) := by decide +kernel
theorem d_UF_copy_18 : decode prog_1_method_34_code 18 = .ok (.getfield 23, 3) := by decide +kernel
theorem d_UF_copy_21 : decode prog_1_method_34_code 21 = .ok (.iload_n 1, 1) := by decide +kernel
theorem d_UF_copy_22 : decode prog_1_method_34_code 22 = .ok (.aaload, 1) := by decide +kernel
theorem d_UF_copy_23 : decode prog_1_method_34_code 23 = .ok (.astore 6, 2) := by decide +kernel
theorem d_UF_copy_25 : decode prog_1_method_34_code 25 = .ok (.aload_n 0, 1) := by decide +kernel
theorem d_UF_copy_26 : decode prog_1_method_34_code 26 = .ok (.getfield 23, 3) := by decide +kernel
theorem d_UF_copy_29 : decode prog_1_method_34_code 29 = .ok (.iload_n 3, 1) := by decide +kernel
theorem d_UF_copy_30 : decode prog_1_method_34_code 30 = .ok (.aaload, 1) := by decide +kernel
theorem d_UF_copy_31 : decode prog_1_method_34_code 31 = .ok (.astore 7, 2) := by decide +kernel
theorem d_UF_copy_33 : decode prog_1_method_34_code 33 = .ok (.aload 6, 2) := by decide +kernel
theorem d_UF_copy_35 : decode prog_1_method_34_code 35 = .ok (.getfield 236, 3) := by decide +kernel
theorem d_UF_copy_38 : decode prog_1_method_34_code 38 = .ok (.iconst (-1), 1) := by decide +kernel
theorem d_UF_copy_39 : decode prog_1_method_34_code 39 = .ok (.if_icmp .eq 12, 3) := by decide +kernel
theorem d_UF_copy_42 : decode prog_1_method_34_code 42 = .ok (.aload 7, 2) := by decide +kernel
theorem d_UF_copy_44 : decode prog_1_method_34_code 44 = .ok (.getfield 236, 3) := by decide +kernel
theorem d_UF_copy_47 : decode prog_1_method_34_code 47 = .ok (.iconst (-1), 1) := by decide +kernel
theorem d_UF_copy_48 : decode prog_1_method_34_code 48 = .ok (.if_icmp .ne 6, 3) := by decide +kernel
theorem d_UF_copy_51 : decode prog_1_method_34_code 51 = .ok (.bipush (-11), 2) := by decide +kernel
theorem d_UF_copy_53 : decode prog_1_method_34_code 53 = .ok (.ireturn, 1) := by decide +kernel
theorem d_UF_copy_54 : decode prog_1_method_34_code 54 = .ok (.aload 6, 2) := by decide +kernel
theorem d_UF_copy_56 : decode prog_1_method_34_code 56 = .ok (.getfield 236, 3) := by decide +kernel
theorem d_UF_copy_59 : decode prog_1_method_34_code 59 = .ok (.aload 7, 2) := by decide +kernel
theorem d_UF_copy_61 : decode prog_1_method_34_code 61 = .ok (.getfield 236, 3) := by decide +kernel
theorem d_UF_copy_64 : decode prog_1_method_34_code 64 = .ok (.if_icmp .eq 6, 3) := by decide +kernel
theorem d_UF_copy_67 : decode prog_1_method_34_code 67 = .ok (.bipush (-13), 2) := by decide +kernel
theorem d_UF_copy_69 : decode prog_1_method_34_code 69 = .ok (.ireturn, 1) := by decide +kernel
theorem d_UF_copy_70 : decode prog_1_method_34_code 70 = .ok (.iload_n 2, 1) := by decide +kernel
theorem d_UF_copy_71 : decode prog_1_method_34_code 71 = .ok (.ifCond .lt 13, 3) := by decide +kernel
theorem d_UF_copy_74 : decode prog_1_method_34_code 74 = .ok (.iload 4, 2) := by decide +kernel
theorem d_UF_copy_76 : decode prog_1_method_34_code 76 = .ok (.ifCond .lt 8, 3) := by decide +kernel
theorem d_UF_copy_79 : decode prog_1_method_34_code 79 = .ok (.iload 5, 2) := by decide +kernel
theorem d_UF_copy_81 : decode prog_1_method_34_code 81 = .ok (.ifCond .ge 6, 3) := by decide +kernel
theorem d_UF_copy_84 : decode prog_1_method_34_code 84 = .ok (.bipush (-12), 2) := by decide +kernel
theorem d_UF_copy_86 : decode prog_1_method_34_code 86 = .ok (.ireturn, 1) := by decide +kernel
theorem d_UF_copy_87 : decode prog_1_method_34_code 87 = .ok (.iload 5, 2) := by decide +kernel
theorem d_UF_copy_89 : decode prog_1_method_34_code 89 = .ok (.aload 6, 2) := by decide +kernel
theorem d_UF_copy_91 : decode prog_1_method_34_code 91 = .ok (.getfield 242, 3) := by decide +kernel
theorem d_UF_copy_94 : decode prog_1_method_34_code 94 = .ok (.iload_n 2, 1) := by decide +kernel
theorem d_UF_copy_95 : decode prog_1_method_34_code 95 = .ok (.isub, 1) := by decide +kernel
theorem d_UF_copy_96 : decode prog_1_method_34_code 96 = .ok (.if_icmp .gt 16, 3) := by decide +kernel
theorem d_UF_copy_99 : decode prog_1_method_34_code 99 = .ok (.iload 5, 2) := by decide +kernel
theorem d_UF_copy_101 : decode prog_1_method_34_code 101 = .ok (.aload 7, 2) := by decide +kernel
theorem d_UF_copy_103 : decode prog_1_method_34_code 103 = .ok (.getfield 242, 3) := by decide +kernel
theorem d_UF_copy_106 : decode prog_1_method_34_code 106 = .ok (.iload 4, 2) := by decide +kernel
theorem d_UF_copy_108 : decode prog_1_method_34_code 108 = .ok (.isub, 1) := by decide +kernel
theorem d_UF_copy_109 : decode prog_1_method_34_code 109 = .ok (.if_icmp .le 6, 3) := by decide +kernel
theorem d_UF_copy_112 : decode prog_1_method_34_code 112 = .ok (.bipush (-12), 2) := by decide +kernel
theorem d_UF_copy_114 : decode prog_1_method_34_code 114 = .ok (.ireturn, 1) := by decide +kernel
theorem d_UF_copy_115 : decode prog_1_method_34_code 115 = .ok (.aload 6, 2) := by decide +kernel
theorem d_UF_copy_117 : decode prog_1_method_34_code 117 = .ok (.getfield 243, 3) := by decide +kernel
theorem d_UF_copy_120 : decode prog_1_method_34_code 120 = .ok (.iload_n 2, 1) := by decide +kernel
theorem d_UF_copy_121 : decode prog_1_method_34_code 121 = .ok (.aload 7, 2) := by decide +kernel
theorem d_UF_copy_123 : decode prog_1_method_34_code 123 = .ok (.getfield 243, 3) := by decide +kernel
theorem d_UF_copy_126 : decode prog_1_method_34_code 126 = .ok (.iload 4, 2) := by decide +kernel
theorem d_UF_copy_128 : decode prog_1_method_34_code 128 = .ok (.iload 5, 2) := by decide +kernel
theorem d_UF_copy_130 : decode prog_1_method_34_code 130 = .ok (.invokestatic 246, 3) := by decide +kernel
theorem d_UF_copy_133 : decode prog_1_method_34_code 133 = .ok (.iload 5, 2) := by decide +kernel
theorem d_UF_copy_135 : decode prog_1_method_34_code 135 = .ok (.ireturn, 1) := by decide +kernel
def p_UF_copy (Q : Int32 → AH → Prop) (x1 : Int32) (x2 : Int32) (x3 : Int32) (x4 : Int32) (x5 : Int32) (h : AH) : Prop := p_UF_isSheet (fun r2 h1 => ((r2 = 0 → Q (-2) h1) ∧ (¬ r2 = 0 → p_UF_isSheet (fun r4 h3 => ((¬ r4 = 0 → inb x1 4 ∧ 0 < rR T1 h3 3 x1.toNatClampNeg ∧ inb x3 4 ∧ 0 < rR T1 h3 3 x3.toNatClampNeg ∧ vA T1 h3 (rR T1 h3 3 x1.toNatClampNeg - 1) ∧ (rS T1 h3 (rR T1 h3 3 x1.toNatClampNeg - 1)).1 = 8 ∧ (((h3.1 (rR T1 h3 3 x1.toNatClampNeg - 1) 1) = (-1) → Q (-11) h3) ∧ (¬ (h3.1 (rR T1 h3 3 x1.toNatClampNeg - 1) 1) = (-1) → vA T1 h3 (rR T1 h3 3 x3.toNatClampNeg - 1) ∧ (rS T1 h3 (rR T1 h3 3 x3.toNatClampNeg - 1)).1 = 8 ∧ ((¬ (h3.1 (rR T1 h3 3 x3.toNatClampNeg - 1) 1) = (-1) → (((h3.1 (rR T1 h3 3 x1.toNatClampNeg - 1) 1) = (h3.1 (rR T1 h3 3 x3.toNatClampNeg - 1) 1) → ((x2 < 0 → Q (-12) h3) ∧ (¬ x2 < 0 → ((x4 < 0 → Q (-12) h3) ∧ (¬ x4 < 0 → ((0 ≤ x5 → ((((h3.1 (rR T1 h3 3 x1.toNatClampNeg - 1) 2) - x2) < x5 → Q (-12) h3) ∧ (¬ ((h3.1 (rR T1 h3 3 x1.toNatClampNeg - 1) 2) - x2) < x5 → ((x5 ≤ ((h3.1 (rR T1 h3 3 x3.toNatClampNeg - 1) 2) - x4) → 0 < rR T1 h3 (rR T1 h3 3 x1.toNatClampNeg - 1) 0 ∧ 0 < rR T1 h3 (rR T1 h3 3 x3.toNatClampNeg - 1) 0 ∧ vA T1 h3 (rR T1 h3 (rR T1 h3 3 x1.toNatClampNeg - 1) 0 - 1) ∧ (rS T1 h3 (rR T1 h3 (rR T1 h3 3 x1.toNatClampNeg - 1) 0 - 1)).1 = 100 ∧ vA T1 h3 (rR T1 h3 (rR T1 h3 3 x3.toNatClampNeg - 1) 0 - 1) ∧ (rS T1 h3 (rR T1 h3 (rR T1 h3 3 x3.toNatClampNeg - 1) 0 - 1)).1 = 100 ∧ 0 ≤ x2.toInt ∧ 0 ≤ x4.toInt ∧ 0 ≤ x5.toInt ∧ x2.toInt + x5.toInt ≤ ((rS T1 h3 (rR T1 h3 (rR T1 h3 3 x1.toNatClampNeg - 1) 0 - 1)).2 : Nat) ∧ x4.toInt + x5.toInt ≤ ((rS T1 h3 (rR T1 h3 (rR T1 h3 3 x3.toNatClampNeg - 1) 0 - 1)).2 : Nat) ∧ (rS T1 h3 (rR T1 h3 (rR T1 h3 3 x1.toNatClampNeg - 1) 0 - 1)).2 < 2147483648 ∧ (rS T1 h3 (rR T1 h3 (rR T1 h3 3 x3.toNatClampNeg - 1) 0 - 1)).2 < 2147483648 ∧ Q x5 (wC h3 (rR T1 h3 (rR T1 h3 3 x1.toNatClampNeg - 1) 0 - 1) (rR T1 h3 (rR T1 h3 3 x3.toNatClampNeg - 1) 0 - 1) x2 x4 x5)) ∧ (¬ x5 ≤ ((h3.1 (rR T1 h3 3 x3.toNatClampNeg - 1) 2) - x4) → Q (-12) h3))))) ∧ (¬ 0 ≤ x5 → Q (-12) h3))))))) ∧ (¬ (h3.1 (rR T1 h3 3 x1.toNatClampNeg - 1) 1) = (h3.1 (rR T1 h3 3 x3.toNatClampNeg - 1) 1) → Q (-13) h3))) ∧ ((h3.1 (rR T1 h3 3 x3.toNatClampNeg - 1) 1) = (-1) → Q (-11) h3))))) ∧ (r4 = 0 → Q (-2) h3))) x3 h1))) x1 h
set_option maxRecDepth 20000 in
theorem r_UF_copy_0 {G : GG} {d : Nat} {Q : Int32 → AH → Prop} (x1 : Int32) (x2 : Int32) (x3 : Int32) (x4 : Int32) (x5 : Int32) (h : AH) (H : p_UF_copy Q x1 x2 x3 x4 x5 h) : Att G T1 m_UF_copy (d + 2) 0 [some (.ref 0), some (.int x1), some (.int x2), some (.int x3), some (.int x4), some (.int x5), none, none] [] h 0 0 (iQ Q) := by
  refine A_iload_n d_UF_copy_0 rfl ?_
  refine A_cI [.int x1] [] (ct_UF_211 rfl) d_UF_copy_1 rfl rfl (by decide) (Nat.le_of_ble_eq_true rfl) trivial (ok_UF_isSheet (d := d) H) (fun r2 h1 H => ?_)
  refine A_if_eq 14 d_UF_copy_4 (by decide) (fun z => ?_) (fun z => ?_)
  · have H := H.1 z
    refine A_bipush (-2) (by decide) d_UF_copy_14 ?_
    exact A_iret d_UF_copy_16 rfl rfl H
  · have H := H.2 z
    refine A_iload_n d_UF_copy_7 rfl ?_
    refine A_cI [.int x3] [] (ct_UF_211 rfl) d_UF_copy_8 rfl rfl (by decide) (Nat.le_of_ble_eq_true rfl) trivial (ok_UF_isSheet (d := d) H) (fun r4 h3 H => ?_)
    refine A_if_ne 17 d_UF_copy_11 (by decide) (fun z => ?_) (fun z => ?_)
    · have H := H.1 z
      refine A_aload_n d_UF_copy_17 rfl ?_
      refine A_get (v := .ref 3) d_UF_copy_18 (fo_UF_23_11 rfl) (vA_s (by decide)) rfl (by first | rfl | (show Value.int _ = Value.int _; simp [wI, wL, wR, wC, up])) ?_
      refine A_iload_n d_UF_copy_21 rfl ?_
      obtain ⟨c5, H⟩ := H
      obtain ⟨c6, H⟩ := H
      refine A_aald (t := 2) (n := 4) d_UF_copy_22 (by decide) (vA_s (by decide)) rfl c5 (pos_sub c6) ?_
      refine A_astore [some (.ref 0), some (.int x1), some (.int x2), some (.int x3), some (.int x4), some (.int x5), some (.ref (rR T1 h3 3 x1.toNatClampNeg - 1)), none] d_UF_copy_23 (by decide) rfl rfl ?_
      refine A_aload_n d_UF_copy_25 rfl ?_
      refine A_get (v := .ref 3) d_UF_copy_26 (fo_UF_23_11 rfl) (vA_s (by decide)) rfl (by first | rfl | (show Value.int _ = Value.int _; simp [wI, wL, wR, wC, up])) ?_
      refine A_iload_n d_UF_copy_29 rfl ?_
      obtain ⟨c7, H⟩ := H
      obtain ⟨c8, H⟩ := H
      refine A_aald (t := 2) (n := 4) d_UF_copy_30 (by decide) (vA_s (by decide)) rfl c7 (pos_sub c8) ?_
      refine A_astore [some (.ref 0), some (.int x1), some (.int x2), some (.int x3), some (.int x4), some (.int x5), some (.ref (rR T1 h3 3 x1.toNatClampNeg - 1)), some (.ref (rR T1 h3 3 x3.toNatClampNeg - 1))] d_UF_copy_31 (by decide) rfl rfl ?_
      refine A_aload d_UF_copy_33 rfl ?_
      obtain ⟨c9, H⟩ := H
      obtain ⟨c10, H⟩ := H
      refine A_get (v := .int (h3.1 (rR T1 h3 3 x1.toNatClampNeg - 1) 1)) d_UF_copy_35 (fo_UF_236_8 rfl) c9 c10 (by first | rfl | (show Value.int _ = Value.int _; simp [wI, wL, wR, wC, up])) ?_
      refine A_iconst (-1) (by decide) d_UF_copy_38 ?_
      refine A_icmp_eq 51 d_UF_copy_39 (by decide) (fun z => ?_) (fun z => ?_)
      · have H := H.1 z
        refine A_bipush (-11) (by decide) d_UF_copy_51 ?_
        exact A_iret d_UF_copy_53 rfl rfl H
      · have H := H.2 z
        refine A_aload d_UF_copy_42 rfl ?_
        obtain ⟨c11, H⟩ := H
        obtain ⟨c12, H⟩ := H
        refine A_get (v := .int (h3.1 (rR T1 h3 3 x3.toNatClampNeg - 1) 1)) d_UF_copy_44 (fo_UF_236_8 rfl) c11 c12 (by first | rfl | (show Value.int _ = Value.int _; simp [wI, wL, wR, wC, up])) ?_
        refine A_iconst (-1) (by decide) d_UF_copy_47 ?_
        refine A_icmp_ne 54 d_UF_copy_48 (by decide) (fun z => ?_) (fun z => ?_)
        · have H := H.1 z
          refine A_aload d_UF_copy_54 rfl ?_
          refine A_get (v := .int (h3.1 (rR T1 h3 3 x1.toNatClampNeg - 1) 1)) d_UF_copy_56 (fo_UF_236_8 rfl) c9 c10 (by first | rfl | (show Value.int _ = Value.int _; simp [wI, wL, wR, wC, up])) ?_
          refine A_aload d_UF_copy_59 rfl ?_
          refine A_get (v := .int (h3.1 (rR T1 h3 3 x3.toNatClampNeg - 1) 1)) d_UF_copy_61 (fo_UF_236_8 rfl) c11 c12 (by first | rfl | (show Value.int _ = Value.int _; simp [wI, wL, wR, wC, up])) ?_
          refine A_icmp_eq 70 d_UF_copy_64 (by decide) (fun z => ?_) (fun z => ?_)
          · have H := H.1 z
            refine A_iload_n d_UF_copy_70 rfl ?_
            refine A_if_lt 84 d_UF_copy_71 (by decide) (fun z => ?_) (fun z => ?_)
            · have H := H.1 z
              refine A_bipush (-12) (by decide) d_UF_copy_84 ?_
              exact A_iret d_UF_copy_86 rfl rfl H
            · have H := H.2 z
              refine A_iload d_UF_copy_74 rfl ?_
              refine A_if_lt 84 d_UF_copy_76 (by decide) (fun z => ?_) (fun z => ?_)
              · have H := H.1 z
                refine A_bipush (-12) (by decide) d_UF_copy_84 ?_
                exact A_iret d_UF_copy_86 rfl rfl H
              · have H := H.2 z
                refine A_iload d_UF_copy_79 rfl ?_
                refine A_if_ge 87 d_UF_copy_81 (by decide) (fun z => ?_) (fun z => ?_)
                · have H := H.1 z
                  refine A_iload d_UF_copy_87 rfl ?_
                  refine A_aload d_UF_copy_89 rfl ?_
                  refine A_get (v := .int (h3.1 (rR T1 h3 3 x1.toNatClampNeg - 1) 2)) d_UF_copy_91 (fo_UF_242_8 rfl) c9 c10 (by first | rfl | (show Value.int _ = Value.int _; simp [wI, wL, wR, wC, up])) ?_
                  refine A_iload_n d_UF_copy_94 rfl ?_
                  refine A_isub d_UF_copy_95 ?_
                  refine A_icmp_gt 112 d_UF_copy_96 (by decide) (fun z => ?_) (fun z => ?_)
                  · have H := H.1 z
                    refine A_bipush (-12) (by decide) d_UF_copy_112 ?_
                    exact A_iret d_UF_copy_114 rfl rfl H
                  · have H := H.2 z
                    refine A_iload d_UF_copy_99 rfl ?_
                    refine A_aload d_UF_copy_101 rfl ?_
                    refine A_get (v := .int (h3.1 (rR T1 h3 3 x3.toNatClampNeg - 1) 2)) d_UF_copy_103 (fo_UF_242_8 rfl) c11 c12 (by first | rfl | (show Value.int _ = Value.int _; simp [wI, wL, wR, wC, up])) ?_
                    refine A_iload d_UF_copy_106 rfl ?_
                    refine A_isub d_UF_copy_108 ?_
                    refine A_icmp_le 115 d_UF_copy_109 (by decide) (fun z => ?_) (fun z => ?_)
                    · have H := H.1 z
                      refine A_aload d_UF_copy_115 rfl ?_
                      obtain ⟨c13, H⟩ := H
                      refine A_get (v := .ref (rR T1 h3 (rR T1 h3 3 x1.toNatClampNeg - 1) 0 - 1)) d_UF_copy_117 (fo_UF_243_8 rfl) c9 c10 (vR_pos c13) ?_
                      refine A_iload_n d_UF_copy_120 rfl ?_
                      refine A_aload d_UF_copy_121 rfl ?_
                      obtain ⟨c14, H⟩ := H
                      refine A_get (v := .ref (rR T1 h3 (rR T1 h3 3 x3.toNatClampNeg - 1) 0 - 1)) d_UF_copy_123 (fo_UF_243_8 rfl) c11 c12 (vR_pos c14) ?_
                      refine A_iload d_UF_copy_126 rfl ?_
                      refine A_iload d_UF_copy_128 rfl ?_
                      obtain ⟨c15, H⟩ := H
                      obtain ⟨c16, H⟩ := H
                      obtain ⟨c17, H⟩ := H
                      obtain ⟨c18, H⟩ := H
                      obtain ⟨c19, H⟩ := H
                      obtain ⟨c20, H⟩ := H
                      obtain ⟨c21, H⟩ := H
                      obtain ⟨c22, H⟩ := H
                      obtain ⟨c23, H⟩ := H
                      obtain ⟨c24, H⟩ := H
                      obtain ⟨c25, H⟩ := H
                      refine A_acopy (n0 := _) (n1 := _) d_UF_copy_130 (tG 806 (by decide +kernel) (by decide +kernel)) (tG 439 (by decide +kernel) (by decide +kernel)) (tG 438 (by decide +kernel) (by decide +kernel)) (tG 14 (by decide +kernel) (by decide +kernel)) c15 (rS_ex c16) c17 (rS_ex c18) c19 c20 c21 c22 c23 c24 c25 (Nat.le_of_ble_eq_true rfl) ?_
                      refine A_iload d_UF_copy_133 rfl ?_
                      exact A_iret d_UF_copy_135 rfl rfl H
                    · have H := H.2 z
                      refine A_bipush (-12) (by decide) d_UF_copy_112 ?_
                      exact A_iret d_UF_copy_114 rfl rfl H
                · have H := H.2 z
                  refine A_bipush (-12) (by decide) d_UF_copy_84 ?_
                  exact A_iret d_UF_copy_86 rfl rfl H
          · have H := H.2 z
            refine A_bipush (-13) (by decide) d_UF_copy_67 ?_
            exact A_iret d_UF_copy_69 rfl rfl H
        · have H := H.2 z
          refine A_bipush (-11) (by decide) d_UF_copy_51 ?_
          exact A_iret d_UF_copy_53 rfl rfl H
    · have H := H.2 z
      refine A_bipush (-2) (by decide) d_UF_copy_14 ?_
      exact A_iret d_UF_copy_16 rfl rfl H
set_option maxRecDepth 20000 in
theorem ok_UF_copy {G : GG} {d : Nat} {Q : Int32 → AH → Prop} {x1 : Int32} {x2 : Int32} {x3 : Int32} {x4 : Int32} {x5 : Int32} {h : AH} (H : p_UF_copy Q x1 x2 x3 x4 x5 h) : WP G T1 m_UF_copy (d + 2) [.ref 0, .int x1, .int x2, .int x3, .int x4, .int x5] h 0 0 (iQ Q) := by
  exact WP.enter 2 (by decide) rfl rfl (r_UF_copy_0 x1 x2 x3 x4 x5 h H)
theorem d_MO_between_0 : decode prog_14_method_19_code 0 = .ok (.aload_n 0, 1) := by decide +kernel
theorem d_MO_between_1 : decode prog_14_method_19_code 1 = .ok (.iload_n 1, 1) := by decide +kernel
theorem d_MO_between_2 : decode prog_14_method_19_code 2 = .ok (.invokestatic 138, 3) := by decide +kernel
theorem d_MO_between_5 : decode prog_14_method_19_code 5 = .ok (.iconst 4, 1) := by decide +kernel
theorem d_MO_between_6 : decode prog_14_method_19_code 6 = .ok (.if_icmp .ne 7, 3) := by decide +kernel
theorem d_MO_between_9 : decode prog_14_method_19_code 9 = .ok (.iconst 5, 1) := by decide +kernel
theorem d_MO_between_10 : decode prog_14_method_19_code 10 = .ok (.goto 7, 3) := by decide +kernel
theorem d_MO_between_13 : decode prog_14_method_19_code 13 = .ok (.iload_n 1, 1) := by decide +kernel
theorem d_MO_between_14 : decode prog_14_method_19_code 14 = .ok (.invokestatic 138, 3) := by decide +kernel
theorem d_MO_between_17 : decode prog_14_method_19_code 17 = .ok (.invokevirtual 152, 3) := by decide +kernel
theorem d_MO_between_20 : decode prog_14_method_19_code 20 = .ok (.iload_n 1, 1) := by decide +kernel
theorem d_MO_between_21 : decode prog_14_method_19_code 21 = .ok (.invokestatic 138, 3) := by decide +kernel
theorem d_MO_between_24 : decode prog_14_method_19_code 24 = .ok (.iconst 4, 1) := by decide +kernel
theorem d_MO_between_25 : decode prog_14_method_19_code 25 = .ok (.if_icmp .ne 30, 3) := by decide +kernel
theorem d_MO_between_28 : decode prog_14_method_19_code 28 = .ok (.aload_n 0, 1) := by decide +kernel
theorem d_MO_between_29 : decode prog_14_method_19_code 29 = .ok (.getfield 135, 3) := by decide +kernel
theorem d_MO_between_32 : decode prog_14_method_19_code 32 = .ok (.ifCond .le 23, 3) := by decide +kernel
theorem d_MO_between_35 : decode prog_14_method_19_code 35 = .ok (.aload_n 0, 1) := by decide +kernel
theorem d_MO_between_36 : decode prog_14_method_19_code 36 = .ok (.getfield 55, 3) := by decide +kernel
theorem d_MO_between_39 : decode prog_14_method_19_code 39 = .ok (.aload_n 0, 1) := by decide +kernel
theorem d_MO_between_40 : decode prog_14_method_19_code 40 = .ok (.getfield 135, 3) := by decide +kernel
theorem d_MO_between_43 : decode prog_14_method_19_code 43 = .ok (.iconst 1, 1) := by decide +kernel
theorem d_MO_between_44 : decode prog_14_method_19_code 44 = .ok (.isub, 1) := by decide +kernel
theorem d_MO_between_45 : decode prog_14_method_19_code 45 = .ok (.iaload, 1) := by decide +kernel
theorem d_MO_between_46 : decode prog_14_method_19_code 46 = .ok (.invokestatic 138, 3) := by decide +kernel
theorem d_MO_between_49 : decode prog_14_method_19_code 49 = .ok (.iconst 4, 1) := by decide +kernel
theorem d_MO_between_50 : decode prog_14_method_19_code 50 = .ok (.if_icmp .ne 5, 3) := by decide +kernel
theorem d_MO_between_53 : decode prog_14_method_19_code 53 = .ok (.iconst 0, 1) := by decide +kernel
theorem d_MO_between_54 : decode prog_14_method_19_code 54 = .ok (.ireturn, 1) := by decide +kernel
theorem d_MO_between_55 : decode prog_14_method_19_code 55 = .ok (.aload_n 0, 1) := by decide +kernel
theorem d_MO_between_56 : decode prog_14_method_19_code 56 = .ok (.iload_n 1, 1) := by decide +kernel
theorem d_MO_between_57 : decode prog_14_method_19_code 57 = .ok (.invokevirtual 149, 3) := by decide +kernel
theorem d_MO_between_60 : decode prog_14_method_19_code 60 = .ok (.iconst 1, 1) := by decide +kernel
theorem d_MO_between_61 : decode prog_14_method_19_code 61 = .ok (.ireturn, 1) := by decide +kernel
def p_MO_between_55 (Q : Int32 → AH → Prop) (x1 : Int32) (h : AH) : Prop := p_MO_holds (fun h1 => Q 1 h1) x1 h
def p_MO_between_17 (Q : Int32 → AH → Prop) (x1 : Int32) (s1 : Int32) (h : AH) : Prop := p_MO_unwinds (fun h1 => p_MO_rank (fun r3 h2 => ((¬ r3 = 4 → p_MO_between_55 Q   x1 h2) ∧ (r3 = 4 → (((h2.1 59 27) ≤ 0 → p_MO_between_55 Q   x1 h2) ∧ (¬ (h2.1 59 27) ≤ 0 → inb ((h2.1 59 27) - 1) 200 ∧ p_MO_rank (fun r6 h5 => ((¬ r6 = 4 → p_MO_between_55 Q   x1 h5) ∧ (r6 = 4 → Q 0 h5))) (h2.1 75 ((h2.1 59 27) - 1)) h2))))) x1 h1) s1 h
def p_MO_between (Q : Int32 → AH → Prop) (x1 : Int32) (h : AH) : Prop := p_MO_rank (fun r2 h1 => ((¬ r2 = 4 → p_MO_rank (fun r4 h3 => p_MO_between_17 Q   x1 r4 h3) x1 h1) ∧ (r2 = 4 → p_MO_between_17 Q   x1 5 h1))) x1 h
set_option maxRecDepth 20000 in
theorem r_MO_between_55 {G : GG} {d : Nat} {Q : Int32 → AH → Prop} (x1 : Int32) (h : AH) (H : p_MO_between_55 Q x1 h) : Att G T1 m_MO_between (d + 2) 55 [some (.ref 59), some (.int x1)] [] h 0 0 (iQ Q) := by
  refine A_aload_n d_MO_between_55 rfl ?_
  refine A_iload_n d_MO_between_56 rfl ?_
  refine A_cV [.ref 59, .int x1] [] (ct_MO_149 rfl) d_MO_between_57 rfl rfl (by decide) (Nat.le_of_ble_eq_true rfl) (rcA_o (c := 12) rfl (vA_s (by decide)) rfl (by decide) rfl) (ok_MO_holds (d := d + 1) H) (fun h1 H => ?_)
  refine A_iconst 1 (by decide) d_MO_between_60 ?_
  exact A_iret d_MO_between_61 rfl rfl H
set_option maxRecDepth 20000 in
theorem r_MO_between_17 {G : GG} {d : Nat} {Q : Int32 → AH → Prop} (x1 : Int32) (s1 : Int32) (h : AH) (H : p_MO_between_17 Q x1 s1 h) : Att G T1 m_MO_between (d + 2) 17 [some (.ref 59), some (.int x1)] [.int s1, .ref 59] h 0 0 (iQ Q) := by
  refine A_cV [.ref 59, .int s1] [] (ct_MO_152 rfl) d_MO_between_17 rfl rfl (by decide) (Nat.le_of_ble_eq_true rfl) (rcA_o (c := 12) rfl (vA_s (by decide)) rfl (by decide) rfl) (ok_MO_unwinds (d := d) H) (fun h1 H => ?_)
  refine A_iload_n d_MO_between_20 rfl ?_
  refine A_cI [.int x1] [] (ct_MO_138 rfl) d_MO_between_21 rfl rfl (by decide) (Nat.le_of_ble_eq_true rfl) trivial (ok_MO_rank (d := d + 1) H) (fun r3 h2 H => ?_)
  refine A_iconst 4 (by decide) d_MO_between_24 ?_
  refine A_icmp_ne 55 d_MO_between_25 (by decide) (fun z => ?_) (fun z => ?_)
  · have H := H.1 z
    exact r_MO_between_55   _ _ H
  · have H := H.2 z
    refine A_aload_n d_MO_between_28 rfl ?_
    refine A_get (v := .int (h2.1 59 27)) d_MO_between_29 (fo_MO_135_12 rfl) (vA_s (by decide)) rfl (by first | rfl | (show Value.int _ = Value.int _; simp [wI, wL, wR, wC, up])) ?_
    refine A_if_le 55 d_MO_between_32 (by decide) (fun z => ?_) (fun z => ?_)
    · have H := H.1 z
      exact r_MO_between_55   _ _ H
    · have H := H.2 z
      refine A_aload_n d_MO_between_35 rfl ?_
      refine A_get (v := .ref 75) d_MO_between_36 (fo_MO_55_12 rfl) (vA_s (by decide)) rfl (by first | rfl | (show Value.int _ = Value.int _; simp [wI, wL, wR, wC, up])) ?_
      refine A_aload_n d_MO_between_39 rfl ?_
      refine A_get (v := .int (h2.1 59 27)) d_MO_between_40 (fo_MO_135_12 rfl) (vA_s (by decide)) rfl (by first | rfl | (show Value.int _ = Value.int _; simp [wI, wL, wR, wC, up])) ?_
      refine A_iconst 1 (by decide) d_MO_between_43 ?_
      refine A_isub d_MO_between_44 ?_
      obtain ⟨c4, H⟩ := H
      refine A_ialdv (n := 200) (v := (h2.1 75 ((h2.1 59 27) - 1))) d_MO_between_45 (vA_s (by decide)) rfl c4 rfl ?_
      refine A_cI [.int (h2.1 75 ((h2.1 59 27) - 1))] [] (ct_MO_138 rfl) d_MO_between_46 rfl rfl (by decide) (Nat.le_of_ble_eq_true rfl) trivial (ok_MO_rank (d := d + 1) H) (fun r6 h5 H => ?_)
      refine A_iconst 4 (by decide) d_MO_between_49 ?_
      refine A_icmp_ne 55 d_MO_between_50 (by decide) (fun z => ?_) (fun z => ?_)
      · have H := H.1 z
        exact r_MO_between_55   _ _ H
      · have H := H.2 z
        refine A_iconst 0 (by decide) d_MO_between_53 ?_
        exact A_iret d_MO_between_54 rfl rfl H
set_option maxRecDepth 20000 in
theorem r_MO_between_0 {G : GG} {d : Nat} {Q : Int32 → AH → Prop} (x1 : Int32) (h : AH) (H : p_MO_between Q x1 h) : Att G T1 m_MO_between (d + 2) 0 [some (.ref 59), some (.int x1)] [] h 0 0 (iQ Q) := by
  refine A_aload_n d_MO_between_0 rfl ?_
  refine A_iload_n d_MO_between_1 rfl ?_
  refine A_cI [.int x1] [.ref 59] (ct_MO_138 rfl) d_MO_between_2 rfl rfl (by decide) (Nat.le_of_ble_eq_true rfl) trivial (ok_MO_rank (d := d + 1) H) (fun r2 h1 H => ?_)
  refine A_iconst 4 (by decide) d_MO_between_5 ?_
  refine A_icmp_ne 13 d_MO_between_6 (by decide) (fun z => ?_) (fun z => ?_)
  · have H := H.1 z
    refine A_iload_n d_MO_between_13 rfl ?_
    refine A_cI [.int x1] [.ref 59] (ct_MO_138 rfl) d_MO_between_14 rfl rfl (by decide) (Nat.le_of_ble_eq_true rfl) trivial (ok_MO_rank (d := d + 1) H) (fun r4 h3 H => ?_)
    exact r_MO_between_17   _ _ _ H
  · have H := H.2 z
    refine A_iconst 5 (by decide) d_MO_between_9 ?_
    refine A_goto 17 d_MO_between_10 (by decide) ?_
    exact r_MO_between_17   _ _ _ H
set_option maxRecDepth 20000 in
theorem ok_MO_between {G : GG} {d : Nat} {Q : Int32 → AH → Prop} {x1 : Int32} {h : AH} (H : p_MO_between Q x1 h) : WP G T1 m_MO_between (d + 2) [.ref 59, .int x1] h 0 0 (iQ Q) := by
  exact WP.enter 0 (by decide) rfl rfl (r_MO_between_0 x1 h H)
theorem d_MO_count_0 : decode prog_14_method_9_code 0 = .ok (.iload_n 1, 1) := by decide +kernel
theorem d_MO_count_1 : decode prog_14_method_9_code 1 = .ok (.tableswitch 69 0 5 #[39, 44, 49, 54, 59, 64], 39) := by decide +kernel
theorem d_MO_count_40 : decode prog_14_method_9_code 40 = .ok (.aload_n 0, 1) := by decide +kernel
theorem d_MO_count_41 : decode prog_14_method_9_code 41 = .ok (.getfield 90, 3) := by decide +kernel
theorem d_MO_count_44 : decode prog_14_method_9_code 44 = .ok (.ireturn, 1) := by decide +kernel
theorem d_MO_count_45 : decode prog_14_method_9_code 45 = .ok (.aload_n 0, 1) := by decide +kernel
theorem d_MO_count_46 : decode prog_14_method_9_code 46 = .ok (.invokevirtual 101, 3) := by decide +kernel
theorem d_MO_count_49 : decode prog_14_method_9_code 49 = .ok (.ireturn, 1) := by decide +kernel
theorem d_MO_count_50 : decode prog_14_method_9_code 50 = .ok (.aload_n 0, 1) := by decide +kernel
theorem d_MO_count_51 : decode prog_14_method_9_code 51 = .ok (.invokevirtual 104, 3) := by decide +kernel
theorem d_MO_count_54 : decode prog_14_method_9_code 54 = .ok (.ireturn, 1) := by decide +kernel
theorem d_MO_count_55 : decode prog_14_method_9_code 55 = .ok (.aload_n 0, 1) := by decide +kernel
theorem d_MO_count_56 : decode prog_14_method_9_code 56 = .ok (.getfield 107, 3) := by decide +kernel
theorem d_MO_count_59 : decode prog_14_method_9_code 59 = .ok (.ireturn, 1) := by decide +kernel
theorem d_MO_count_60 : decode prog_14_method_9_code 60 = .ok (.aload_n 0, 1) := by decide +kernel
theorem d_MO_count_61 : decode prog_14_method_9_code 61 = .ok (.getfield 110, 3) := by decide +kernel
theorem d_MO_count_64 : decode prog_14_method_9_code 64 = .ok (.ireturn, 1) := by decide +kernel
theorem d_MO_count_65 : decode prog_14_method_9_code 65 = .ok (.aload_n 0, 1) := by decide +kernel
theorem d_MO_count_66 : decode prog_14_method_9_code 66 = .ok (.getfield 82, 3) := by decide +kernel
theorem d_MO_count_69 : decode prog_14_method_9_code 69 = .ok (.ireturn, 1) := by decide +kernel
theorem d_MO_count_70 : decode prog_14_method_9_code 70 = .ok (.bipush (-2), 2) := by decide +kernel
theorem d_MO_count_72 : decode prog_14_method_9_code 72 = .ok (.ireturn, 1) := by decide +kernel
def p_MO_count (Q : Int32 → AH → Prop) (x1 : Int32) (h : AH) : Prop := ((x1 = 0 → Q (h.1 59 0) h) ∧ (x1 = 1 → p_MO_chains (fun r2 h1 => Q r2 h1) h) ∧ (x1 = 2 → p_MO_peopleAll (fun r4 h3 => Q r4 h3) h) ∧ (x1 = 3 → Q (h.1 59 11) h) ∧ (x1 = 4 → Q (h.1 59 12) h) ∧ (x1 = 5 → Q (h.1 59 8) h) ∧ (¬ x1 = 0 → ¬ x1 = 1 → ¬ x1 = 2 → ¬ x1 = 3 → ¬ x1 = 4 → ¬ x1 = 5 → Q (-2) h))
set_option maxRecDepth 20000 in
theorem r_MO_count_0 {G : GG} {d : Nat} {Q : Int32 → AH → Prop} (x1 : Int32) (h : AH) (H : p_MO_count Q x1 h) : Att G T1 m_MO_count (d + 2) 0 [some (.ref 59), some (.int x1)] [] h 0 0 (iQ Q) := by
  refine A_iload_n d_MO_count_0 rfl ?_
  by_cases z0 : x1 = 0
  · have H := H.1 z0
    refine A_tsI 40 d_MO_count_1 (by rw [z0]; decide) (by rw [z0]; decide) (by rw [z0]; rfl) (by decide) ?_
    refine A_aload_n d_MO_count_40 rfl ?_
    refine A_get (v := .int (h.1 59 0)) d_MO_count_41 (fo_MO_90_12 rfl) (vA_s (by decide)) rfl (by first | rfl | (show Value.int _ = Value.int _; simp [wI, wL, wR, wC, up])) ?_
    exact A_iret d_MO_count_44 rfl rfl H
  · have H := H.2
    by_cases z1 : x1 = 1
    · have H := H.1 z1
      refine A_tsI 45 d_MO_count_1 (by rw [z1]; decide) (by rw [z1]; decide) (by rw [z1]; rfl) (by decide) ?_
      refine A_aload_n d_MO_count_45 rfl ?_
      refine A_cI [.ref 59] [] (ct_MO_101 rfl) d_MO_count_46 rfl rfl (by decide) (Nat.le_of_ble_eq_true rfl) (rcA_o (c := 12) rfl (vA_s (by decide)) rfl (by decide) rfl) (ok_MO_chains (d := d) H) (fun r2 h1 H => ?_)
      exact A_iret d_MO_count_49 rfl rfl H
    · have H := H.2
      by_cases z2 : x1 = 2
      · have H := H.1 z2
        refine A_tsI 50 d_MO_count_1 (by rw [z2]; decide) (by rw [z2]; decide) (by rw [z2]; rfl) (by decide) ?_
        refine A_aload_n d_MO_count_50 rfl ?_
        refine A_cI [.ref 59] [] (ct_MO_104 rfl) d_MO_count_51 rfl rfl (by decide) (Nat.le_of_ble_eq_true rfl) (rcA_o (c := 12) rfl (vA_s (by decide)) rfl (by decide) rfl) (ok_MO_peopleAll (d := d + 1) H) (fun r4 h3 H => ?_)
        exact A_iret d_MO_count_54 rfl rfl H
      · have H := H.2
        by_cases z3 : x1 = 3
        · have H := H.1 z3
          refine A_tsI 55 d_MO_count_1 (by rw [z3]; decide) (by rw [z3]; decide) (by rw [z3]; rfl) (by decide) ?_
          refine A_aload_n d_MO_count_55 rfl ?_
          refine A_get (v := .int (h.1 59 11)) d_MO_count_56 (fo_MO_107_12 rfl) (vA_s (by decide)) rfl (by first | rfl | (show Value.int _ = Value.int _; simp [wI, wL, wR, wC, up])) ?_
          exact A_iret d_MO_count_59 rfl rfl H
        · have H := H.2
          by_cases z4 : x1 = 4
          · have H := H.1 z4
            refine A_tsI 60 d_MO_count_1 (by rw [z4]; decide) (by rw [z4]; decide) (by rw [z4]; rfl) (by decide) ?_
            refine A_aload_n d_MO_count_60 rfl ?_
            refine A_get (v := .int (h.1 59 12)) d_MO_count_61 (fo_MO_110_12 rfl) (vA_s (by decide)) rfl (by first | rfl | (show Value.int _ = Value.int _; simp [wI, wL, wR, wC, up])) ?_
            exact A_iret d_MO_count_64 rfl rfl H
          · have H := H.2
            by_cases z5 : x1 = 5
            · have H := H.1 z5
              refine A_tsI 65 d_MO_count_1 (by rw [z5]; decide) (by rw [z5]; decide) (by rw [z5]; rfl) (by decide) ?_
              refine A_aload_n d_MO_count_65 rfl ?_
              refine A_get (v := .int (h.1 59 8)) d_MO_count_66 (fo_MO_82_12 rfl) (vA_s (by decide)) rfl (by first | rfl | (show Value.int _ = Value.int _; simp [wI, wL, wR, wC, up])) ?_
              exact A_iret d_MO_count_69 rfl rfl H
            · have H := H.2
              have H := H z0 z1 z2 z3 z4 z5
              refine A_tsO 70 d_MO_count_1 (by have t0 := lv_neT z0 (a := 0) (by decide); have t1 := lv_neT z1 (a := 1) (by decide); have t2 := lv_neT z2 (a := 2) (by decide); have t3 := lv_neT z3 (a := 3) (by decide); have t4 := lv_neT z4 (a := 4) (by decide); have t5 := lv_neT z5 (a := 5) (by decide); omega) (by decide) ?_
              refine A_bipush (-2) (by decide) d_MO_count_70 ?_
              exact A_iret d_MO_count_72 rfl rfl H
set_option maxRecDepth 20000 in
theorem ok_MO_count {G : GG} {d : Nat} {Q : Int32 → AH → Prop} {x1 : Int32} {h : AH} (H : p_MO_count Q x1 h) : WP G T1 m_MO_count (d + 2) [.ref 59, .int x1] h 0 0 (iQ Q) := by
  exact WP.enter 0 (by decide) rfl rfl (r_MO_count_0 x1 h H)
theorem d_MO_feed_0 : decode prog_14_method_11_code 0 = .ok (.iload_n 1, 1) := by decide +kernel
theorem d_MO_feed_1 : decode prog_14_method_11_code 1 = .ok (.iconst 1, 1) := by decide +kernel
theorem d_MO_feed_2 : decode prog_14_method_11_code 2 = .ok (.iconst 5, 1) := by decide +kernel
theorem d_MO_feed_3 : decode prog_14_method_11_code 3 = .ok (.invokestatic 93, 3) := by decide +kernel
theorem d_MO_feed_6 : decode prog_14_method_11_code 6 = .ok (.ifCond .eq 41, 3) := by decide +kernel
theorem d_MO_feed_9 : decode prog_14_method_11_code 9 = .ok (.iload_n 2, 1) := by decide +kernel
theorem d_MO_feed_10 : decode prog_14_method_11_code 10 = .ok (.invokestatic 113, 3) := by decide +kernel
theorem d_MO_feed_13 : decode prog_14_method_11_code 13 = .ok (.ifCond .eq 34, 3) := by decide +kernel
theorem d_MO_feed_16 : decode prog_14_method_11_code 16 = .ok (.iload_n 3, 1) := by decide +kernel
theorem d_MO_feed_17 : decode prog_14_method_11_code 17 = .ok (.invokestatic 113, 3) := by decide +kernel
theorem d_MO_feed_20 : decode prog_14_method_11_code 20 = .ok (.ifCond .eq 27, 3) := by decide +kernel
theorem d_MO_feed_23 : decode prog_14_method_11_code 23 = .ok (.iload 4, 2) := by decide +kernel
theorem d_MO_feed_25 : decode prog_14_method_11_code 25 = .ok (.invokestatic 113, 3) := by decide +kernel
theorem d_MO_feed_28 : decode prog_14_method_11_code 28 = .ok (.ifCond .eq 19, 3) := by decide +kernel
theorem d_MO_feed_31 : decode prog_14_method_11_code 31 = .ok (.iload 5, 2) := by decide +kernel
theorem d_MO_feed_33 : decode prog_14_method_11_code 33 = .ok (.invokestatic 113, 3) := by decide +kernel
theorem d_MO_feed_36 : decode prog_14_method_11_code 36 = .ok (.ifCond .eq 11, 3) := by decide +kernel
theorem d_MO_feed_39 : decode prog_14_method_11_code 39 = .ok (.iload 6, 2) := by decide +kernel
theorem d_MO_feed_41 : decode prog_14_method_11_code 41 = .ok (.invokestatic 113, 3) := by decide +kernel
theorem d_MO_feed_44 : decode prog_14_method_11_code 44 = .ok (.ifCond .ne 6, 3) := by decide +kernel
theorem d_MO_feed_47 : decode prog_14_method_11_code 47 = .ok (.bipush (-2), 2) := by decide +kernel
theorem d_MO_feed_49 : decode prog_14_method_11_code 49 = .ok (.ireturn, 1) := by decide +kernel
theorem d_MO_feed_50 : decode prog_14_method_11_code 50 = .ok (.aload_n 0, 1) := by decide +kernel
theorem d_MO_feed_51 : decode prog_14_method_11_code 51 = .ok (.getfield 82, 3) := by decide +kernel
theorem d_MO_feed_54 : decode prog_14_method_11_code 54 = .ok (.iload_n 1, 1) := by decide +kernel
theorem d_MO_feed_55 : decode prog_14_method_11_code 55 = .ok (.iadd, 1) := by decide +kernel
theorem d_MO_feed_56 : decode prog_14_method_11_code 56 = .ok (.sipush 160, 3) := by decide +kernel
theorem d_MO_feed_59 : decode prog_14_method_11_code 59 = .ok (.if_icmp .le 6, 3) := by decide +kernel
theorem d_MO_feed_62 : decode prog_14_method_11_code 62 = .ok (.bipush (-4), 2) := by decide +kernel
theorem d_MO_feed_64 : decode prog_14_method_11_code 64 = .ok (.ireturn, 1) := by decide +kernel
theorem d_MO_feed_65 : decode prog_14_method_11_code 65 = .ok (.iconst 0, 1) := by decide +kernel
theorem d_MO_feed_66 : decode prog_14_method_11_code 66 = .ok (.istore 7, 2) := by decide +kernel
theorem d_MO_feed_68 : decode prog_14_method_11_code 68 = .ok (.iload 7, 2) := by decide +kernel
theorem d_MO_feed_70 : decode prog_14_method_11_code 70 = .ok (.iload_n 1, 1) := by decide +kernel
theorem d_MO_feed_71 : decode prog_14_method_11_code 71 = .ok (.if_icmp .ge 71, 3) := by decide +kernel
theorem d_MO_feed_74 : decode prog_14_method_11_code 74 = .ok (.aload_n 0, 1) := by decide +kernel
theorem d_MO_feed_75 : decode prog_14_method_11_code 75 = .ok (.getfield 28, 3) := by decide +kernel
theorem d_MO_feed_78 : decode prog_14_method_11_code 78 = .ok (.aload_n 0, 1) := by decide +kernel
theorem d_MO_feed_79 : decode prog_14_method_11_code 79 = .ok (.getfield 82, 3) := by decide +kernel
theorem d_MO_feed_82 : decode prog_14_method_11_code 82 = .ok (.iload 7, 2) := by decide +kernel
theorem d_MO_feed_84 : decode prog_14_method_11_code 84 = .ok (.ifCond .ne 7, 3) := by decide +kernel
theorem d_MO_feed_87 : decode prog_14_method_11_code 87 = .ok (.iload_n 2, 1) := by decide +kernel
theorem d_MO_feed_88 : decode prog_14_method_11_code 88 = .ok (.goto 37, 3) := by decide +kernel
theorem d_MO_feed_91 : decode prog_14_method_11_code 91 = .ok (.iload 7, 2) := by decide +kernel
theorem d_MO_feed_93 : decode prog_14_method_11_code 93 = .ok (.iconst 1, 1) := by decide +kernel
theorem d_MO_feed_94 : decode prog_14_method_11_code 94 = .ok (.if_icmp .ne 7, 3) := by decide +kernel
theorem d_MO_feed_97 : decode prog_14_method_11_code 97 = .ok (.iload_n 3, 1) := by decide +kernel
theorem d_MO_feed_98 : decode prog_14_method_11_code 98 = .ok (.goto 27, 3) := by decide +kernel
theorem d_MO_feed_101 : decode prog_14_method_11_code 101 = .ok (.iload 7, 2) := by decide +kernel
theorem d_MO_feed_103 : decode prog_14_method_11_code 103 = .ok (.iconst 2, 1) := by decide +kernel
theorem d_MO_feed_104 : decode prog_14_method_11_code 104 = .ok (.if_icmp .ne 8, 3) := by decide +kernel
theorem d_MO_feed_107 : decode prog_14_method_11_code 107 = .ok (.iload 4, 2) := by decide +kernel
theorem d_MO_feed_109 : decode prog_14_method_11_code 109 = .ok (.goto 16, 3) := by decide +kernel
theorem d_MO_feed_112 : decode prog_14_method_11_code 112 = .ok (.iload 7, 2) := by decide +kernel
theorem d_MO_feed_114 : decode prog_14_method_11_code 114 = .ok (.iconst 3, 1) := by decide +kernel
theorem d_MO_feed_115 : decode prog_14_method_11_code 115 = .ok (.if_icmp .ne 8, 3) := by decide +kernel
theorem d_MO_feed_118 : decode prog_14_method_11_code 118 = .ok (.iload 5, 2) := by decide +kernel
theorem d_MO_feed_120 : decode prog_14_method_11_code 120 = .ok (.goto 5, 3) := by decide +kernel
theorem d_MO_feed_123 : decode prog_14_method_11_code 123 = .ok (.iload 6, 2) := by decide +kernel
theorem d_MO_feed_125 : decode prog_14_method_11_code 125 = .ok (.iastore, 1) := by decide +kernel
theorem d_MO_feed_126 : decode prog_14_method_11_code 126 = .ok (.aload_n 0, 1) := by decide +kernel
theorem d_MO_feed_127 : decode prog_14_method_11_code 127 = .ok (.dup, 1) := by decide +kernel
theorem d_MO_feed_128 : decode prog_14_method_11_code 128 = .ok (.getfield 82, 3) := by decide +kernel
theorem d_MO_feed_131 : decode prog_14_method_11_code 131 = .ok (.iconst 1, 1) := by decide +kernel
theorem d_MO_feed_132 : decode prog_14_method_11_code 132 = .ok (.iadd, 1) := by decide +kernel
theorem d_MO_feed_133 : decode prog_14_method_11_code 133 = .ok (.putfield 82, 3) := by decide +kernel
theorem d_MO_feed_136 : decode prog_14_method_11_code 136 = .ok (.iinc 7 1, 3) := by decide +kernel
theorem d_MO_feed_139 : decode prog_14_method_11_code 139 = .ok (.goto (-71), 3) := by decide +kernel
theorem d_MO_feed_142 : decode prog_14_method_11_code 142 = .ok (.aload_n 0, 1) := by decide +kernel
theorem d_MO_feed_143 : decode prog_14_method_11_code 143 = .ok (.getfield 82, 3) := by decide +kernel
theorem d_MO_feed_146 : decode prog_14_method_11_code 146 = .ok (.ireturn, 1) := by decide +kernel
def p_MO_feed_125 (Q : Int32 → AH → Prop) (K68 : Int32 → Int32 → Int32 → Int32 → Int32 → Int32 → Int32 → AH → Prop) (x1 : Int32) (x2 : Int32) (x3 : Int32) (x4 : Int32) (x5 : Int32) (x6 : Int32) (x7 : Int32) (s1 : Int32) (s2 : Int32) (h : AH) : Prop := inb s1 160 ∧ K68 x1 x2 x3 x4 x5 x6 (x7 + 1) (wI (wI h 66 s1 s2) 59 8 ((h.1 59 8) + 1))
def p_MO_feed_68 (Q : Int32 → AH → Prop) : Nat → Int32 → Int32 → Int32 → Int32 → Int32 → Int32 → Int32 → AH → Prop
  | 0 => fun _ _ _ _ _ _ _ _ => False
  | n + 1 => fun x1 x2 x3 x4 x5 x6 x7 h => let K68 := p_MO_feed_68 Q n; ((x1 ≤ x7 → Q (h.1 59 8) h) ∧ (¬ x1 ≤ x7 → ((¬ x7 = 0 → ((¬ x7 = 1 → ((¬ x7 = 2 → ((¬ x7 = 3 → p_MO_feed_125 Q  K68 x1 x2 x3 x4 x5 x6 x7 (h.1 59 8) x6 h) ∧ (x7 = 3 → p_MO_feed_125 Q  K68 x1 x2 x3 x4 x5 x6 x7 (h.1 59 8) x5 h))) ∧ (x7 = 2 → p_MO_feed_125 Q  K68 x1 x2 x3 x4 x5 x6 x7 (h.1 59 8) x4 h))) ∧ (x7 = 1 → p_MO_feed_125 Q  K68 x1 x2 x3 x4 x5 x6 x7 (h.1 59 8) x3 h))) ∧ (x7 = 0 → p_MO_feed_125 Q  K68 x1 x2 x3 x4 x5 x6 x7 (h.1 59 8) x2 h))))
def p_MO_feed (Q : Int32 → AH → Prop) (x1 : Int32) (x2 : Int32) (x3 : Int32) (x4 : Int32) (x5 : Int32) (x6 : Int32) (h : AH) : Prop := p_MO_in (fun r2 h1 => ((r2 = 0 → Q (-2) h1) ∧ (¬ r2 = 0 → p_MO_isByte (fun r4 h3 => ((r4 = 0 → Q (-2) h3) ∧ (¬ r4 = 0 → p_MO_isByte (fun r6 h5 => ((r6 = 0 → Q (-2) h5) ∧ (¬ r6 = 0 → p_MO_isByte (fun r8 h7 => ((r8 = 0 → Q (-2) h7) ∧ (¬ r8 = 0 → p_MO_isByte (fun r10 h9 => ((r10 = 0 → Q (-2) h9) ∧ (¬ r10 = 0 → p_MO_isByte (fun r12 h11 => ((¬ r12 = 0 → ((((h11.1 59 8) + x1) ≤ 160 → ∃ n, p_MO_feed_68 Q   n x1 x2 x3 x4 x5 x6 0 h11) ∧ (¬ ((h11.1 59 8) + x1) ≤ 160 → Q (-4) h11))) ∧ (r12 = 0 → Q (-2) h11))) x6 h9))) x5 h7))) x4 h5))) x3 h3))) x2 h1))) x1 1 5 h
set_option maxRecDepth 20000 in
theorem r_MO_feed_125 {G : GG} {d : Nat} {Q : Int32 → AH → Prop} {K68 : Int32 → Int32 → Int32 → Int32 → Int32 → Int32 → Int32 → AH → Prop} (k68 : ∀ x1 x2 x3 x4 x5 x6 x7 h, K68 x1 x2 x3 x4 x5 x6 x7 h → Att G T1 m_MO_feed (d + 2) 68 [some (.ref 59), some (.int x1), some (.int x2), some (.int x3), some (.int x4), some (.int x5), some (.int x6), some (.int x7)] [] h 0 0 (iQ Q)) (x1 : Int32) (x2 : Int32) (x3 : Int32) (x4 : Int32) (x5 : Int32) (x6 : Int32) (x7 : Int32) (s1 : Int32) (s2 : Int32) (h : AH) (H : p_MO_feed_125 Q K68 x1 x2 x3 x4 x5 x6 x7 s1 s2 h) : Att G T1 m_MO_feed (d + 2) 125 [some (.ref 59), some (.int x1), some (.int x2), some (.int x3), some (.int x4), some (.int x5), some (.int x6), some (.int x7)] [.int s2, .int s1, .ref 66] h 0 0 (iQ Q) := by
  obtain ⟨c1, H⟩ := H
  refine A_iast (n := 160) d_MO_feed_125 (vA_s (by decide)) rfl c1 ?_
  refine A_aload_n d_MO_feed_126 rfl ?_
  refine A_dup rfl d_MO_feed_127 ?_
  refine A_get (v := .int (h.1 59 8)) d_MO_feed_128 (fo_MO_82_12 rfl) (vA_s (by decide)) rfl (by first | rfl | (show Value.int _ = Value.int _; simp [wI, wL, wR, wC, up])) ?_
  refine A_iconst 1 (by decide) d_MO_feed_131 ?_
  refine A_iadd d_MO_feed_132 ?_
  refine A_putI (k := 8) d_MO_feed_133 (fo_MO_82_12 rfl) (Or.inr ⟨rfl, _, ft_12_8⟩) (fun z => by cases z) rfl (vA_s (by decide)) rfl rfl rfl ?_
  refine A_iinc 1 [some (.ref 59), some (.int x1), some (.int x2), some (.int x3), some (.int x4), some (.int x5), some (.int x6), some (.int (x7 + 1))] d_MO_feed_136 rfl (by decide) (by decide) rfl rfl ?_
  refine A_goto 68 d_MO_feed_139 (by decide) ?_
  exact k68 _ _ _ _ _ _ _ _ H
set_option maxRecDepth 20000 in
theorem r_MO_feed_68 {G : GG} {d : Nat} {Q : Int32 → AH → Prop} : ∀ (n : Nat) (x1 : Int32) (x2 : Int32) (x3 : Int32) (x4 : Int32) (x5 : Int32) (x6 : Int32) (x7 : Int32) (h : AH), p_MO_feed_68 Q n x1 x2 x3 x4 x5 x6 x7 h → Att G T1 m_MO_feed (d + 2) 68 [some (.ref 59), some (.int x1), some (.int x2), some (.int x3), some (.int x4), some (.int x5), some (.int x6), some (.int x7)] [] h 0 0 (iQ Q) := by
  intro n
  induction n with
  | zero => intro x1 x2 x3 x4 x5 x6 x7 h H; exact H.elim
  | succ n k68 =>
    intro x1 x2 x3 x4 x5 x6 x7 h H
    refine A_iload d_MO_feed_68 rfl ?_
    refine A_iload_n d_MO_feed_70 rfl ?_
    refine A_icmp_ge 142 d_MO_feed_71 (by decide) (fun z => ?_) (fun z => ?_)
    · have H := H.1 z
      refine A_aload_n d_MO_feed_142 rfl ?_
      refine A_get (v := .int (h.1 59 8)) d_MO_feed_143 (fo_MO_82_12 rfl) (vA_s (by decide)) rfl (by first | rfl | (show Value.int _ = Value.int _; simp [wI, wL, wR, wC, up])) ?_
      exact A_iret d_MO_feed_146 rfl rfl H
    · have H := H.2 z
      refine A_aload_n d_MO_feed_74 rfl ?_
      refine A_get (v := .ref 66) d_MO_feed_75 (fo_MO_28_12 rfl) (vA_s (by decide)) rfl (by first | rfl | (show Value.int _ = Value.int _; simp [wI, wL, wR, wC, up])) ?_
      refine A_aload_n d_MO_feed_78 rfl ?_
      refine A_get (v := .int (h.1 59 8)) d_MO_feed_79 (fo_MO_82_12 rfl) (vA_s (by decide)) rfl (by first | rfl | (show Value.int _ = Value.int _; simp [wI, wL, wR, wC, up])) ?_
      refine A_iload d_MO_feed_82 rfl ?_
      refine A_if_ne 91 d_MO_feed_84 (by decide) (fun z => ?_) (fun z => ?_)
      · have H := H.1 z
        refine A_iload d_MO_feed_91 rfl ?_
        refine A_iconst 1 (by decide) d_MO_feed_93 ?_
        refine A_icmp_ne 101 d_MO_feed_94 (by decide) (fun z => ?_) (fun z => ?_)
        · have H := H.1 z
          refine A_iload d_MO_feed_101 rfl ?_
          refine A_iconst 2 (by decide) d_MO_feed_103 ?_
          refine A_icmp_ne 112 d_MO_feed_104 (by decide) (fun z => ?_) (fun z => ?_)
          · have H := H.1 z
            refine A_iload d_MO_feed_112 rfl ?_
            refine A_iconst 3 (by decide) d_MO_feed_114 ?_
            refine A_icmp_ne 123 d_MO_feed_115 (by decide) (fun z => ?_) (fun z => ?_)
            · have H := H.1 z
              refine A_iload d_MO_feed_123 rfl ?_
              exact r_MO_feed_125  k68 _ _ _ _ _ _ _ _ _ _ H
            · have H := H.2 z
              refine A_iload d_MO_feed_118 rfl ?_
              refine A_goto 125 d_MO_feed_120 (by decide) ?_
              exact r_MO_feed_125  k68 _ _ _ _ _ _ _ _ _ _ H
          · have H := H.2 z
            refine A_iload d_MO_feed_107 rfl ?_
            refine A_goto 125 d_MO_feed_109 (by decide) ?_
            exact r_MO_feed_125  k68 _ _ _ _ _ _ _ _ _ _ H
        · have H := H.2 z
          refine A_iload_n d_MO_feed_97 rfl ?_
          refine A_goto 125 d_MO_feed_98 (by decide) ?_
          exact r_MO_feed_125  k68 _ _ _ _ _ _ _ _ _ _ H
      · have H := H.2 z
        refine A_iload_n d_MO_feed_87 rfl ?_
        refine A_goto 125 d_MO_feed_88 (by decide) ?_
        exact r_MO_feed_125  k68 _ _ _ _ _ _ _ _ _ _ H
set_option maxRecDepth 20000 in
theorem r_MO_feed_0 {G : GG} {d : Nat} {Q : Int32 → AH → Prop} (x1 : Int32) (x2 : Int32) (x3 : Int32) (x4 : Int32) (x5 : Int32) (x6 : Int32) (h : AH) (H : p_MO_feed Q x1 x2 x3 x4 x5 x6 h) : Att G T1 m_MO_feed (d + 2) 0 [some (.ref 59), some (.int x1), some (.int x2), some (.int x3), some (.int x4), some (.int x5), some (.int x6), none] [] h 0 0 (iQ Q) := by
  refine A_iload_n d_MO_feed_0 rfl ?_
  refine A_iconst 1 (by decide) d_MO_feed_1 ?_
  refine A_iconst 5 (by decide) d_MO_feed_2 ?_
  refine A_cI [.int x1, .int 1, .int 5] [] (ct_MO_93 rfl) d_MO_feed_3 rfl rfl (by decide) (Nat.le_of_ble_eq_true rfl) trivial (ok_MO_in (d := d + 1) H) (fun r2 h1 H => ?_)
  refine A_if_eq 47 d_MO_feed_6 (by decide) (fun z => ?_) (fun z => ?_)
  · have H := H.1 z
    refine A_bipush (-2) (by decide) d_MO_feed_47 ?_
    exact A_iret d_MO_feed_49 rfl rfl H
  · have H := H.2 z
    refine A_iload_n d_MO_feed_9 rfl ?_
    refine A_cI [.int x2] [] (ct_MO_113 rfl) d_MO_feed_10 rfl rfl (by decide) (Nat.le_of_ble_eq_true rfl) trivial (ok_MO_isByte (d := d) H) (fun r4 h3 H => ?_)
    refine A_if_eq 47 d_MO_feed_13 (by decide) (fun z => ?_) (fun z => ?_)
    · have H := H.1 z
      refine A_bipush (-2) (by decide) d_MO_feed_47 ?_
      exact A_iret d_MO_feed_49 rfl rfl H
    · have H := H.2 z
      refine A_iload_n d_MO_feed_16 rfl ?_
      refine A_cI [.int x3] [] (ct_MO_113 rfl) d_MO_feed_17 rfl rfl (by decide) (Nat.le_of_ble_eq_true rfl) trivial (ok_MO_isByte (d := d) H) (fun r6 h5 H => ?_)
      refine A_if_eq 47 d_MO_feed_20 (by decide) (fun z => ?_) (fun z => ?_)
      · have H := H.1 z
        refine A_bipush (-2) (by decide) d_MO_feed_47 ?_
        exact A_iret d_MO_feed_49 rfl rfl H
      · have H := H.2 z
        refine A_iload d_MO_feed_23 rfl ?_
        refine A_cI [.int x4] [] (ct_MO_113 rfl) d_MO_feed_25 rfl rfl (by decide) (Nat.le_of_ble_eq_true rfl) trivial (ok_MO_isByte (d := d) H) (fun r8 h7 H => ?_)
        refine A_if_eq 47 d_MO_feed_28 (by decide) (fun z => ?_) (fun z => ?_)
        · have H := H.1 z
          refine A_bipush (-2) (by decide) d_MO_feed_47 ?_
          exact A_iret d_MO_feed_49 rfl rfl H
        · have H := H.2 z
          refine A_iload d_MO_feed_31 rfl ?_
          refine A_cI [.int x5] [] (ct_MO_113 rfl) d_MO_feed_33 rfl rfl (by decide) (Nat.le_of_ble_eq_true rfl) trivial (ok_MO_isByte (d := d) H) (fun r10 h9 H => ?_)
          refine A_if_eq 47 d_MO_feed_36 (by decide) (fun z => ?_) (fun z => ?_)
          · have H := H.1 z
            refine A_bipush (-2) (by decide) d_MO_feed_47 ?_
            exact A_iret d_MO_feed_49 rfl rfl H
          · have H := H.2 z
            refine A_iload d_MO_feed_39 rfl ?_
            refine A_cI [.int x6] [] (ct_MO_113 rfl) d_MO_feed_41 rfl rfl (by decide) (Nat.le_of_ble_eq_true rfl) trivial (ok_MO_isByte (d := d) H) (fun r12 h11 H => ?_)
            refine A_if_ne 50 d_MO_feed_44 (by decide) (fun z => ?_) (fun z => ?_)
            · have H := H.1 z
              refine A_aload_n d_MO_feed_50 rfl ?_
              refine A_get (v := .int (h11.1 59 8)) d_MO_feed_51 (fo_MO_82_12 rfl) (vA_s (by decide)) rfl (by first | rfl | (show Value.int _ = Value.int _; simp [wI, wL, wR, wC, up])) ?_
              refine A_iload_n d_MO_feed_54 rfl ?_
              refine A_iadd d_MO_feed_55 ?_
              refine A_sipush 160 (by decide) d_MO_feed_56 ?_
              refine A_icmp_le 65 d_MO_feed_59 (by decide) (fun z => ?_) (fun z => ?_)
              · have H := H.1 z
                refine A_iconst 0 (by decide) d_MO_feed_65 ?_
                refine A_istore [some (.ref 59), some (.int x1), some (.int x2), some (.int x3), some (.int x4), some (.int x5), some (.int x6), some (.int 0)] d_MO_feed_66 (by decide) rfl rfl ?_
                obtain ⟨n9, H⟩ := H
                exact r_MO_feed_68   n9 _ _ _ _ _ _ _ _ H
              · have H := H.2 z
                refine A_bipush (-4) (by decide) d_MO_feed_62 ?_
                exact A_iret d_MO_feed_64 rfl rfl H
            · have H := H.2 z
              refine A_bipush (-2) (by decide) d_MO_feed_47 ?_
              exact A_iret d_MO_feed_49 rfl rfl H
set_option maxRecDepth 20000 in
theorem ok_MO_feed {G : GG} {d : Nat} {Q : Int32 → AH → Prop} {x1 : Int32} {x2 : Int32} {x3 : Int32} {x4 : Int32} {x5 : Int32} {x6 : Int32} {h : AH} (H : p_MO_feed Q x1 x2 x3 x4 x5 x6 h) : WP G T1 m_MO_feed (d + 2) [.ref 59, .int x1, .int x2, .int x3, .int x4, .int x5, .int x6] h 0 0 (iQ Q) := by
  exact WP.enter 1 (by decide) rfl rfl (r_MO_feed_0 x1 x2 x3 x4 x5 x6 h H)
theorem d_MO_asksOf_0 : decode prog_14_method_26_code 0 = .ok (.aload_n 0, 1) := by decide +kernel
theorem d_MO_asksOf_1 : decode prog_14_method_26_code 1 = .ok (.getfield 61, 3) := by decide +kernel
theorem d_MO_asksOf_4 : decode prog_14_method_26_code 4 = .ok (.iconst 0, 1) := by decide +kernel
theorem d_MO_asksOf_5 : decode prog_14_method_26_code 5 = .ok (.aload_n 0, 1) := by decide +kernel
theorem d_MO_asksOf_6 : decode prog_14_method_26_code 6 = .ok (.getfield 13, 3) := by decide +kernel
theorem d_MO_asksOf_9 : decode prog_14_method_26_code 9 = .ok (.iload_n 2, 1) := by decide +kernel
theorem d_MO_asksOf_10 : decode prog_14_method_26_code 10 = .ok (.iaload, 1) := by decide +kernel
theorem d_MO_asksOf_11 : decode prog_14_method_26_code 11 = .ok (.iastore, 1) := by decide +kernel
theorem d_MO_asksOf_12 : decode prog_14_method_26_code 12 = .ok (.aload_n 0, 1) := by decide +kernel
theorem d_MO_asksOf_13 : decode prog_14_method_26_code 13 = .ok (.getfield 61, 3) := by decide +kernel
theorem d_MO_asksOf_16 : decode prog_14_method_26_code 16 = .ok (.iconst 1, 1) := by decide +kernel
theorem d_MO_asksOf_17 : decode prog_14_method_26_code 17 = .ok (.aload_n 0, 1) := by decide +kernel
theorem d_MO_asksOf_18 : decode prog_14_method_26_code 18 = .ok (.getfield 22, 3) := by decide +kernel
theorem d_MO_asksOf_21 : decode prog_14_method_26_code 21 = .ok (.iload_n 2, 1) := by decide +kernel
theorem d_MO_asksOf_22 : decode prog_14_method_26_code 22 = .ok (.iaload, 1) := by decide +kernel
theorem d_MO_asksOf_23 : decode prog_14_method_26_code 23 = .ok (.iastore, 1) := by decide +kernel
theorem d_MO_asksOf_24 : decode prog_14_method_26_code 24 = .ok (.aload_n 0, 1) := by decide +kernel
theorem d_MO_asksOf_25 : decode prog_14_method_26_code 25 = .ok (.getfield 61, 3) := by decide +kernel
theorem d_MO_asksOf_28 : decode prog_14_method_26_code 28 = .ok (.iconst 2, 1) := by decide +kernel
theorem d_MO_asksOf_29 : decode prog_14_method_26_code 29 = .ok (.aload_n 0, 1) := by decide +kernel
theorem d_MO_asksOf_30 : decode prog_14_method_26_code 30 = .ok (.getfield 16, 3) := by decide +kernel
theorem d_MO_asksOf_33 : decode prog_14_method_26_code 33 = .ok (.iload_n 2, 1) := by decide +kernel
theorem d_MO_asksOf_34 : decode prog_14_method_26_code 34 = .ok (.iaload, 1) := by decide +kernel
theorem d_MO_asksOf_35 : decode prog_14_method_26_code 35 = .ok (.iastore, 1) := by decide +kernel
theorem d_MO_asksOf_36 : decode prog_14_method_26_code 36 = .ok (.aload_n 0, 1) := by decide +kernel
theorem d_MO_asksOf_37 : decode prog_14_method_26_code 37 = .ok (.getfield 61, 3) := by decide +kernel
theorem d_MO_asksOf_40 : decode prog_14_method_26_code 40 = .ok (.iconst 3, 1) := by decide +kernel
theorem d_MO_asksOf_41 : decode prog_14_method_26_code 41 = .ok (.iload_n 3, 1) := by decide +kernel
theorem d_MO_asksOf_42 : decode prog_14_method_26_code 42 = .ok (.iastore, 1) := by decide +kernel
theorem d_MO_asksOf_43 : decode prog_14_method_26_code 43 = .ok (.aload_n 0, 1) := by decide +kernel
theorem d_MO_asksOf_44 : decode prog_14_method_26_code 44 = .ok (.getfield 61, 3) := by decide +kernel
theorem d_MO_asksOf_47 : decode prog_14_method_26_code 47 = .ok (.iconst 4, 1) := by decide +kernel
theorem d_MO_asksOf_48 : decode prog_14_method_26_code 48 = .ok (.iload 4, 2) := by decide +kernel
theorem d_MO_asksOf_50 : decode prog_14_method_26_code 50 = .ok (.iastore, 1) := by decide +kernel
theorem d_MO_asksOf_51 : decode prog_14_method_26_code 51 = .ok (.aload_n 0, 1) := by decide +kernel
theorem d_MO_asksOf_52 : decode prog_14_method_26_code 52 = .ok (.getfield 61, 3) := by decide +kernel
theorem d_MO_asksOf_55 : decode prog_14_method_26_code 55 = .ok (.iconst 5, 1) := by decide +kernel
theorem d_MO_asksOf_56 : decode prog_14_method_26_code 56 = .ok (.iload 5, 2) := by decide +kernel
theorem d_MO_asksOf_58 : decode prog_14_method_26_code 58 = .ok (.iastore, 1) := by decide +kernel
theorem d_MO_asksOf_59 : decode prog_14_method_26_code 59 = .ok (.aload_n 0, 1) := by decide +kernel
theorem d_MO_asksOf_60 : decode prog_14_method_26_code 60 = .ok (.iload_n 1, 1) := by decide +kernel
theorem d_MO_asksOf_61 : decode prog_14_method_26_code 61 = .ok (.invokevirtual 176, 3) := by decide +kernel
theorem d_MO_asksOf_64 : decode prog_14_method_26_code 64 = .ok (.iconst 0, 1) := by decide +kernel
theorem d_MO_asksOf_65 : decode prog_14_method_26_code 65 = .ok (.iload_n 1, 1) := by decide +kernel
theorem d_MO_asksOf_66 : decode prog_14_method_26_code 66 = .ok (.ifCond .ne 9, 3) := by decide +kernel
theorem d_MO_asksOf_69 : decode prog_14_method_26_code 69 = .ok (.sipush 999, 3) := by decide +kernel
theorem d_MO_asksOf_72 : decode prog_14_method_26_code 72 = .ok (.goto 5, 3) := by decide +kernel
theorem d_MO_asksOf_75 : decode prog_14_method_26_code 75 = .ok (.bipush 99, 2) := by decide +kernel
theorem d_MO_asksOf_77 : decode prog_14_method_26_code 77 = .ok (.invokestatic 179, 3) := by decide +kernel
theorem d_MO_asksOf_80 : decode prog_14_method_26_code 80 = .ok (.ireturn, 1) := by decide +kernel
def p_MO_asksOf_77 (Q : Int32 → AH → Prop) (s0 : Int32) (s1 : Int32) (s2 : Int32) (h : AH) : Prop := p_MO_within (fun r2 h1 => Q r2 h1) s0 s1 s2 h
def p_MO_asksOf (Q : Int32 → AH → Prop) (x1 : Int32) (x2 : Int32) (x3 : Int32) (x4 : Int32) (x5 : Int32) (h : AH) : Prop := inb x2 7 ∧ p_MO_says (fun r3 h2 => ((¬ x1 = 0 → p_MO_asksOf_77 Q   r3 0 99 h2) ∧ (x1 = 0 → p_MO_asksOf_77 Q   r3 0 999 h2))) x1 (wI (wI (wI (wI (wI (wI h 77 0 (h.1 61 x2)) 77 1 (h.1 64 x2)) 77 2 (h.1 62 x2)) 77 3 x3) 77 4 x4) 77 5 x5)
set_option maxRecDepth 20000 in
theorem r_MO_asksOf_77 {G : GG} {d : Nat} {Q : Int32 → AH → Prop} (s0 : Int32) (s1 : Int32) (s2 : Int32) (h : AH) (H : p_MO_asksOf_77 Q s0 s1 s2 h) : Att G T1 m_MO_asksOf (d + 2) 77 [none, none, none, none, none, none] [.int s2, .int s1, .int s0] h 0 0 (iQ Q) := by
  refine A_cI [.int s0, .int s1, .int s2] [] (ct_MO_179 rfl) d_MO_asksOf_77 rfl rfl (by decide) (Nat.le_of_ble_eq_true rfl) trivial (ok_MO_within (d := d + 1) H) (fun r2 h1 H => ?_)
  exact A_iret d_MO_asksOf_80 rfl rfl H
set_option maxRecDepth 20000 in
theorem r_MO_asksOf_0 {G : GG} {d : Nat} {Q : Int32 → AH → Prop} (x1 : Int32) (x2 : Int32) (x3 : Int32) (x4 : Int32) (x5 : Int32) (h : AH) (H : p_MO_asksOf Q x1 x2 x3 x4 x5 h) : Att G T1 m_MO_asksOf (d + 2) 0 [some (.ref 59), some (.int x1), some (.int x2), some (.int x3), some (.int x4), some (.int x5)] [] h 0 0 (iQ Q) := by
  refine A_aload_n d_MO_asksOf_0 rfl ?_
  refine A_get (v := .ref 77) d_MO_asksOf_1 (fo_MO_61_12 rfl) (vA_s (by decide)) rfl (by first | rfl | (show Value.int _ = Value.int _; simp [wI, wL, wR, wC, up])) ?_
  refine A_iconst 0 (by decide) d_MO_asksOf_4 ?_
  refine A_aload_n d_MO_asksOf_5 rfl ?_
  refine A_get (v := .ref 61) d_MO_asksOf_6 (fo_MO_13_12 rfl) (vA_s (by decide)) rfl (by first | rfl | (show Value.int _ = Value.int _; simp [wI, wL, wR, wC, up])) ?_
  refine A_iload_n d_MO_asksOf_9 rfl ?_
  obtain ⟨c1, H⟩ := H
  refine A_ialdv (n := 7) (v := (h.1 61 x2)) d_MO_asksOf_10 (vA_s (by decide)) rfl c1 rfl ?_
  refine A_iast (n := 6) d_MO_asksOf_11 (vA_s (by decide)) rfl (by decide) ?_
  refine A_aload_n d_MO_asksOf_12 rfl ?_
  refine A_get (v := .ref 77) d_MO_asksOf_13 (fo_MO_61_12 rfl) (vA_s (by decide)) rfl (by first | rfl | (show Value.int _ = Value.int _; simp [wI, wL, wR, wC, up])) ?_
  refine A_iconst 1 (by decide) d_MO_asksOf_16 ?_
  refine A_aload_n d_MO_asksOf_17 rfl ?_
  refine A_get (v := .ref 64) d_MO_asksOf_18 (fo_MO_22_12 rfl) (vA_s (by decide)) rfl (by first | rfl | (show Value.int _ = Value.int _; simp [wI, wL, wR, wC, up])) ?_
  refine A_iload_n d_MO_asksOf_21 rfl ?_
  refine A_ialdv (n := 7) (v := (h.1 64 x2)) d_MO_asksOf_22 (vA_s (by decide)) rfl c1 (by first | rfl | simp [wI, wL, wR, wC, up]) ?_
  refine A_iast (n := 6) d_MO_asksOf_23 (vA_s (by decide)) rfl (by decide) ?_
  refine A_aload_n d_MO_asksOf_24 rfl ?_
  refine A_get (v := .ref 77) d_MO_asksOf_25 (fo_MO_61_12 rfl) (vA_s (by decide)) rfl (by first | rfl | (show Value.int _ = Value.int _; simp [wI, wL, wR, wC, up])) ?_
  refine A_iconst 2 (by decide) d_MO_asksOf_28 ?_
  refine A_aload_n d_MO_asksOf_29 rfl ?_
  refine A_get (v := .ref 62) d_MO_asksOf_30 (fo_MO_16_12 rfl) (vA_s (by decide)) rfl (by first | rfl | (show Value.int _ = Value.int _; simp [wI, wL, wR, wC, up])) ?_
  refine A_iload_n d_MO_asksOf_33 rfl ?_
  refine A_ialdv (n := 7) (v := (h.1 62 x2)) d_MO_asksOf_34 (vA_s (by decide)) rfl c1 (by first | rfl | simp [wI, wL, wR, wC, up]) ?_
  refine A_iast (n := 6) d_MO_asksOf_35 (vA_s (by decide)) rfl (by decide) ?_
  refine A_aload_n d_MO_asksOf_36 rfl ?_
  refine A_get (v := .ref 77) d_MO_asksOf_37 (fo_MO_61_12 rfl) (vA_s (by decide)) rfl (by first | rfl | (show Value.int _ = Value.int _; simp [wI, wL, wR, wC, up])) ?_
  refine A_iconst 3 (by decide) d_MO_asksOf_40 ?_
  refine A_iload_n d_MO_asksOf_41 rfl ?_
  refine A_iast (n := 6) d_MO_asksOf_42 (vA_s (by decide)) rfl (by decide) ?_
  refine A_aload_n d_MO_asksOf_43 rfl ?_
  refine A_get (v := .ref 77) d_MO_asksOf_44 (fo_MO_61_12 rfl) (vA_s (by decide)) rfl (by first | rfl | (show Value.int _ = Value.int _; simp [wI, wL, wR, wC, up])) ?_
  refine A_iconst 4 (by decide) d_MO_asksOf_47 ?_
  refine A_iload d_MO_asksOf_48 rfl ?_
  refine A_iast (n := 6) d_MO_asksOf_50 (vA_s (by decide)) rfl (by decide) ?_
  refine A_aload_n d_MO_asksOf_51 rfl ?_
  refine A_get (v := .ref 77) d_MO_asksOf_52 (fo_MO_61_12 rfl) (vA_s (by decide)) rfl (by first | rfl | (show Value.int _ = Value.int _; simp [wI, wL, wR, wC, up])) ?_
  refine A_iconst 5 (by decide) d_MO_asksOf_55 ?_
  refine A_iload d_MO_asksOf_56 rfl ?_
  refine A_iast (n := 6) d_MO_asksOf_58 (vA_s (by decide)) rfl (by decide) ?_
  refine A_aload_n d_MO_asksOf_59 rfl ?_
  refine A_iload_n d_MO_asksOf_60 rfl ?_
  refine A_cI [.ref 59, .int x1] [] (ct_MO_176 rfl) d_MO_asksOf_61 rfl rfl (by decide) (Nat.le_of_ble_eq_true rfl) (rcA_o (c := 12) rfl (vA_s (by decide)) rfl (by decide) rfl) (ok_MO_says (d := d) H) (fun r3 h2 H => ?_)
  refine A_iconst 0 (by decide) d_MO_asksOf_64 ?_
  refine A_iload_n d_MO_asksOf_65 rfl ?_
  refine A_if_ne 75 d_MO_asksOf_66 (by decide) (fun z => ?_) (fun z => ?_)
  · have H := H.1 z
    refine A_bipush 99 (by decide) d_MO_asksOf_75 ?_
    refine A_sub (L' := [none, none, none, none, none, none]) trivial ?_
    exact r_MO_asksOf_77   _ _ _ _ H
  · have H := H.2 z
    refine A_sipush 999 (by decide) d_MO_asksOf_69 ?_
    refine A_goto 77 d_MO_asksOf_72 (by decide) ?_
    refine A_sub (L' := [none, none, none, none, none, none]) trivial ?_
    exact r_MO_asksOf_77   _ _ _ _ H
set_option maxRecDepth 20000 in
theorem ok_MO_asksOf {G : GG} {d : Nat} {Q : Int32 → AH → Prop} {x1 : Int32} {x2 : Int32} {x3 : Int32} {x4 : Int32} {x5 : Int32} {h : AH} (H : p_MO_asksOf Q x1 x2 x3 x4 x5 h) : WP G T1 m_MO_asksOf (d + 2) [.ref 59, .int x1, .int x2, .int x3, .int x4, .int x5] h 0 0 (iQ Q) := by
  exact WP.enter 0 (by decide) rfl rfl (r_MO_asksOf_0 x1 x2 x3 x4 x5 h H)
theorem d_MO_set_0 : decode prog_14_method_30_code 0 = .ok (.aload_n 0, 1) := by decide +kernel
theorem d_MO_set_1 : decode prog_14_method_30_code 1 = .ok (.iload_n 1, 1) := by decide +kernel
theorem d_MO_set_2 : decode prog_14_method_30_code 2 = .ok (.invokevirtual 182, 3) := by decide +kernel
theorem d_MO_set_5 : decode prog_14_method_30_code 5 = .ok (.ifCond .ne 6, 3) := by decide +kernel
theorem d_MO_set_8 : decode prog_14_method_30_code 8 = .ok (.bipush (-5), 2) := by decide +kernel
theorem d_MO_set_10 : decode prog_14_method_30_code 10 = .ok (.ireturn, 1) := by decide +kernel
theorem d_MO_set_11 : decode prog_14_method_30_code 11 = .ok (.iload_n 2, 1) := by decide +kernel
theorem d_MO_set_12 : decode prog_14_method_30_code 12 = .ok (.iconst 0, 1) := by decide +kernel
theorem d_MO_set_13 : decode prog_14_method_30_code 13 = .ok (.iconst 1, 1) := by decide +kernel
theorem d_MO_set_14 : decode prog_14_method_30_code 14 = .ok (.invokestatic 93, 3) := by decide +kernel
theorem d_MO_set_17 : decode prog_14_method_30_code 17 = .ok (.ifCond .eq 22, 3) := by decide +kernel
theorem d_MO_set_20 : decode prog_14_method_30_code 20 = .ok (.iload_n 3, 1) := by decide +kernel
theorem d_MO_set_21 : decode prog_14_method_30_code 21 = .ok (.iconst 0, 1) := by decide +kernel
theorem d_MO_set_22 : decode prog_14_method_30_code 22 = .ok (.iload_n 2, 1) := by decide +kernel
theorem d_MO_set_23 : decode prog_14_method_30_code 23 = .ok (.ifCond .ne 8, 3) := by decide +kernel
theorem d_MO_set_26 : decode prog_14_method_30_code 26 = .ok (.bipush 9, 2) := by decide +kernel
theorem d_MO_set_28 : decode prog_14_method_30_code 28 = .ok (.goto 5, 3) := by decide +kernel
theorem d_MO_set_31 : decode prog_14_method_30_code 31 = .ok (.bipush 20, 2) := by decide +kernel
theorem d_MO_set_33 : decode prog_14_method_30_code 33 = .ok (.invokestatic 93, 3) := by decide +kernel
theorem d_MO_set_36 : decode prog_14_method_30_code 36 = .ok (.ifCond .ne 6, 3) := by decide +kernel
theorem d_MO_set_39 : decode prog_14_method_30_code 39 = .ok (.bipush (-7), 2) := by decide +kernel
theorem d_MO_set_41 : decode prog_14_method_30_code 41 = .ok (.ireturn, 1) := by decide +kernel
theorem d_MO_set_42 : decode prog_14_method_30_code 42 = .ok (.iload_n 2, 1) := by decide +kernel
theorem d_MO_set_43 : decode prog_14_method_30_code 43 = .ok (.ifCond .ne 12, 3) := by decide +kernel
theorem d_MO_set_46 : decode prog_14_method_30_code 46 = .ok (.aload_n 0, 1) := by decide +kernel
theorem d_MO_set_47 : decode prog_14_method_30_code 47 = .ok (.getfield 19, 3) := by decide +kernel
theorem d_MO_set_50 : decode prog_14_method_30_code 50 = .ok (.iload_n 1, 1) := by decide +kernel
theorem d_MO_set_51 : decode prog_14_method_30_code 51 = .ok (.iaload, 1) := by decide +kernel
theorem d_MO_set_52 : decode prog_14_method_30_code 52 = .ok (.goto 9, 3) := by decide +kernel
theorem d_MO_set_55 : decode prog_14_method_30_code 55 = .ok (.aload_n 0, 1) := by decide +kernel
theorem d_MO_set_56 : decode prog_14_method_30_code 56 = .ok (.getfield 22, 3) := by decide +kernel
theorem d_MO_set_59 : decode prog_14_method_30_code 59 = .ok (.iload_n 1, 1) := by decide +kernel
theorem d_MO_set_60 : decode prog_14_method_30_code 60 = .ok (.iaload, 1) := by decide +kernel
theorem d_MO_set_61 : decode prog_14_method_30_code 61 = .ok (.istore 4, 2) := by decide +kernel
theorem d_MO_set_63 : decode prog_14_method_30_code 63 = .ok (.aload_n 0, 1) := by decide +kernel
theorem d_MO_set_64 : decode prog_14_method_30_code 64 = .ok (.getfield 19, 3) := by decide +kernel
theorem d_MO_set_67 : decode prog_14_method_30_code 67 = .ok (.iload_n 1, 1) := by decide +kernel
theorem d_MO_set_68 : decode prog_14_method_30_code 68 = .ok (.iload_n 2, 1) := by decide +kernel
theorem d_MO_set_69 : decode prog_14_method_30_code 69 = .ok (.ifCond .ne 7, 3) := by decide +kernel
theorem d_MO_set_72 : decode prog_14_method_30_code 72 = .ok (.iload_n 3, 1) := by decide +kernel
theorem d_MO_set_73 : decode prog_14_method_30_code 73 = .ok (.goto 9, 3) := by decide +kernel
theorem d_MO_set_76 : decode prog_14_method_30_code 76 = .ok (.aload_n 0, 1) := by decide +kernel
theorem d_MO_set_77 : decode prog_14_method_30_code 77 = .ok (.getfield 19, 3) := by decide +kernel
theorem d_MO_set_80 : decode prog_14_method_30_code 80 = .ok (.iload_n 1, 1) := by decide +kernel
theorem d_MO_set_81 : decode prog_14_method_30_code 81 = .ok (.iaload, 1) := by decide +kernel
theorem d_MO_set_82 : decode prog_14_method_30_code 82 = .ok (.iastore, 1) := by decide +kernel
theorem d_MO_set_83 : decode prog_14_method_30_code 83 = .ok (.aload_n 0, 1) := by decide +kernel
theorem d_MO_set_84 : decode prog_14_method_30_code 84 = .ok (.getfield 22, 3) := by decide +kernel
theorem d_MO_set_87 : decode prog_14_method_30_code 87 = .ok (.iload_n 1, 1) := by decide +kernel
theorem d_MO_set_88 : decode prog_14_method_30_code 88 = .ok (.iload_n 2, 1) := by decide +kernel
theorem d_MO_set_89 : decode prog_14_method_30_code 89 = .ok (.iconst 1, 1) := by decide +kernel
theorem d_MO_set_90 : decode prog_14_method_30_code 90 = .ok (.if_icmp .ne 7, 3) := by decide +kernel
theorem d_MO_set_93 : decode prog_14_method_30_code 93 = .ok (.iload_n 3, 1) := by decide +kernel
theorem d_MO_set_94 : decode prog_14_method_30_code 94 = .ok (.goto 9, 3) := by decide +kernel
theorem d_MO_set_97 : decode prog_14_method_30_code 97 = .ok (.aload_n 0, 1) := by decide +kernel
theorem d_MO_set_98 : decode prog_14_method_30_code 98 = .ok (.getfield 22, 3) := by decide +kernel
theorem d_MO_set_101 : decode prog_14_method_30_code 101 = .ok (.iload_n 1, 1) := by decide +kernel
theorem d_MO_set_102 : decode prog_14_method_30_code 102 = .ok (.iaload, 1) := by decide +kernel
theorem d_MO_set_103 : decode prog_14_method_30_code 103 = .ok (.iastore, 1) := by decide +kernel
theorem d_MO_set_104 : decode prog_14_method_30_code 104 = .ok (.iload 4, 2) := by decide +kernel
theorem d_MO_set_106 : decode prog_14_method_30_code 106 = .ok (.ireturn, 1) := by decide +kernel
def p_MO_set_82 (Q : Int32 → AH → Prop) (x1 : Int32) (x2 : Int32) (x3 : Int32) (x4 : Int32) (s1 : Int32) (s2 : Int32) (h : AH) : Prop := inb s1 7 ∧ ((¬ x2 = 1 → inb x1 7 ∧ Q x4 (wI (wI h 63 s1 s2) 64 x1 (h.1 64 x1))) ∧ (x2 = 1 → inb x1 7 ∧ Q x4 (wI (wI h 63 s1 s2) 64 x1 x3)))
def p_MO_set_61 (Q : Int32 → AH → Prop) (x1 : Int32) (x2 : Int32) (x3 : Int32) (s0 : Int32) (h : AH) : Prop := ((¬ x2 = 0 → inb x1 7 ∧ p_MO_set_82 Q   x1 x2 x3 s0 x1 (h.1 63 x1) h) ∧ (x2 = 0 → p_MO_set_82 Q   x1 x2 x3 s0 x1 x3 h))
def p_MO_set_33 (Q : Int32 → AH → Prop) (x1 : Int32) (x2 : Int32) (x3 : Int32) (s0 : Int32) (s1 : Int32) (s2 : Int32) (h : AH) : Prop := p_MO_in (fun r2 h1 => ((¬ r2 = 0 → ((¬ x2 = 0 → inb x1 7 ∧ p_MO_set_61 Q   x1 x2 x3 (h1.1 64 x1) h1) ∧ (x2 = 0 → inb x1 7 ∧ p_MO_set_61 Q   x1 x2 x3 (h1.1 63 x1) h1))) ∧ (r2 = 0 → Q (-7) h1))) s0 s1 s2 h
def p_MO_set (Q : Int32 → AH → Prop) (x1 : Int32) (x2 : Int32) (x3 : Int32) (h : AH) : Prop := p_MO_isHouse (fun r2 h1 => ((¬ r2 = 0 → p_MO_in (fun r4 h3 => ((r4 = 0 → Q (-7) h3) ∧ (¬ r4 = 0 → ((¬ x2 = 0 → p_MO_set_33 Q   x1 x2 x3 x3 0 20 h3) ∧ (x2 = 0 → p_MO_set_33 Q   x1 x2 x3 x3 0 9 h3))))) x2 0 1 h1) ∧ (r2 = 0 → Q (-5) h1))) x1 h
set_option maxRecDepth 20000 in
theorem r_MO_set_82 {G : GG} {d : Nat} {Q : Int32 → AH → Prop} (x1 : Int32) (x2 : Int32) (x3 : Int32) (x4 : Int32) (s1 : Int32) (s2 : Int32) (h : AH) (H : p_MO_set_82 Q x1 x2 x3 x4 s1 s2 h) : Att G T1 m_MO_set (d + 2) 82 [some (.ref 59), some (.int x1), some (.int x2), some (.int x3), some (.int x4)] [.int s2, .int s1, .ref 63] h 0 0 (iQ Q) := by
  obtain ⟨c1, H⟩ := H
  refine A_iast (n := 7) d_MO_set_82 (vA_s (by decide)) rfl c1 ?_
  refine A_aload_n d_MO_set_83 rfl ?_
  refine A_get (v := .ref 64) d_MO_set_84 (fo_MO_22_12 rfl) (vA_s (by decide)) rfl (by first | rfl | (show Value.int _ = Value.int _; simp [wI, wL, wR, wC, up])) ?_
  refine A_iload_n d_MO_set_87 rfl ?_
  refine A_iload_n d_MO_set_88 rfl ?_
  refine A_iconst 1 (by decide) d_MO_set_89 ?_
  refine A_icmp_ne 97 d_MO_set_90 (by decide) (fun z => ?_) (fun z => ?_)
  · have H := H.1 z
    refine A_aload_n d_MO_set_97 rfl ?_
    refine A_get (v := .ref 64) d_MO_set_98 (fo_MO_22_12 rfl) (vA_s (by decide)) rfl (by first | rfl | (show Value.int _ = Value.int _; simp [wI, wL, wR, wC, up])) ?_
    refine A_iload_n d_MO_set_101 rfl ?_
    obtain ⟨c2, H⟩ := H
    refine A_ialdv (n := 7) (v := (h.1 64 x1)) d_MO_set_102 (vA_s (by decide)) rfl c2 (by first | rfl | simp [wI, wL, wR, wC, up]) ?_
    refine A_iast (n := 7) d_MO_set_103 (vA_s (by decide)) rfl c2 ?_
    refine A_iload d_MO_set_104 rfl ?_
    exact A_iret d_MO_set_106 rfl rfl H
  · have H := H.2 z
    refine A_iload_n d_MO_set_93 rfl ?_
    refine A_goto 103 d_MO_set_94 (by decide) ?_
    obtain ⟨c3, H⟩ := H
    refine A_iast (n := 7) d_MO_set_103 (vA_s (by decide)) rfl c3 ?_
    refine A_iload d_MO_set_104 rfl ?_
    exact A_iret d_MO_set_106 rfl rfl H
set_option maxRecDepth 20000 in
theorem r_MO_set_61 {G : GG} {d : Nat} {Q : Int32 → AH → Prop} (x1 : Int32) (x2 : Int32) (x3 : Int32) (s0 : Int32) (h : AH) (H : p_MO_set_61 Q x1 x2 x3 s0 h) : Att G T1 m_MO_set (d + 2) 61 [some (.ref 59), some (.int x1), some (.int x2), some (.int x3), none] [.int s0] h 0 0 (iQ Q) := by
  refine A_istore [some (.ref 59), some (.int x1), some (.int x2), some (.int x3), some (.int s0)] d_MO_set_61 (by decide) rfl rfl ?_
  refine A_aload_n d_MO_set_63 rfl ?_
  refine A_get (v := .ref 63) d_MO_set_64 (fo_MO_19_12 rfl) (vA_s (by decide)) rfl (by first | rfl | (show Value.int _ = Value.int _; simp [wI, wL, wR, wC, up])) ?_
  refine A_iload_n d_MO_set_67 rfl ?_
  refine A_iload_n d_MO_set_68 rfl ?_
  refine A_if_ne 76 d_MO_set_69 (by decide) (fun z => ?_) (fun z => ?_)
  · have H := H.1 z
    refine A_aload_n d_MO_set_76 rfl ?_
    refine A_get (v := .ref 63) d_MO_set_77 (fo_MO_19_12 rfl) (vA_s (by decide)) rfl (by first | rfl | (show Value.int _ = Value.int _; simp [wI, wL, wR, wC, up])) ?_
    refine A_iload_n d_MO_set_80 rfl ?_
    obtain ⟨c1, H⟩ := H
    refine A_ialdv (n := 7) (v := (h.1 63 x1)) d_MO_set_81 (vA_s (by decide)) rfl c1 rfl ?_
    exact r_MO_set_82   _ _ _ _ _ _ _ H
  · have H := H.2 z
    refine A_iload_n d_MO_set_72 rfl ?_
    refine A_goto 82 d_MO_set_73 (by decide) ?_
    exact r_MO_set_82   _ _ _ _ _ _ _ H
set_option maxRecDepth 20000 in
theorem r_MO_set_33 {G : GG} {d : Nat} {Q : Int32 → AH → Prop} (x1 : Int32) (x2 : Int32) (x3 : Int32) (s0 : Int32) (s1 : Int32) (s2 : Int32) (h : AH) (H : p_MO_set_33 Q x1 x2 x3 s0 s1 s2 h) : Att G T1 m_MO_set (d + 2) 33 [some (.ref 59), some (.int x1), some (.int x2), some (.int x3), none] [.int s2, .int s1, .int s0] h 0 0 (iQ Q) := by
  refine A_cI [.int s0, .int s1, .int s2] [] (ct_MO_93 rfl) d_MO_set_33 rfl rfl (by decide) (Nat.le_of_ble_eq_true rfl) trivial (ok_MO_in (d := d + 1) H) (fun r2 h1 H => ?_)
  refine A_if_ne 42 d_MO_set_36 (by decide) (fun z => ?_) (fun z => ?_)
  · have H := H.1 z
    refine A_iload_n d_MO_set_42 rfl ?_
    refine A_if_ne 55 d_MO_set_43 (by decide) (fun z => ?_) (fun z => ?_)
    · have H := H.1 z
      refine A_aload_n d_MO_set_55 rfl ?_
      refine A_get (v := .ref 64) d_MO_set_56 (fo_MO_22_12 rfl) (vA_s (by decide)) rfl (by first | rfl | (show Value.int _ = Value.int _; simp [wI, wL, wR, wC, up])) ?_
      refine A_iload_n d_MO_set_59 rfl ?_
      obtain ⟨c3, H⟩ := H
      refine A_ialdv (n := 7) (v := (h1.1 64 x1)) d_MO_set_60 (vA_s (by decide)) rfl c3 rfl ?_
      exact r_MO_set_61   _ _ _ _ _ H
    · have H := H.2 z
      refine A_aload_n d_MO_set_46 rfl ?_
      refine A_get (v := .ref 63) d_MO_set_47 (fo_MO_19_12 rfl) (vA_s (by decide)) rfl (by first | rfl | (show Value.int _ = Value.int _; simp [wI, wL, wR, wC, up])) ?_
      refine A_iload_n d_MO_set_50 rfl ?_
      obtain ⟨c4, H⟩ := H
      refine A_ialdv (n := 7) (v := (h1.1 63 x1)) d_MO_set_51 (vA_s (by decide)) rfl c4 rfl ?_
      refine A_goto 61 d_MO_set_52 (by decide) ?_
      exact r_MO_set_61   _ _ _ _ _ H
  · have H := H.2 z
    refine A_bipush (-7) (by decide) d_MO_set_39 ?_
    exact A_iret d_MO_set_41 rfl rfl H
set_option maxRecDepth 20000 in
theorem r_MO_set_0 {G : GG} {d : Nat} {Q : Int32 → AH → Prop} (x1 : Int32) (x2 : Int32) (x3 : Int32) (h : AH) (H : p_MO_set Q x1 x2 x3 h) : Att G T1 m_MO_set (d + 2) 0 [some (.ref 59), some (.int x1), some (.int x2), some (.int x3), none] [] h 0 0 (iQ Q) := by
  refine A_aload_n d_MO_set_0 rfl ?_
  refine A_iload_n d_MO_set_1 rfl ?_
  refine A_cI [.ref 59, .int x1] [] (ct_MO_182 rfl) d_MO_set_2 rfl rfl (by decide) (Nat.le_of_ble_eq_true rfl) (rcA_o (c := 12) rfl (vA_s (by decide)) rfl (by decide) rfl) (ok_MO_isHouse (d := d) H) (fun r2 h1 H => ?_)
  refine A_if_ne 11 d_MO_set_5 (by decide) (fun z => ?_) (fun z => ?_)
  · have H := H.1 z
    refine A_iload_n d_MO_set_11 rfl ?_
    refine A_iconst 0 (by decide) d_MO_set_12 ?_
    refine A_iconst 1 (by decide) d_MO_set_13 ?_
    refine A_cI [.int x2, .int 0, .int 1] [] (ct_MO_93 rfl) d_MO_set_14 rfl rfl (by decide) (Nat.le_of_ble_eq_true rfl) trivial (ok_MO_in (d := d + 1) H) (fun r4 h3 H => ?_)
    refine A_if_eq 39 d_MO_set_17 (by decide) (fun z => ?_) (fun z => ?_)
    · have H := H.1 z
      refine A_bipush (-7) (by decide) d_MO_set_39 ?_
      exact A_iret d_MO_set_41 rfl rfl H
    · have H := H.2 z
      refine A_iload_n d_MO_set_20 rfl ?_
      refine A_iconst 0 (by decide) d_MO_set_21 ?_
      refine A_iload_n d_MO_set_22 rfl ?_
      refine A_if_ne 31 d_MO_set_23 (by decide) (fun z => ?_) (fun z => ?_)
      · have H := H.1 z
        refine A_bipush 20 (by decide) d_MO_set_31 ?_
        exact r_MO_set_33   _ _ _ _ _ _ _ H
      · have H := H.2 z
        refine A_bipush 9 (by decide) d_MO_set_26 ?_
        refine A_goto 33 d_MO_set_28 (by decide) ?_
        exact r_MO_set_33   _ _ _ _ _ _ _ H
  · have H := H.2 z
    refine A_bipush (-5) (by decide) d_MO_set_8 ?_
    exact A_iret d_MO_set_10 rfl rfl H
set_option maxRecDepth 20000 in
theorem ok_MO_set {G : GG} {d : Nat} {Q : Int32 → AH → Prop} {x1 : Int32} {x2 : Int32} {x3 : Int32} {h : AH} (H : p_MO_set Q x1 x2 x3 h) : WP G T1 m_MO_set (d + 2) [.ref 59, .int x1, .int x2, .int x3] h 0 0 (iQ Q) := by
  exact WP.enter 1 (by decide) rfl rfl (r_MO_set_0 x1 x2 x3 h H)
theorem d_MO_chain_0 : decode prog_14_method_33_code 0 = .ok (.aload_n 0, 1) := by decide +kernel
theorem d_MO_chain_1 : decode prog_14_method_33_code 1 = .ok (.iload_n 1, 1) := by decide +kernel
theorem d_MO_chain_2 : decode prog_14_method_33_code 2 = .ok (.invokevirtual 182, 3) := by decide +kernel
theorem d_MO_chain_5 : decode prog_14_method_33_code 5 = .ok (.ifCond .eq 11, 3) := by decide +kernel
theorem d_MO_chain_8 : decode prog_14_method_33_code 8 = .ok (.aload_n 0, 1) := by decide +kernel
theorem d_MO_chain_9 : decode prog_14_method_33_code 9 = .ok (.iload_n 2, 1) := by decide +kernel
theorem d_MO_chain_10 : decode prog_14_method_33_code 10 = .ok (.invokevirtual 182, 3) := by decide +kernel
theorem d_MO_chain_13 : decode prog_14_method_33_code 13 = .ok (.ifCond .ne 6, 3) := by decide +kernel
theorem d_MO_chain_16 : decode prog_14_method_33_code 16 = .ok (.bipush (-5), 2) := by decide +kernel
theorem d_MO_chain_18 : decode prog_14_method_33_code 18 = .ok (.ireturn, 1) := by decide +kernel
theorem d_MO_chain_19 : decode prog_14_method_33_code 19 = .ok (.aload_n 0, 1) := by decide +kernel
theorem d_MO_chain_20 : decode prog_14_method_33_code 20 = .ok (.getfield 25, 3) := by decide +kernel
theorem d_MO_chain_23 : decode prog_14_method_33_code 23 = .ok (.iload_n 1, 1) := by decide +kernel
theorem d_MO_chain_24 : decode prog_14_method_33_code 24 = .ok (.iaload, 1) := by decide +kernel
theorem d_MO_chain_25 : decode prog_14_method_33_code 25 = .ok (.istore_n 3, 1) := by decide +kernel
theorem d_MO_chain_26 : decode prog_14_method_33_code 26 = .ok (.aload_n 0, 1) := by decide +kernel
theorem d_MO_chain_27 : decode prog_14_method_33_code 27 = .ok (.iload_n 1, 1) := by decide +kernel
theorem d_MO_chain_28 : decode prog_14_method_33_code 28 = .ok (.iload_n 2, 1) := by decide +kernel
theorem d_MO_chain_29 : decode prog_14_method_33_code 29 = .ok (.invokevirtual 195, 3) := by decide +kernel
theorem d_MO_chain_32 : decode prog_14_method_33_code 32 = .ok (.iload_n 3, 1) := by decide +kernel
theorem d_MO_chain_33 : decode prog_14_method_33_code 33 = .ok (.ireturn, 1) := by decide +kernel
def p_MO_chain (Q : Int32 → AH → Prop) (x1 : Int32) (x2 : Int32) (h : AH) : Prop := p_MO_isHouse (fun r2 h1 => ((r2 = 0 → Q (-5) h1) ∧ (¬ r2 = 0 → p_MO_isHouse (fun r4 h3 => ((¬ r4 = 0 → inb x1 7 ∧ p_MO_links (fun h6 => Q (h3.1 65 x1) h6) x1 x2 h3) ∧ (r4 = 0 → Q (-5) h3))) x2 h1))) x1 h
set_option maxRecDepth 20000 in
theorem r_MO_chain_0 {G : GG} {d : Nat} {Q : Int32 → AH → Prop} (x1 : Int32) (x2 : Int32) (h : AH) (H : p_MO_chain Q x1 x2 h) : Att G T1 m_MO_chain (d + 2) 0 [some (.ref 59), some (.int x1), some (.int x2), none] [] h 0 0 (iQ Q) := by
  refine A_aload_n d_MO_chain_0 rfl ?_
  refine A_iload_n d_MO_chain_1 rfl ?_
  refine A_cI [.ref 59, .int x1] [] (ct_MO_182 rfl) d_MO_chain_2 rfl rfl (by decide) (Nat.le_of_ble_eq_true rfl) (rcA_o (c := 12) rfl (vA_s (by decide)) rfl (by decide) rfl) (ok_MO_isHouse (d := d) H) (fun r2 h1 H => ?_)
  refine A_if_eq 16 d_MO_chain_5 (by decide) (fun z => ?_) (fun z => ?_)
  · have H := H.1 z
    refine A_bipush (-5) (by decide) d_MO_chain_16 ?_
    exact A_iret d_MO_chain_18 rfl rfl H
  · have H := H.2 z
    refine A_aload_n d_MO_chain_8 rfl ?_
    refine A_iload_n d_MO_chain_9 rfl ?_
    refine A_cI [.ref 59, .int x2] [] (ct_MO_182 rfl) d_MO_chain_10 rfl rfl (by decide) (Nat.le_of_ble_eq_true rfl) (rcA_o (c := 12) rfl (vA_s (by decide)) rfl (by decide) rfl) (ok_MO_isHouse (d := d) H) (fun r4 h3 H => ?_)
    refine A_if_ne 19 d_MO_chain_13 (by decide) (fun z => ?_) (fun z => ?_)
    · have H := H.1 z
      refine A_aload_n d_MO_chain_19 rfl ?_
      refine A_get (v := .ref 65) d_MO_chain_20 (fo_MO_25_12 rfl) (vA_s (by decide)) rfl (by first | rfl | (show Value.int _ = Value.int _; simp [wI, wL, wR, wC, up])) ?_
      refine A_iload_n d_MO_chain_23 rfl ?_
      obtain ⟨c5, H⟩ := H
      refine A_ialdv (n := 7) (v := (h3.1 65 x1)) d_MO_chain_24 (vA_s (by decide)) rfl c5 rfl ?_
      refine A_istore_n [some (.ref 59), some (.int x1), some (.int x2), some (.int (h3.1 65 x1))] d_MO_chain_25 (by decide) rfl rfl ?_
      refine A_aload_n d_MO_chain_26 rfl ?_
      refine A_iload_n d_MO_chain_27 rfl ?_
      refine A_iload_n d_MO_chain_28 rfl ?_
      refine A_cV [.ref 59, .int x1, .int x2] [] (ct_MO_195 rfl) d_MO_chain_29 rfl rfl (by decide) (Nat.le_of_ble_eq_true rfl) (rcA_o (c := 12) rfl (vA_s (by decide)) rfl (by decide) rfl) (ok_MO_links (d := d) H) (fun h6 H => ?_)
      refine A_iload_n d_MO_chain_32 rfl ?_
      exact A_iret d_MO_chain_33 rfl rfl H
    · have H := H.2 z
      refine A_bipush (-5) (by decide) d_MO_chain_16 ?_
      exact A_iret d_MO_chain_18 rfl rfl H
set_option maxRecDepth 20000 in
theorem ok_MO_chain {G : GG} {d : Nat} {Q : Int32 → AH → Prop} {x1 : Int32} {x2 : Int32} {h : AH} (H : p_MO_chain Q x1 x2 h) : WP G T1 m_MO_chain (d + 2) [.ref 59, .int x1, .int x2] h 0 0 (iQ Q) := by
  exact WP.enter 1 (by decide) rfl rfl (r_MO_chain_0 x1 x2 h H)
theorem d_MO_told_0 : decode prog_14_method_34_code 0 = .ok (.aload_n 0, 1) := by decide +kernel
theorem d_MO_told_1 : decode prog_14_method_34_code 1 = .ok (.iload_n 1, 1) := by decide +kernel
theorem d_MO_told_2 : decode prog_14_method_34_code 2 = .ok (.invokevirtual 182, 3) := by decide +kernel
theorem d_MO_told_5 : decode prog_14_method_34_code 5 = .ok (.ifCond .ne 6, 3) := by decide +kernel
theorem d_MO_told_8 : decode prog_14_method_34_code 8 = .ok (.bipush (-5), 2) := by decide +kernel
theorem d_MO_told_10 : decode prog_14_method_34_code 10 = .ok (.ireturn, 1) := by decide +kernel
theorem d_MO_told_11 : decode prog_14_method_34_code 11 = .ok (.iload_n 2, 1) := by decide +kernel
theorem d_MO_told_12 : decode prog_14_method_34_code 12 = .ok (.tableswitch 82 0 5 #[40, 47, 54, 61, 68, 75], 40) := by decide +kernel
theorem d_MO_told_52 : decode prog_14_method_34_code 52 = .ok (.aload_n 0, 1) := by decide +kernel
theorem d_MO_told_53 : decode prog_14_method_34_code 53 = .ok (.getfield 19, 3) := by decide +kernel
theorem d_MO_told_56 : decode prog_14_method_34_code 56 = .ok (.iload_n 1, 1) := by decide +kernel
theorem d_MO_told_57 : decode prog_14_method_34_code 57 = .ok (.iaload, 1) := by decide +kernel
theorem d_MO_told_58 : decode prog_14_method_34_code 58 = .ok (.ireturn, 1) := by decide +kernel
theorem d_MO_told_59 : decode prog_14_method_34_code 59 = .ok (.aload_n 0, 1) := by decide +kernel
theorem d_MO_told_60 : decode prog_14_method_34_code 60 = .ok (.getfield 22, 3) := by decide +kernel
theorem d_MO_told_63 : decode prog_14_method_34_code 63 = .ok (.iload_n 1, 1) := by decide +kernel
theorem d_MO_told_64 : decode prog_14_method_34_code 64 = .ok (.iaload, 1) := by decide +kernel
theorem d_MO_told_65 : decode prog_14_method_34_code 65 = .ok (.ireturn, 1) := by decide +kernel
theorem d_MO_told_66 : decode prog_14_method_34_code 66 = .ok (.aload_n 0, 1) := by decide +kernel
theorem d_MO_told_67 : decode prog_14_method_34_code 67 = .ok (.getfield 25, 3) := by decide +kernel
theorem d_MO_told_70 : decode prog_14_method_34_code 70 = .ok (.iload_n 1, 1) := by decide +kernel
theorem d_MO_told_71 : decode prog_14_method_34_code 71 = .ok (.iaload, 1) := by decide +kernel
theorem d_MO_told_72 : decode prog_14_method_34_code 72 = .ok (.ireturn, 1) := by decide +kernel
theorem d_MO_told_73 : decode prog_14_method_34_code 73 = .ok (.aload_n 0, 1) := by decide +kernel
theorem d_MO_told_74 : decode prog_14_method_34_code 74 = .ok (.getfield 7, 3) := by decide +kernel
theorem d_MO_told_77 : decode prog_14_method_34_code 77 = .ok (.iload_n 1, 1) := by decide +kernel
theorem d_MO_told_78 : decode prog_14_method_34_code 78 = .ok (.iaload, 1) := by decide +kernel
theorem d_MO_told_79 : decode prog_14_method_34_code 79 = .ok (.ireturn, 1) := by decide +kernel
theorem d_MO_told_80 : decode prog_14_method_34_code 80 = .ok (.aload_n 0, 1) := by decide +kernel
theorem d_MO_told_81 : decode prog_14_method_34_code 81 = .ok (.getfield 13, 3) := by decide +kernel
theorem d_MO_told_84 : decode prog_14_method_34_code 84 = .ok (.iload_n 1, 1) := by decide +kernel
theorem d_MO_told_85 : decode prog_14_method_34_code 85 = .ok (.iaload, 1) := by decide +kernel
theorem d_MO_told_86 : decode prog_14_method_34_code 86 = .ok (.ireturn, 1) := by decide +kernel
theorem d_MO_told_87 : decode prog_14_method_34_code 87 = .ok (.aload_n 0, 1) := by decide +kernel
theorem d_MO_told_88 : decode prog_14_method_34_code 88 = .ok (.getfield 16, 3) := by decide +kernel
theorem d_MO_told_91 : decode prog_14_method_34_code 91 = .ok (.iload_n 1, 1) := by decide +kernel
theorem d_MO_told_92 : decode prog_14_method_34_code 92 = .ok (.iaload, 1) := by decide +kernel
theorem d_MO_told_93 : decode prog_14_method_34_code 93 = .ok (.ireturn, 1) := by decide +kernel
theorem d_MO_told_94 : decode prog_14_method_34_code 94 = .ok (.bipush (-7), 2) := by decide +kernel
theorem d_MO_told_96 : decode prog_14_method_34_code 96 = .ok (.ireturn, 1) := by decide +kernel
def p_MO_told (Q : Int32 → AH → Prop) (x1 : Int32) (x2 : Int32) (h : AH) : Prop := p_MO_isHouse (fun r2 h1 => ((¬ r2 = 0 → ((x2 = 0 → inb x1 7 ∧ Q (h1.1 63 x1) h1) ∧ (x2 = 1 → inb x1 7 ∧ Q (h1.1 64 x1) h1) ∧ (x2 = 2 → inb x1 7 ∧ Q (h1.1 65 x1) h1) ∧ (x2 = 3 → inb x1 7 ∧ Q (h1.1 60 x1) h1) ∧ (x2 = 4 → inb x1 7 ∧ Q (h1.1 61 x1) h1) ∧ (x2 = 5 → inb x1 7 ∧ Q (h1.1 62 x1) h1) ∧ (¬ x2 = 0 → ¬ x2 = 1 → ¬ x2 = 2 → ¬ x2 = 3 → ¬ x2 = 4 → ¬ x2 = 5 → Q (-7) h1))) ∧ (r2 = 0 → Q (-5) h1))) x1 h
set_option maxRecDepth 20000 in
theorem r_MO_told_0 {G : GG} {d : Nat} {Q : Int32 → AH → Prop} (x1 : Int32) (x2 : Int32) (h : AH) (H : p_MO_told Q x1 x2 h) : Att G T1 m_MO_told (d + 2) 0 [some (.ref 59), some (.int x1), some (.int x2)] [] h 0 0 (iQ Q) := by
  refine A_aload_n d_MO_told_0 rfl ?_
  refine A_iload_n d_MO_told_1 rfl ?_
  refine A_cI [.ref 59, .int x1] [] (ct_MO_182 rfl) d_MO_told_2 rfl rfl (by decide) (Nat.le_of_ble_eq_true rfl) (rcA_o (c := 12) rfl (vA_s (by decide)) rfl (by decide) rfl) (ok_MO_isHouse (d := d) H) (fun r2 h1 H => ?_)
  refine A_if_ne 11 d_MO_told_5 (by decide) (fun z => ?_) (fun z => ?_)
  · have H := H.1 z
    refine A_iload_n d_MO_told_11 rfl ?_
    by_cases z0 : x2 = 0
    · have H := H.1 z0
      refine A_tsI 52 d_MO_told_12 (by rw [z0]; decide) (by rw [z0]; decide) (by rw [z0]; rfl) (by decide) ?_
      refine A_aload_n d_MO_told_52 rfl ?_
      refine A_get (v := .ref 63) d_MO_told_53 (fo_MO_19_12 rfl) (vA_s (by decide)) rfl (by first | rfl | (show Value.int _ = Value.int _; simp [wI, wL, wR, wC, up])) ?_
      refine A_iload_n d_MO_told_56 rfl ?_
      obtain ⟨c3, H⟩ := H
      refine A_ialdv (n := 7) (v := (h1.1 63 x1)) d_MO_told_57 (vA_s (by decide)) rfl c3 rfl ?_
      exact A_iret d_MO_told_58 rfl rfl H
    · have H := H.2
      by_cases z1 : x2 = 1
      · have H := H.1 z1
        refine A_tsI 59 d_MO_told_12 (by rw [z1]; decide) (by rw [z1]; decide) (by rw [z1]; rfl) (by decide) ?_
        refine A_aload_n d_MO_told_59 rfl ?_
        refine A_get (v := .ref 64) d_MO_told_60 (fo_MO_22_12 rfl) (vA_s (by decide)) rfl (by first | rfl | (show Value.int _ = Value.int _; simp [wI, wL, wR, wC, up])) ?_
        refine A_iload_n d_MO_told_63 rfl ?_
        obtain ⟨c4, H⟩ := H
        refine A_ialdv (n := 7) (v := (h1.1 64 x1)) d_MO_told_64 (vA_s (by decide)) rfl c4 rfl ?_
        exact A_iret d_MO_told_65 rfl rfl H
      · have H := H.2
        by_cases z2 : x2 = 2
        · have H := H.1 z2
          refine A_tsI 66 d_MO_told_12 (by rw [z2]; decide) (by rw [z2]; decide) (by rw [z2]; rfl) (by decide) ?_
          refine A_aload_n d_MO_told_66 rfl ?_
          refine A_get (v := .ref 65) d_MO_told_67 (fo_MO_25_12 rfl) (vA_s (by decide)) rfl (by first | rfl | (show Value.int _ = Value.int _; simp [wI, wL, wR, wC, up])) ?_
          refine A_iload_n d_MO_told_70 rfl ?_
          obtain ⟨c5, H⟩ := H
          refine A_ialdv (n := 7) (v := (h1.1 65 x1)) d_MO_told_71 (vA_s (by decide)) rfl c5 rfl ?_
          exact A_iret d_MO_told_72 rfl rfl H
        · have H := H.2
          by_cases z3 : x2 = 3
          · have H := H.1 z3
            refine A_tsI 73 d_MO_told_12 (by rw [z3]; decide) (by rw [z3]; decide) (by rw [z3]; rfl) (by decide) ?_
            refine A_aload_n d_MO_told_73 rfl ?_
            refine A_get (v := .ref 60) d_MO_told_74 (fo_MO_7_12 rfl) (vA_s (by decide)) rfl (by first | rfl | (show Value.int _ = Value.int _; simp [wI, wL, wR, wC, up])) ?_
            refine A_iload_n d_MO_told_77 rfl ?_
            obtain ⟨c6, H⟩ := H
            refine A_ialdv (n := 7) (v := (h1.1 60 x1)) d_MO_told_78 (vA_s (by decide)) rfl c6 rfl ?_
            exact A_iret d_MO_told_79 rfl rfl H
          · have H := H.2
            by_cases z4 : x2 = 4
            · have H := H.1 z4
              refine A_tsI 80 d_MO_told_12 (by rw [z4]; decide) (by rw [z4]; decide) (by rw [z4]; rfl) (by decide) ?_
              refine A_aload_n d_MO_told_80 rfl ?_
              refine A_get (v := .ref 61) d_MO_told_81 (fo_MO_13_12 rfl) (vA_s (by decide)) rfl (by first | rfl | (show Value.int _ = Value.int _; simp [wI, wL, wR, wC, up])) ?_
              refine A_iload_n d_MO_told_84 rfl ?_
              obtain ⟨c7, H⟩ := H
              refine A_ialdv (n := 7) (v := (h1.1 61 x1)) d_MO_told_85 (vA_s (by decide)) rfl c7 rfl ?_
              exact A_iret d_MO_told_86 rfl rfl H
            · have H := H.2
              by_cases z5 : x2 = 5
              · have H := H.1 z5
                refine A_tsI 87 d_MO_told_12 (by rw [z5]; decide) (by rw [z5]; decide) (by rw [z5]; rfl) (by decide) ?_
                refine A_aload_n d_MO_told_87 rfl ?_
                refine A_get (v := .ref 62) d_MO_told_88 (fo_MO_16_12 rfl) (vA_s (by decide)) rfl (by first | rfl | (show Value.int _ = Value.int _; simp [wI, wL, wR, wC, up])) ?_
                refine A_iload_n d_MO_told_91 rfl ?_
                obtain ⟨c8, H⟩ := H
                refine A_ialdv (n := 7) (v := (h1.1 62 x1)) d_MO_told_92 (vA_s (by decide)) rfl c8 rfl ?_
                exact A_iret d_MO_told_93 rfl rfl H
              · have H := H.2
                have H := H z0 z1 z2 z3 z4 z5
                refine A_tsO 94 d_MO_told_12 (by have t0 := lv_neT z0 (a := 0) (by decide); have t1 := lv_neT z1 (a := 1) (by decide); have t2 := lv_neT z2 (a := 2) (by decide); have t3 := lv_neT z3 (a := 3) (by decide); have t4 := lv_neT z4 (a := 4) (by decide); have t5 := lv_neT z5 (a := 5) (by decide); omega) (by decide) ?_
                refine A_bipush (-7) (by decide) d_MO_told_94 ?_
                exact A_iret d_MO_told_96 rfl rfl H
  · have H := H.2 z
    refine A_bipush (-5) (by decide) d_MO_told_8 ?_
    exact A_iret d_MO_told_10 rfl rfl H
set_option maxRecDepth 20000 in
theorem ok_MO_told {G : GG} {d : Nat} {Q : Int32 → AH → Prop} {x1 : Int32} {x2 : Int32} {h : AH} (H : p_MO_told Q x1 x2 h) : WP G T1 m_MO_told (d + 2) [.ref 59, .int x1, .int x2] h 0 0 (iQ Q) := by
  exact WP.enter 0 (by decide) rfl rfl (r_MO_told_0 x1 x2 h H)
theorem d_MO_toldWrong_0 : decode prog_14_method_64_code 0 = .ok (.aload_n 0, 1) := by decide +kernel
theorem d_MO_toldWrong_1 : decode prog_14_method_64_code 1 = .ok (.iload_n 1, 1) := by decide +kernel
theorem d_MO_toldWrong_2 : decode prog_14_method_64_code 2 = .ok (.invokevirtual 262, 3) := by decide +kernel
theorem d_MO_toldWrong_5 : decode prog_14_method_64_code 5 = .ok (.istore_n 3, 1) := by decide +kernel
theorem d_MO_toldWrong_6 : decode prog_14_method_64_code 6 = .ok (.iload_n 3, 1) := by decide +kernel
theorem d_MO_toldWrong_7 : decode prog_14_method_64_code 7 = .ok (.ifCond .eq 7, 3) := by decide +kernel
theorem d_MO_toldWrong_10 : decode prog_14_method_64_code 10 = .ok (.iload_n 3, 1) := by decide +kernel
theorem d_MO_toldWrong_11 : decode prog_14_method_64_code 11 = .ok (.goto 16, 3) := by decide +kernel
theorem d_MO_toldWrong_14 : decode prog_14_method_64_code 14 = .ok (.iload_n 2, 1) := by decide +kernel
theorem d_MO_toldWrong_15 : decode prog_14_method_64_code 15 = .ok (.invokestatic 185, 3) := by decide +kernel
theorem d_MO_toldWrong_18 : decode prog_14_method_64_code 18 = .ok (.ifCond .eq 7, 3) := by decide +kernel
theorem d_MO_toldWrong_21 : decode prog_14_method_64_code 21 = .ok (.iconst 0, 1) := by decide +kernel
theorem d_MO_toldWrong_22 : decode prog_14_method_64_code 22 = .ok (.goto 5, 3) := by decide +kernel
theorem d_MO_toldWrong_25 : decode prog_14_method_64_code 25 = .ok (.bipush (-7), 2) := by decide +kernel
theorem d_MO_toldWrong_27 : decode prog_14_method_64_code 27 = .ok (.ireturn, 1) := by decide +kernel
def p_MO_toldWrong (Q : Int32 → AH → Prop) (x1 : Int32) (x2 : Int32) (h : AH) : Prop := p_MO_sheetWrong (fun r2 h1 => ((r2 = 0 → p_MO_isMany (fun r4 h3 => ((r4 = 0 → Q (-7) h3) ∧ (¬ r4 = 0 → Q 0 h3))) x2 h1) ∧ (¬ r2 = 0 → Q r2 h1))) x1 h
set_option maxRecDepth 20000 in
theorem r_MO_toldWrong_0 {G : GG} {d : Nat} {Q : Int32 → AH → Prop} (x1 : Int32) (x2 : Int32) (h : AH) (H : p_MO_toldWrong Q x1 x2 h) : Att G T1 m_MO_toldWrong (d + 2) 0 [some (.ref 59), some (.int x1), some (.int x2), none] [] h 0 0 (iQ Q) := by
  refine A_aload_n d_MO_toldWrong_0 rfl ?_
  refine A_iload_n d_MO_toldWrong_1 rfl ?_
  refine A_cI [.ref 59, .int x1] [] (ct_MO_262 rfl) d_MO_toldWrong_2 rfl rfl (by decide) (Nat.le_of_ble_eq_true rfl) (rcA_o (c := 12) rfl (vA_s (by decide)) rfl (by decide) rfl) (ok_MO_sheetWrong (d := d) H) (fun r2 h1 H => ?_)
  refine A_istore_n [some (.ref 59), some (.int x1), some (.int x2), some (.int r2)] d_MO_toldWrong_5 (by decide) rfl rfl ?_
  refine A_iload_n d_MO_toldWrong_6 rfl ?_
  refine A_if_eq 14 d_MO_toldWrong_7 (by decide) (fun z => ?_) (fun z => ?_)
  · have H := H.1 z
    refine A_iload_n d_MO_toldWrong_14 rfl ?_
    refine A_cI [.int x2] [] (ct_MO_185 rfl) d_MO_toldWrong_15 rfl rfl (by decide) (Nat.le_of_ble_eq_true rfl) trivial (ok_MO_isMany (d := d) H) (fun r4 h3 H => ?_)
    refine A_if_eq 25 d_MO_toldWrong_18 (by decide) (fun z => ?_) (fun z => ?_)
    · have H := H.1 z
      refine A_bipush (-7) (by decide) d_MO_toldWrong_25 ?_
      exact A_iret d_MO_toldWrong_27 rfl rfl H
    · have H := H.2 z
      refine A_iconst 0 (by decide) d_MO_toldWrong_21 ?_
      refine A_goto 27 d_MO_toldWrong_22 (by decide) ?_
      exact A_iret d_MO_toldWrong_27 rfl rfl H
  · have H := H.2 z
    refine A_iload_n d_MO_toldWrong_10 rfl ?_
    refine A_goto 27 d_MO_toldWrong_11 (by decide) ?_
    exact A_iret d_MO_toldWrong_27 rfl rfl H
set_option maxRecDepth 20000 in
theorem ok_MO_toldWrong {G : GG} {d : Nat} {Q : Int32 → AH → Prop} {x1 : Int32} {x2 : Int32} {h : AH} (H : p_MO_toldWrong Q x1 x2 h) : WP G T1 m_MO_toldWrong (d + 2) [.ref 59, .int x1, .int x2] h 0 0 (iQ Q) := by
  exact WP.enter 1 (by decide) rfl rfl (r_MO_toldWrong_0 x1 x2 h H)
theorem d_MO_isDrawn_0 : decode prog_14_method_72_code 0 = .ok (.iload_n 0, 1) := by decide +kernel
theorem d_MO_isDrawn_1 : decode prog_14_method_72_code 1 = .ok (.iconst 0, 1) := by decide +kernel
theorem d_MO_isDrawn_2 : decode prog_14_method_72_code 2 = .ok (.ldc_w 271, 3) := by decide +kernel
theorem d_MO_isDrawn_5 : decode prog_14_method_72_code 5 = .ok (.invokestatic 93, 3) := by decide +kernel
theorem d_MO_isDrawn_8 : decode prog_14_method_72_code 8 = .ok (.ifCond .eq 24, 3) := by decide +kernel
theorem d_MO_isDrawn_11 : decode prog_14_method_72_code 11 = .ok (.iload_n 1, 1) := by decide +kernel
theorem d_MO_isDrawn_12 : decode prog_14_method_72_code 12 = .ok (.invokestatic 185, 3) := by decide +kernel
theorem d_MO_isDrawn_15 : decode prog_14_method_72_code 15 = .ok (.ifCond .eq 17, 3) := by decide +kernel
theorem d_MO_isDrawn_18 : decode prog_14_method_72_code 18 = .ok (.iload_n 2, 1) := by decide +kernel
theorem d_MO_isDrawn_19 : decode prog_14_method_72_code 19 = .ok (.iconst 0, 1) := by decide +kernel
theorem d_MO_isDrawn_20 : decode prog_14_method_72_code 20 = .ok (.bipush 100, 2) := by decide +kernel
theorem d_MO_isDrawn_22 : decode prog_14_method_72_code 22 = .ok (.invokestatic 93, 3) := by decide +kernel
theorem d_MO_isDrawn_25 : decode prog_14_method_72_code 25 = .ok (.ifCond .eq 7, 3) := by decide +kernel
theorem d_MO_isDrawn_28 : decode prog_14_method_72_code 28 = .ok (.iconst 1, 1) := by decide +kernel
theorem d_MO_isDrawn_29 : decode prog_14_method_72_code 29 = .ok (.goto 4, 3) := by decide +kernel
theorem d_MO_isDrawn_32 : decode prog_14_method_72_code 32 = .ok (.iconst 0, 1) := by decide +kernel
theorem d_MO_isDrawn_33 : decode prog_14_method_72_code 33 = .ok (.ireturn, 1) := by decide +kernel
def p_MO_isDrawn (Q : Int32 → AH → Prop) (x0 : Int32) (x1 : Int32) (x2 : Int32) (h : AH) : Prop := p_MO_in (fun r2 h1 => ((r2 = 0 → Q 0 h1) ∧ (¬ r2 = 0 → p_MO_isMany (fun r4 h3 => ((r4 = 0 → Q 0 h3) ∧ (¬ r4 = 0 → p_MO_in (fun r6 h5 => ((r6 = 0 → Q 0 h5) ∧ (¬ r6 = 0 → Q 1 h5))) x2 0 100 h3))) x1 h1))) x0 0 99999 h
set_option maxRecDepth 20000 in
theorem r_MO_isDrawn_0 {G : GG} {d : Nat} {Q : Int32 → AH → Prop} (x0 : Int32) (x1 : Int32) (x2 : Int32) (h : AH) (H : p_MO_isDrawn Q x0 x1 x2 h) : Att G T1 m_MO_isDrawn (d + 2) 0 [some (.int x0), some (.int x1), some (.int x2)] [] h 0 0 (iQ Q) := by
  refine A_iload_n d_MO_isDrawn_0 rfl ?_
  refine A_iconst 0 (by decide) d_MO_isDrawn_1 ?_
  refine A_ldcw 99999 d_MO_isDrawn_2 (tG 1235 (by decide +kernel) (by decide +kernel)) ?_
  refine A_cI [.int x0, .int 0, .int 99999] [] (ct_MO_93 rfl) d_MO_isDrawn_5 rfl rfl (by decide) (Nat.le_of_ble_eq_true rfl) trivial (ok_MO_in (d := d + 1) H) (fun r2 h1 H => ?_)
  refine A_if_eq 32 d_MO_isDrawn_8 (by decide) (fun z => ?_) (fun z => ?_)
  · have H := H.1 z
    refine A_iconst 0 (by decide) d_MO_isDrawn_32 ?_
    exact A_iret d_MO_isDrawn_33 rfl rfl H
  · have H := H.2 z
    refine A_iload_n d_MO_isDrawn_11 rfl ?_
    refine A_cI [.int x1] [] (ct_MO_185 rfl) d_MO_isDrawn_12 rfl rfl (by decide) (Nat.le_of_ble_eq_true rfl) trivial (ok_MO_isMany (d := d) H) (fun r4 h3 H => ?_)
    refine A_if_eq 32 d_MO_isDrawn_15 (by decide) (fun z => ?_) (fun z => ?_)
    · have H := H.1 z
      refine A_iconst 0 (by decide) d_MO_isDrawn_32 ?_
      exact A_iret d_MO_isDrawn_33 rfl rfl H
    · have H := H.2 z
      refine A_iload_n d_MO_isDrawn_18 rfl ?_
      refine A_iconst 0 (by decide) d_MO_isDrawn_19 ?_
      refine A_bipush 100 (by decide) d_MO_isDrawn_20 ?_
      refine A_cI [.int x2, .int 0, .int 100] [] (ct_MO_93 rfl) d_MO_isDrawn_22 rfl rfl (by decide) (Nat.le_of_ble_eq_true rfl) trivial (ok_MO_in (d := d + 1) H) (fun r6 h5 H => ?_)
      refine A_if_eq 32 d_MO_isDrawn_25 (by decide) (fun z => ?_) (fun z => ?_)
      · have H := H.1 z
        refine A_iconst 0 (by decide) d_MO_isDrawn_32 ?_
        exact A_iret d_MO_isDrawn_33 rfl rfl H
      · have H := H.2 z
        refine A_iconst 1 (by decide) d_MO_isDrawn_28 ?_
        refine A_goto 33 d_MO_isDrawn_29 (by decide) ?_
        exact A_iret d_MO_isDrawn_33 rfl rfl H
set_option maxRecDepth 20000 in
theorem ok_MO_isDrawn {G : GG} {d : Nat} {Q : Int32 → AH → Prop} {x0 : Int32} {x1 : Int32} {x2 : Int32} {h : AH} (H : p_MO_isDrawn Q x0 x1 x2 h) : WP G T1 m_MO_isDrawn (d + 2) [.int x0, .int x1, .int x2] h 0 0 (iQ Q) := by
  exact WP.enter 0 (by decide) rfl rfl (r_MO_isDrawn_0 x0 x1 x2 h H)
theorem d_MO_housesBy_0 : decode prog_14_method_81_code 0 = .ok (.iload_n 1, 1) := by decide +kernel
theorem d_MO_housesBy_1 : decode prog_14_method_81_code 1 = .ok (.iconst 0, 1) := by decide +kernel
theorem d_MO_housesBy_2 : decode prog_14_method_81_code 2 = .ok (.iconst 3, 1) := by decide +kernel
theorem d_MO_housesBy_3 : decode prog_14_method_81_code 3 = .ok (.invokestatic 93, 3) := by decide +kernel
theorem d_MO_housesBy_6 : decode prog_14_method_81_code 6 = .ok (.ifCond .eq 23, 3) := by decide +kernel
theorem d_MO_housesBy_9 : decode prog_14_method_81_code 9 = .ok (.iload_n 2, 1) := by decide +kernel
theorem d_MO_housesBy_10 : decode prog_14_method_81_code 10 = .ok (.iconst 0, 1) := by decide +kernel
theorem d_MO_housesBy_11 : decode prog_14_method_81_code 11 = .ok (.iconst 2, 1) := by decide +kernel
theorem d_MO_housesBy_12 : decode prog_14_method_81_code 12 = .ok (.invokestatic 93, 3) := by decide +kernel
theorem d_MO_housesBy_15 : decode prog_14_method_81_code 15 = .ok (.ifCond .eq 14, 3) := by decide +kernel
theorem d_MO_housesBy_18 : decode prog_14_method_81_code 18 = .ok (.iload 4, 2) := by decide +kernel
theorem d_MO_housesBy_20 : decode prog_14_method_81_code 20 = .ok (.iconst 0, 1) := by decide +kernel
theorem d_MO_housesBy_21 : decode prog_14_method_81_code 21 = .ok (.bipush 7, 2) := by decide +kernel
theorem d_MO_housesBy_23 : decode prog_14_method_81_code 23 = .ok (.invokestatic 93, 3) := by decide +kernel
theorem d_MO_housesBy_26 : decode prog_14_method_81_code 26 = .ok (.ifCond .ne 6, 3) := by decide +kernel
theorem d_MO_housesBy_29 : decode prog_14_method_81_code 29 = .ok (.bipush (-2), 2) := by decide +kernel
theorem d_MO_housesBy_31 : decode prog_14_method_81_code 31 = .ok (.ireturn, 1) := by decide +kernel
theorem d_MO_housesBy_32 : decode prog_14_method_81_code 32 = .ok (.aload_n 0, 1) := by decide +kernel
theorem d_MO_housesBy_33 : decode prog_14_method_81_code 33 = .ok (.getfield 40, 3) := by decide +kernel
theorem d_MO_housesBy_36 : decode prog_14_method_81_code 36 = .ok (.iload_n 1, 1) := by decide +kernel
theorem d_MO_housesBy_37 : decode prog_14_method_81_code 37 = .ok (.iaload, 1) := by decide +kernel
theorem d_MO_housesBy_38 : decode prog_14_method_81_code 38 = .ok (.iconst (-1), 1) := by decide +kernel
theorem d_MO_housesBy_39 : decode prog_14_method_81_code 39 = .ok (.if_icmp .ne 6, 3) := by decide +kernel
theorem d_MO_housesBy_42 : decode prog_14_method_81_code 42 = .ok (.bipush (-11), 2) := by decide +kernel
theorem d_MO_housesBy_44 : decode prog_14_method_81_code 44 = .ok (.ireturn, 1) := by decide +kernel
theorem d_MO_housesBy_45 : decode prog_14_method_81_code 45 = .ok (.aload_n 0, 1) := by decide +kernel
theorem d_MO_housesBy_46 : decode prog_14_method_81_code 46 = .ok (.getfield 40, 3) := by decide +kernel
theorem d_MO_housesBy_49 : decode prog_14_method_81_code 49 = .ok (.iload_n 1, 1) := by decide +kernel
theorem d_MO_housesBy_50 : decode prog_14_method_81_code 50 = .ok (.iaload, 1) := by decide +kernel
theorem d_MO_housesBy_51 : decode prog_14_method_81_code 51 = .ok (.iload_n 2, 1) := by decide +kernel
theorem d_MO_housesBy_52 : decode prog_14_method_81_code 52 = .ok (.if_icmp .eq 6, 3) := by decide +kernel
theorem d_MO_housesBy_55 : decode prog_14_method_81_code 55 = .ok (.bipush (-13), 2) := by decide +kernel
theorem d_MO_housesBy_57 : decode prog_14_method_81_code 57 = .ok (.ireturn, 1) := by decide +kernel
theorem d_MO_housesBy_58 : decode prog_14_method_81_code 58 = .ok (.iconst 0, 1) := by decide +kernel
theorem d_MO_housesBy_59 : decode prog_14_method_81_code 59 = .ok (.istore 5, 2) := by decide +kernel
theorem d_MO_housesBy_61 : decode prog_14_method_81_code 61 = .ok (.iconst 0, 1) := by decide +kernel
theorem d_MO_housesBy_62 : decode prog_14_method_81_code 62 = .ok (.istore 6, 2) := by decide +kernel
theorem d_MO_housesBy_64 : decode prog_14_method_81_code 64 = .ok (.iload 6, 2) := by decide +kernel
theorem d_MO_housesBy_66 : decode prog_14_method_81_code 66 = .ok (.iload 4, 2) := by decide +kernel
theorem d_MO_housesBy_68 : decode prog_14_method_81_code 68 = .ok (.if_icmp .ge 94, 3) := by decide +kernel
theorem d_MO_housesBy_71 : decode prog_14_method_81_code 71 = .ok (.iload_n 3, 1) := by decide +kernel
theorem d_MO_housesBy_72 : decode prog_14_method_81_code 72 = .ok (.iconst 3, 1) := by decide +kernel
theorem d_MO_housesBy_73 : decode prog_14_method_81_code 73 = .ok (.iload 6, 2) := by decide +kernel
theorem d_MO_housesBy_75 : decode prog_14_method_81_code 75 = .ok (.imul, 1) := by decide +kernel
theorem d_MO_housesBy_76 : decode prog_14_method_81_code 76 = .ok (.iadd, 1) := by decide +kernel
theorem d_MO_housesBy_77 : decode prog_14_method_81_code 77 = .ok (.istore 7, 2) := by decide +kernel
theorem d_MO_housesBy_79 : decode prog_14_method_81_code 79 = .ok (.iload_n 3, 1) := by decide +kernel
theorem d_MO_housesBy_80 : decode prog_14_method_81_code 80 = .ok (.ifCond .lt 22, 3) := by decide +kernel
theorem d_MO_housesBy_83 : decode prog_14_method_81_code 83 = .ok (.iload 7, 2) := by decide +kernel
theorem d_MO_housesBy_85 : decode prog_14_method_81_code 85 = .ok (.iload_n 3, 1) := by decide +kernel
theorem d_MO_housesBy_86 : decode prog_14_method_81_code 86 = .ok (.if_icmp .lt 16, 3) := by decide +kernel
theorem d_MO_housesBy_89 : decode prog_14_method_81_code 89 = .ok (.iload 7, 2) := by decide +kernel
theorem d_MO_housesBy_91 : decode prog_14_method_81_code 91 = .ok (.aload_n 0, 1) := by decide +kernel
theorem d_MO_housesBy_92 : decode prog_14_method_81_code 92 = .ok (.getfield 43, 3) := by decide +kernel
theorem d_MO_housesBy_95 : decode prog_14_method_81_code 95 = .ok (.iload_n 1, 1) := by decide +kernel
theorem d_MO_housesBy_96 : decode prog_14_method_81_code 96 = .ok (.iaload, 1) := by decide +kernel
theorem d_MO_housesBy_97 : decode prog_14_method_81_code 97 = .ok (.iconst 3, 1) := by decide +kernel
theorem d_MO_housesBy_98 : decode prog_14_method_81_code 98 = .ok (.isub, 1) := by decide +kernel
theorem d_MO_housesBy_99 : decode prog_14_method_81_code 99 = .ok (.if_icmp .le 6, 3) := by decide +kernel
theorem d_MO_housesBy_102 : decode prog_14_method_81_code 102 = .ok (.bipush (-12), 2) := by decide +kernel
theorem d_MO_housesBy_104 : decode prog_14_method_81_code 104 = .ok (.ireturn, 1) := by decide +kernel
theorem d_MO_housesBy_105 : decode prog_14_method_81_code 105 = .ok (.bipush 40, 2) := by decide +kernel
theorem d_MO_housesBy_107 : decode prog_14_method_81_code 107 = .ok (.iload_n 1, 1) := by decide +kernel
theorem d_MO_housesBy_108 : decode prog_14_method_81_code 108 = .ok (.imul, 1) := by decide +kernel
theorem d_MO_housesBy_109 : decode prog_14_method_81_code 109 = .ok (.iload 7, 2) := by decide +kernel
theorem d_MO_housesBy_111 : decode prog_14_method_81_code 111 = .ok (.iadd, 1) := by decide +kernel
theorem d_MO_housesBy_112 : decode prog_14_method_81_code 112 = .ok (.istore 8, 2) := by decide +kernel
theorem d_MO_housesBy_114 : decode prog_14_method_81_code 114 = .ok (.iload 5, 2) := by decide +kernel
theorem d_MO_housesBy_116 : decode prog_14_method_81_code 116 = .ok (.aload_n 0, 1) := by decide +kernel
theorem d_MO_housesBy_117 : decode prog_14_method_81_code 117 = .ok (.aload_n 0, 1) := by decide +kernel
theorem d_MO_housesBy_118 : decode prog_14_method_81_code 118 = .ok (.getfield 46, 3) := by decide +kernel
theorem d_MO_housesBy_121 : decode prog_14_method_81_code 121 = .ok (.iload 8, 2) := by decide +kernel
theorem d_MO_housesBy_123 : decode prog_14_method_81_code 123 = .ok (.iaload, 1) := by decide +kernel
theorem d_MO_housesBy_124 : decode prog_14_method_81_code 124 = .ok (.aload_n 0, 1) := by decide +kernel
theorem d_MO_housesBy_125 : decode prog_14_method_81_code 125 = .ok (.getfield 46, 3) := by decide +kernel
theorem d_MO_housesBy_128 : decode prog_14_method_81_code 128 = .ok (.iload 8, 2) := by decide +kernel
theorem d_MO_housesBy_130 : decode prog_14_method_81_code 130 = .ok (.iconst 1, 1) := by decide +kernel
theorem d_MO_housesBy_131 : decode prog_14_method_81_code 131 = .ok (.iadd, 1) := by decide +kernel
theorem d_MO_housesBy_132 : decode prog_14_method_81_code 132 = .ok (.iaload, 1) := by decide +kernel
theorem d_MO_housesBy_133 : decode prog_14_method_81_code 133 = .ok (.aload_n 0, 1) := by decide +kernel
theorem d_MO_housesBy_134 : decode prog_14_method_81_code 134 = .ok (.getfield 46, 3) := by decide +kernel
theorem d_MO_housesBy_137 : decode prog_14_method_81_code 137 = .ok (.iload 8, 2) := by decide +kernel
theorem d_MO_housesBy_139 : decode prog_14_method_81_code 139 = .ok (.iconst 2, 1) := by decide +kernel
theorem d_MO_housesBy_140 : decode prog_14_method_81_code 140 = .ok (.iadd, 1) := by decide +kernel
theorem d_MO_housesBy_141 : decode prog_14_method_81_code 141 = .ok (.iaload, 1) := by decide +kernel
theorem d_MO_housesBy_142 : decode prog_14_method_81_code 142 = .ok (.invokevirtual 296, 3) := by decide +kernel
theorem d_MO_housesBy_145 : decode prog_14_method_81_code 145 = .ok (.ifCond .lt 7, 3) := by decide +kernel
theorem d_MO_housesBy_148 : decode prog_14_method_81_code 148 = .ok (.iconst 1, 1) := by decide +kernel
theorem d_MO_housesBy_149 : decode prog_14_method_81_code 149 = .ok (.goto 4, 3) := by decide +kernel
theorem d_MO_housesBy_152 : decode prog_14_method_81_code 152 = .ok (.iconst 0, 1) := by decide +kernel
theorem d_MO_housesBy_153 : decode prog_14_method_81_code 153 = .ok (.iadd, 1) := by decide +kernel
theorem d_MO_housesBy_154 : decode prog_14_method_81_code 154 = .ok (.istore 5, 2) := by decide +kernel
theorem d_MO_housesBy_156 : decode prog_14_method_81_code 156 = .ok (.iinc 6 1, 3) := by decide +kernel
theorem d_MO_housesBy_159 : decode prog_14_method_81_code 159 = .ok (.goto (-95), 3) := by decide +kernel
theorem d_MO_housesBy_162 : decode prog_14_method_81_code 162 = .ok (.iload 5, 2) := by decide +kernel
theorem d_MO_housesBy_164 : decode prog_14_method_81_code 164 = .ok (.ireturn, 1) := by decide +kernel
def p_MO_housesBy_153 (Q : Int32 → AH → Prop) (K64 : Int32 → Int32 → Int32 → Int32 → Int32 → AH → Prop) (x1 : Int32) (x3 : Int32) (x4 : Int32) (x6 : Int32) (s0 : Int32) (s1 : Int32) (h : AH) : Prop := K64 x1 x3 x4 (s0 + s1) (x6 + 1) h
def p_MO_housesBy_64 (Q : Int32 → AH → Prop) : Nat → Int32 → Int32 → Int32 → Int32 → Int32 → AH → Prop
  | 0 => fun _ _ _ _ _ _ => False
  | n + 1 => fun x1 x3 x4 x5 x6 h => let K64 := p_MO_housesBy_64 Q n; ((x4 ≤ x6 → Q x5 h) ∧ (¬ x4 ≤ x6 → ((x3 < 0 → Q (-12) h) ∧ (¬ x3 < 0 → (((x3 + (3 * x6)) < x3 → Q (-12) h) ∧ (¬ (x3 + (3 * x6)) < x3 → inb x1 4 ∧ (((x3 + (3 * x6)) ≤ ((h.1 71 x1) - 3) → inb ((40 * x1) + (x3 + (3 * x6))) 160 ∧ inb (((40 * x1) + (x3 + (3 * x6))) + 1) 160 ∧ inb (((40 * x1) + (x3 + (3 * x6))) + 2) 160 ∧ p_MO_house (fun r6 h5 => ((r6 < 0 → p_MO_housesBy_153 Q  K64 x1 x3 x4 x6 x5 0 h5) ∧ (¬ r6 < 0 → p_MO_housesBy_153 Q  K64 x1 x3 x4 x6 x5 1 h5))) (h.1 72 ((40 * x1) + (x3 + (3 * x6)))) (h.1 72 (((40 * x1) + (x3 + (3 * x6))) + 1)) (h.1 72 (((40 * x1) + (x3 + (3 * x6))) + 2)) h) ∧ (¬ (x3 + (3 * x6)) ≤ ((h.1 71 x1) - 3) → Q (-12) h))))))))
def p_MO_housesBy (Q : Int32 → AH → Prop) (x1 : Int32) (x2 : Int32) (x3 : Int32) (x4 : Int32) (h : AH) : Prop := p_MO_in (fun r2 h1 => ((r2 = 0 → Q (-2) h1) ∧ (¬ r2 = 0 → p_MO_in (fun r4 h3 => ((r4 = 0 → Q (-2) h3) ∧ (¬ r4 = 0 → p_MO_in (fun r6 h5 => ((¬ r6 = 0 → inb x1 4 ∧ ((¬ (h5.1 70 x1) = (-1) → (((h5.1 70 x1) = x2 → ∃ n, p_MO_housesBy_64 Q   n x1 x3 x4 0 0 h5) ∧ (¬ (h5.1 70 x1) = x2 → Q (-13) h5))) ∧ ((h5.1 70 x1) = (-1) → Q (-11) h5))) ∧ (r6 = 0 → Q (-2) h5))) x4 0 7 h3))) x2 0 2 h1))) x1 0 3 h
set_option maxRecDepth 20000 in
theorem r_MO_housesBy_153 {G : GG} {d : Nat} {Q : Int32 → AH → Prop} {K64 : Int32 → Int32 → Int32 → Int32 → Int32 → AH → Prop} (k64 : ∀ x1 x3 x4 x5 x6 h, K64 x1 x3 x4 x5 x6 h → Att G T1 m_MO_housesBy (d + 2) 64 [some (.ref 59), some (.int x1), none, some (.int x3), some (.int x4), some (.int x5), some (.int x6), none, none] [] h 0 0 (iQ Q)) (x1 : Int32) (x3 : Int32) (x4 : Int32) (x6 : Int32) (s0 : Int32) (s1 : Int32) (h : AH) (H : p_MO_housesBy_153 Q K64 x1 x3 x4 x6 s0 s1 h) : Att G T1 m_MO_housesBy (d + 2) 153 [some (.ref 59), some (.int x1), none, some (.int x3), some (.int x4), none, some (.int x6), none, none] [.int s1, .int s0] h 0 0 (iQ Q) := by
  refine A_iadd d_MO_housesBy_153 ?_
  refine A_istore [some (.ref 59), some (.int x1), none, some (.int x3), some (.int x4), some (.int (s0 + s1)), some (.int x6), none, none] d_MO_housesBy_154 (by decide) rfl rfl ?_
  refine A_iinc 1 [some (.ref 59), some (.int x1), none, some (.int x3), some (.int x4), some (.int (s0 + s1)), some (.int (x6 + 1)), none, none] d_MO_housesBy_156 rfl (by decide) (by decide) rfl rfl ?_
  refine A_goto 64 d_MO_housesBy_159 (by decide) ?_
  exact k64 _ _ _ _ _ _ H
set_option maxRecDepth 20000 in
theorem r_MO_housesBy_64 {G : GG} {d : Nat} {Q : Int32 → AH → Prop} : ∀ (n : Nat) (x1 : Int32) (x3 : Int32) (x4 : Int32) (x5 : Int32) (x6 : Int32) (h : AH), p_MO_housesBy_64 Q n x1 x3 x4 x5 x6 h → Att G T1 m_MO_housesBy (d + 2) 64 [some (.ref 59), some (.int x1), none, some (.int x3), some (.int x4), some (.int x5), some (.int x6), none, none] [] h 0 0 (iQ Q) := by
  intro n
  induction n with
  | zero => intro x1 x3 x4 x5 x6 h H; exact H.elim
  | succ n k64 =>
    intro x1 x3 x4 x5 x6 h H
    refine A_iload d_MO_housesBy_64 rfl ?_
    refine A_iload d_MO_housesBy_66 rfl ?_
    refine A_icmp_ge 162 d_MO_housesBy_68 (by decide) (fun z => ?_) (fun z => ?_)
    · have H := H.1 z
      refine A_iload d_MO_housesBy_162 rfl ?_
      exact A_iret d_MO_housesBy_164 rfl rfl H
    · have H := H.2 z
      refine A_iload_n d_MO_housesBy_71 rfl ?_
      refine A_iconst 3 (by decide) d_MO_housesBy_72 ?_
      refine A_iload d_MO_housesBy_73 rfl ?_
      refine A_imul d_MO_housesBy_75 ?_
      refine A_iadd d_MO_housesBy_76 ?_
      refine A_istore [some (.ref 59), some (.int x1), none, some (.int x3), some (.int x4), some (.int x5), some (.int x6), some (.int (x3 + (3 * x6))), none] d_MO_housesBy_77 (by decide) rfl rfl ?_
      refine A_iload_n d_MO_housesBy_79 rfl ?_
      refine A_if_lt 102 d_MO_housesBy_80 (by decide) (fun z => ?_) (fun z => ?_)
      · have H := H.1 z
        refine A_bipush (-12) (by decide) d_MO_housesBy_102 ?_
        exact A_iret d_MO_housesBy_104 rfl rfl H
      · have H := H.2 z
        refine A_iload d_MO_housesBy_83 rfl ?_
        refine A_iload_n d_MO_housesBy_85 rfl ?_
        refine A_icmp_lt 102 d_MO_housesBy_86 (by decide) (fun z => ?_) (fun z => ?_)
        · have H := H.1 z
          refine A_bipush (-12) (by decide) d_MO_housesBy_102 ?_
          exact A_iret d_MO_housesBy_104 rfl rfl H
        · have H := H.2 z
          refine A_iload d_MO_housesBy_89 rfl ?_
          refine A_aload_n d_MO_housesBy_91 rfl ?_
          refine A_get (v := .ref 71) d_MO_housesBy_92 (fo_MO_43_12 rfl) (vA_s (by decide)) rfl (by first | rfl | (show Value.int _ = Value.int _; simp [wI, wL, wR, wC, up])) ?_
          refine A_iload_n d_MO_housesBy_95 rfl ?_
          obtain ⟨c1, H⟩ := H
          refine A_ialdv (n := 4) (v := (h.1 71 x1)) d_MO_housesBy_96 (vA_s (by decide)) rfl c1 rfl ?_
          refine A_iconst 3 (by decide) d_MO_housesBy_97 ?_
          refine A_isub d_MO_housesBy_98 ?_
          refine A_icmp_le 105 d_MO_housesBy_99 (by decide) (fun z => ?_) (fun z => ?_)
          · have H := H.1 z
            refine A_bipush 40 (by decide) d_MO_housesBy_105 ?_
            refine A_iload_n d_MO_housesBy_107 rfl ?_
            refine A_imul d_MO_housesBy_108 ?_
            refine A_iload d_MO_housesBy_109 rfl ?_
            refine A_iadd d_MO_housesBy_111 ?_
            refine A_istore [some (.ref 59), some (.int x1), none, some (.int x3), some (.int x4), some (.int x5), some (.int x6), some (.int (x3 + (3 * x6))), some (.int ((40 * x1) + (x3 + (3 * x6))))] d_MO_housesBy_112 (by decide) rfl rfl ?_
            refine A_iload d_MO_housesBy_114 rfl ?_
            refine A_aload_n d_MO_housesBy_116 rfl ?_
            refine A_aload_n d_MO_housesBy_117 rfl ?_
            refine A_get (v := .ref 72) d_MO_housesBy_118 (fo_MO_46_12 rfl) (vA_s (by decide)) rfl (by first | rfl | (show Value.int _ = Value.int _; simp [wI, wL, wR, wC, up])) ?_
            refine A_iload d_MO_housesBy_121 rfl ?_
            obtain ⟨c2, H⟩ := H
            refine A_ialdv (n := 160) (v := (h.1 72 ((40 * x1) + (x3 + (3 * x6))))) d_MO_housesBy_123 (vA_s (by decide)) rfl c2 rfl ?_
            refine A_aload_n d_MO_housesBy_124 rfl ?_
            refine A_get (v := .ref 72) d_MO_housesBy_125 (fo_MO_46_12 rfl) (vA_s (by decide)) rfl (by first | rfl | (show Value.int _ = Value.int _; simp [wI, wL, wR, wC, up])) ?_
            refine A_iload d_MO_housesBy_128 rfl ?_
            refine A_iconst 1 (by decide) d_MO_housesBy_130 ?_
            refine A_iadd d_MO_housesBy_131 ?_
            obtain ⟨c3, H⟩ := H
            refine A_ialdv (n := 160) (v := (h.1 72 (((40 * x1) + (x3 + (3 * x6))) + 1))) d_MO_housesBy_132 (vA_s (by decide)) rfl c3 rfl ?_
            refine A_aload_n d_MO_housesBy_133 rfl ?_
            refine A_get (v := .ref 72) d_MO_housesBy_134 (fo_MO_46_12 rfl) (vA_s (by decide)) rfl (by first | rfl | (show Value.int _ = Value.int _; simp [wI, wL, wR, wC, up])) ?_
            refine A_iload d_MO_housesBy_137 rfl ?_
            refine A_iconst 2 (by decide) d_MO_housesBy_139 ?_
            refine A_iadd d_MO_housesBy_140 ?_
            obtain ⟨c4, H⟩ := H
            refine A_ialdv (n := 160) (v := (h.1 72 (((40 * x1) + (x3 + (3 * x6))) + 2))) d_MO_housesBy_141 (vA_s (by decide)) rfl c4 rfl ?_
            refine A_cI [.ref 59, .int (h.1 72 ((40 * x1) + (x3 + (3 * x6)))), .int (h.1 72 (((40 * x1) + (x3 + (3 * x6))) + 1)), .int (h.1 72 (((40 * x1) + (x3 + (3 * x6))) + 2))] [.int x5] (ct_MO_296 rfl) d_MO_housesBy_142 rfl rfl (by decide) (Nat.le_of_ble_eq_true rfl) (rcA_o (c := 12) rfl (vA_s (by decide)) rfl (by decide) rfl) (ok_MO_house (d := d) H) (fun r6 h5 H => ?_)
            refine A_if_lt 152 d_MO_housesBy_145 (by decide) (fun z => ?_) (fun z => ?_)
            · have H := H.1 z
              refine A_iconst 0 (by decide) d_MO_housesBy_152 ?_
              refine A_sub (L' := [some (.ref 59), some (.int x1), none, some (.int x3), some (.int x4), none, some (.int x6), none, none]) ⟨rfl, rfl, rfl, rfl, rfl, trivial⟩ ?_
              exact r_MO_housesBy_153  k64 _ _ _ _ _ _ _ H
            · have H := H.2 z
              refine A_iconst 1 (by decide) d_MO_housesBy_148 ?_
              refine A_goto 153 d_MO_housesBy_149 (by decide) ?_
              refine A_sub (L' := [some (.ref 59), some (.int x1), none, some (.int x3), some (.int x4), none, some (.int x6), none, none]) ⟨rfl, rfl, rfl, rfl, rfl, trivial⟩ ?_
              exact r_MO_housesBy_153  k64 _ _ _ _ _ _ _ H
          · have H := H.2 z
            refine A_bipush (-12) (by decide) d_MO_housesBy_102 ?_
            exact A_iret d_MO_housesBy_104 rfl rfl H
set_option maxRecDepth 20000 in
theorem r_MO_housesBy_0 {G : GG} {d : Nat} {Q : Int32 → AH → Prop} (x1 : Int32) (x2 : Int32) (x3 : Int32) (x4 : Int32) (h : AH) (H : p_MO_housesBy Q x1 x2 x3 x4 h) : Att G T1 m_MO_housesBy (d + 2) 0 [some (.ref 59), some (.int x1), some (.int x2), some (.int x3), some (.int x4), none, none, none, none] [] h 0 0 (iQ Q) := by
  refine A_iload_n d_MO_housesBy_0 rfl ?_
  refine A_iconst 0 (by decide) d_MO_housesBy_1 ?_
  refine A_iconst 3 (by decide) d_MO_housesBy_2 ?_
  refine A_cI [.int x1, .int 0, .int 3] [] (ct_MO_93 rfl) d_MO_housesBy_3 rfl rfl (by decide) (Nat.le_of_ble_eq_true rfl) trivial (ok_MO_in (d := d + 1) H) (fun r2 h1 H => ?_)
  refine A_if_eq 29 d_MO_housesBy_6 (by decide) (fun z => ?_) (fun z => ?_)
  · have H := H.1 z
    refine A_bipush (-2) (by decide) d_MO_housesBy_29 ?_
    exact A_iret d_MO_housesBy_31 rfl rfl H
  · have H := H.2 z
    refine A_iload_n d_MO_housesBy_9 rfl ?_
    refine A_iconst 0 (by decide) d_MO_housesBy_10 ?_
    refine A_iconst 2 (by decide) d_MO_housesBy_11 ?_
    refine A_cI [.int x2, .int 0, .int 2] [] (ct_MO_93 rfl) d_MO_housesBy_12 rfl rfl (by decide) (Nat.le_of_ble_eq_true rfl) trivial (ok_MO_in (d := d + 1) H) (fun r4 h3 H => ?_)
    refine A_if_eq 29 d_MO_housesBy_15 (by decide) (fun z => ?_) (fun z => ?_)
    · have H := H.1 z
      refine A_bipush (-2) (by decide) d_MO_housesBy_29 ?_
      exact A_iret d_MO_housesBy_31 rfl rfl H
    · have H := H.2 z
      refine A_iload d_MO_housesBy_18 rfl ?_
      refine A_iconst 0 (by decide) d_MO_housesBy_20 ?_
      refine A_bipush 7 (by decide) d_MO_housesBy_21 ?_
      refine A_cI [.int x4, .int 0, .int 7] [] (ct_MO_93 rfl) d_MO_housesBy_23 rfl rfl (by decide) (Nat.le_of_ble_eq_true rfl) trivial (ok_MO_in (d := d + 1) H) (fun r6 h5 H => ?_)
      refine A_if_ne 32 d_MO_housesBy_26 (by decide) (fun z => ?_) (fun z => ?_)
      · have H := H.1 z
        refine A_aload_n d_MO_housesBy_32 rfl ?_
        refine A_get (v := .ref 70) d_MO_housesBy_33 (fo_MO_40_12 rfl) (vA_s (by decide)) rfl (by first | rfl | (show Value.int _ = Value.int _; simp [wI, wL, wR, wC, up])) ?_
        refine A_iload_n d_MO_housesBy_36 rfl ?_
        obtain ⟨c7, H⟩ := H
        refine A_ialdv (n := 4) (v := (h5.1 70 x1)) d_MO_housesBy_37 (vA_s (by decide)) rfl c7 rfl ?_
        refine A_iconst (-1) (by decide) d_MO_housesBy_38 ?_
        refine A_icmp_ne 45 d_MO_housesBy_39 (by decide) (fun z => ?_) (fun z => ?_)
        · have H := H.1 z
          refine A_aload_n d_MO_housesBy_45 rfl ?_
          refine A_get (v := .ref 70) d_MO_housesBy_46 (fo_MO_40_12 rfl) (vA_s (by decide)) rfl (by first | rfl | (show Value.int _ = Value.int _; simp [wI, wL, wR, wC, up])) ?_
          refine A_iload_n d_MO_housesBy_49 rfl ?_
          refine A_ialdv (n := 4) (v := (h5.1 70 x1)) d_MO_housesBy_50 (vA_s (by decide)) rfl c7 rfl ?_
          refine A_iload_n d_MO_housesBy_51 rfl ?_
          refine A_icmp_eq 58 d_MO_housesBy_52 (by decide) (fun z => ?_) (fun z => ?_)
          · have H := H.1 z
            refine A_iconst 0 (by decide) d_MO_housesBy_58 ?_
            refine A_istore [some (.ref 59), some (.int x1), some (.int x2), some (.int x3), some (.int x4), some (.int 0), none, none, none] d_MO_housesBy_59 (by decide) rfl rfl ?_
            refine A_iconst 0 (by decide) d_MO_housesBy_61 ?_
            refine A_istore [some (.ref 59), some (.int x1), some (.int x2), some (.int x3), some (.int x4), some (.int 0), some (.int 0), none, none] d_MO_housesBy_62 (by decide) rfl rfl ?_
            refine A_sub (L' := [some (.ref 59), some (.int x1), none, some (.int x3), some (.int x4), some (.int 0), some (.int 0), none, none]) ⟨rfl, rfl, rfl, rfl, rfl, rfl, trivial⟩ ?_
            obtain ⟨n9, H⟩ := H
            exact r_MO_housesBy_64   n9 _ _ _ _ _ _ H
          · have H := H.2 z
            refine A_bipush (-13) (by decide) d_MO_housesBy_55 ?_
            exact A_iret d_MO_housesBy_57 rfl rfl H
        · have H := H.2 z
          refine A_bipush (-11) (by decide) d_MO_housesBy_42 ?_
          exact A_iret d_MO_housesBy_44 rfl rfl H
      · have H := H.2 z
        refine A_bipush (-2) (by decide) d_MO_housesBy_29 ?_
        exact A_iret d_MO_housesBy_31 rfl rfl H
set_option maxRecDepth 20000 in
theorem ok_MO_housesBy {G : GG} {d : Nat} {Q : Int32 → AH → Prop} {x1 : Int32} {x2 : Int32} {x3 : Int32} {x4 : Int32} {h : AH} (H : p_MO_housesBy Q x1 x2 x3 x4 h) : WP G T1 m_MO_housesBy (d + 2) [.ref 59, .int x1, .int x2, .int x3, .int x4] h 0 0 (iQ Q) := by
  exact WP.enter 4 (by decide) rfl rfl (r_MO_housesBy_0 x1 x2 x3 x4 h H)
theorem d_UF_ready_0 : decode prog_1_method_47_code 0 = .ok (.aload_n 0, 1) := by decide +kernel
theorem d_UF_ready_1 : decode prog_1_method_47_code 1 = .ok (.getfield 44, 3) := by decide +kernel
theorem d_UF_ready_4 : decode prog_1_method_47_code 4 = .ok (.aload_n 0, 1) := by decide +kernel
theorem d_UF_ready_5 : decode prog_1_method_47_code 5 = .ok (.getfield 34, 3) := by decide +kernel
theorem d_UF_ready_8 : decode prog_1_method_47_code 8 = .ok (.aload_n 0, 1) := by decide +kernel
theorem d_UF_ready_9 : decode prog_1_method_47_code 9 = .ok (.getfield 11, 3) := by decide +kernel
theorem d_UF_ready_12 : decode prog_1_method_47_code 12 = .ok (.aload_n 0, 1) := by decide +kernel
theorem d_UF_ready_13 : decode prog_1_method_47_code 13 = .ok (.getfield 17, 3) := by decide +kernel
theorem d_UF_ready_16 : decode prog_1_method_47_code 16 = .ok (.aload_n 0, 1) := by decide +kernel
theorem d_UF_ready_17 : decode prog_1_method_47_code 17 = .ok (.getfield 34, 3) := by decide +kernel
theorem d_UF_ready_20 : decode prog_1_method_47_code 20 = .ok (.getfield 89, 3) := by decide +kernel
theorem d_UF_ready_23 : decode prog_1_method_47_code 23 = .ok (.aaload, 1) := by decide +kernel
theorem d_UF_ready_24 : decode prog_1_method_47_code 24 = .ok (.invokevirtual 278, 3) := by decide +kernel
theorem d_UF_ready_27 : decode prog_1_method_47_code 27 = .ok (.return_, 1) := by decide +kernel
def p_UF_ready (Q : AH → Prop) (h : AH) : Prop := inb (h.1 5 4) 6 ∧ 0 < rR T1 h 2 (h.1 5 4).toNatClampNeg ∧ p_Dusk_begin (fun h3 => Q h3) 5 1 (rR T1 h 2 (h.1 5 4).toNatClampNeg - 1) h
set_option maxRecDepth 20000 in
theorem r_UF_ready_0 {G : GG} {d : Nat} {Q : AH → Prop} (h : AH) (H : p_UF_ready Q h) : Att G T1 m_UF_ready (d + 3) 0 [some (.ref 0)] [] h 0 0 (vQ Q) := by
  refine A_aload_n d_UF_ready_0 rfl ?_
  refine A_get (v := .ref 13) d_UF_ready_1 (fo_UF_44_11 rfl) (vA_s (by decide)) rfl (by first | rfl | (show Value.int _ = Value.int _; simp [wI, wL, wR, wC, up])) ?_
  refine A_aload_n d_UF_ready_4 rfl ?_
  refine A_get (v := .ref 5) d_UF_ready_5 (fo_UF_34_11 rfl) (vA_s (by decide)) rfl (by first | rfl | (show Value.int _ = Value.int _; simp [wI, wL, wR, wC, up])) ?_
  refine A_aload_n d_UF_ready_8 rfl ?_
  refine A_get (v := .ref 1) d_UF_ready_9 (fo_UF_11_11 rfl) (vA_s (by decide)) rfl (by first | rfl | (show Value.int _ = Value.int _; simp [wI, wL, wR, wC, up])) ?_
  refine A_aload_n d_UF_ready_12 rfl ?_
  refine A_get (v := .ref 2) d_UF_ready_13 (fo_UF_17_11 rfl) (vA_s (by decide)) rfl (by first | rfl | (show Value.int _ = Value.int _; simp [wI, wL, wR, wC, up])) ?_
  refine A_aload_n d_UF_ready_16 rfl ?_
  refine A_get (v := .ref 5) d_UF_ready_17 (fo_UF_34_11 rfl) (vA_s (by decide)) rfl (by first | rfl | (show Value.int _ = Value.int _; simp [wI, wL, wR, wC, up])) ?_
  refine A_get (v := .int (h.1 5 4)) d_UF_ready_20 (fo_UF_89_10 rfl) (vA_s (by decide)) rfl (by first | rfl | (show Value.int _ = Value.int _; simp [wI, wL, wR, wC, up])) ?_
  obtain ⟨c1, H⟩ := H
  obtain ⟨c2, H⟩ := H
  refine A_aald (t := 1) (n := 6) d_UF_ready_23 (by decide) (vA_s (by decide)) rfl c1 (pos_sub c2) ?_
  refine A_cV [.ref 13, .ref 5, .ref 1, .ref (rR T1 h 2 (h.1 5 4).toNatClampNeg - 1)] [] (ct_UF_278 rfl) d_UF_ready_24 rfl rfl (by decide) (Nat.le_of_ble_eq_true rfl) (rcA_o (c := 2) rfl (vA_s (by decide)) rfl (by decide) rfl) (ok_Dusk_begin (d := d) H) (fun h3 H => ?_)
  exact A_ret d_UF_ready_27 rfl H
set_option maxRecDepth 20000 in
theorem ok_UF_ready {G : GG} {d : Nat} {Q : AH → Prop} {h : AH} (H : p_UF_ready Q h) : WP G T1 m_UF_ready (d + 3) [.ref 0] h 0 0 (vQ Q) := by
  exact WP.enter 0 (by decide) rfl rfl (r_UF_ready_0 h H)
theorem d_UF_chain_0 : decode prog_1_method_9_code 0 = .ok (.aload_n 0, 1) := by decide +kernel
theorem d_UF_chain_1 : decode prog_1_method_9_code 1 = .ok (.iload_n 1, 1) := by decide +kernel
theorem d_UF_chain_2 : decode prog_1_method_9_code 2 = .ok (.invokevirtual 107, 3) := by decide +kernel
theorem d_UF_chain_5 : decode prog_1_method_9_code 5 = .ok (.ifCond .eq 11, 3) := by decide +kernel
theorem d_UF_chain_8 : decode prog_1_method_9_code 8 = .ok (.aload_n 0, 1) := by decide +kernel
theorem d_UF_chain_9 : decode prog_1_method_9_code 9 = .ok (.iload_n 2, 1) := by decide +kernel
theorem d_UF_chain_10 : decode prog_1_method_9_code 10 = .ok (.invokevirtual 107, 3) := by decide +kernel
theorem d_UF_chain_13 : decode prog_1_method_9_code 13 = .ok (.ifCond .ne 6, 3) := by decide +kernel
theorem d_UF_chain_16 : decode prog_1_method_9_code 16 = .ok (.bipush (-5), 2) := by decide +kernel
theorem d_UF_chain_18 : decode prog_1_method_9_code 18 = .ok (.ireturn, 1) := by decide +kernel
theorem d_UF_chain_19 : decode prog_1_method_9_code 19 = .ok (.aload_n 0, 1) := by decide +kernel
theorem d_UF_chain_20 : decode prog_1_method_9_code 20 = .ok (.getfield 34, 3) := by decide +kernel
theorem d_UF_chain_23 : decode prog_1_method_9_code 23 = .ok (.getfield 127, 3) := by decide +kernel
theorem d_UF_chain_26 : decode prog_1_method_9_code 26 = .ok (.iload_n 1, 1) := by decide +kernel
theorem d_UF_chain_27 : decode prog_1_method_9_code 27 = .ok (.iaload, 1) := by decide +kernel
theorem d_UF_chain_28 : decode prog_1_method_9_code 28 = .ok (.istore_n 3, 1) := by decide +kernel
theorem d_UF_chain_29 : decode prog_1_method_9_code 29 = .ok (.aload_n 0, 1) := by decide +kernel
theorem d_UF_chain_30 : decode prog_1_method_9_code 30 = .ok (.getfield 34, 3) := by decide +kernel
theorem d_UF_chain_33 : decode prog_1_method_9_code 33 = .ok (.iload_n 1, 1) := by decide +kernel
theorem d_UF_chain_34 : decode prog_1_method_9_code 34 = .ok (.iload_n 2, 1) := by decide +kernel
theorem d_UF_chain_35 : decode prog_1_method_9_code 35 = .ok (.invokevirtual 130, 3) := by decide +kernel
theorem d_UF_chain_38 : decode prog_1_method_9_code 38 = .ok (.iload_n 3, 1) := by decide +kernel
theorem d_UF_chain_39 : decode prog_1_method_9_code 39 = .ok (.ireturn, 1) := by decide +kernel
def p_UF_chain (Q : Int32 → AH → Prop) (x1 : Int32) (x2 : Int32) (h : AH) : Prop := p_UF_isHouse (fun r2 h1 => ((r2 = 0 → Q (-5) h1) ∧ (¬ r2 = 0 → p_UF_isHouse (fun r4 h3 => ((¬ r4 = 0 → inb x1 7 ∧ p_Town_join (fun h6 => Q (h3.1 8 x1) h6) 5 x1 x2 h3) ∧ (r4 = 0 → Q (-5) h3))) x2 h1))) x1 h
set_option maxRecDepth 20000 in
theorem r_UF_chain_0 {G : GG} {d : Nat} {Q : Int32 → AH → Prop} (x1 : Int32) (x2 : Int32) (h : AH) (H : p_UF_chain Q x1 x2 h) : Att G T1 m_UF_chain (d + 3) 0 [some (.ref 0), some (.int x1), some (.int x2), none] [] h 0 0 (iQ Q) := by
  refine A_aload_n d_UF_chain_0 rfl ?_
  refine A_iload_n d_UF_chain_1 rfl ?_
  refine A_cI [.ref 0, .int x1] [] (ct_UF_107 rfl) d_UF_chain_2 rfl rfl (by decide) (Nat.le_of_ble_eq_true rfl) (rcA_o (c := 11) rfl (vA_s (by decide)) rfl (by decide) rfl) (ok_UF_isHouse (d := d + 1) H) (fun r2 h1 H => ?_)
  refine A_if_eq 16 d_UF_chain_5 (by decide) (fun z => ?_) (fun z => ?_)
  · have H := H.1 z
    refine A_bipush (-5) (by decide) d_UF_chain_16 ?_
    exact A_iret d_UF_chain_18 rfl rfl H
  · have H := H.2 z
    refine A_aload_n d_UF_chain_8 rfl ?_
    refine A_iload_n d_UF_chain_9 rfl ?_
    refine A_cI [.ref 0, .int x2] [] (ct_UF_107 rfl) d_UF_chain_10 rfl rfl (by decide) (Nat.le_of_ble_eq_true rfl) (rcA_o (c := 11) rfl (vA_s (by decide)) rfl (by decide) rfl) (ok_UF_isHouse (d := d + 1) H) (fun r4 h3 H => ?_)
    refine A_if_ne 19 d_UF_chain_13 (by decide) (fun z => ?_) (fun z => ?_)
    · have H := H.1 z
      refine A_aload_n d_UF_chain_19 rfl ?_
      refine A_get (v := .ref 5) d_UF_chain_20 (fo_UF_34_11 rfl) (vA_s (by decide)) rfl (by first | rfl | (show Value.int _ = Value.int _; simp [wI, wL, wR, wC, up])) ?_
      refine A_get (v := .ref 8) d_UF_chain_23 (fo_UF_127_10 rfl) (vA_s (by decide)) rfl (by first | rfl | (show Value.int _ = Value.int _; simp [wI, wL, wR, wC, up])) ?_
      refine A_iload_n d_UF_chain_26 rfl ?_
      obtain ⟨c5, H⟩ := H
      refine A_ialdv (n := 7) (v := (h3.1 8 x1)) d_UF_chain_27 (vA_s (by decide)) rfl c5 rfl ?_
      refine A_istore_n [some (.ref 0), some (.int x1), some (.int x2), some (.int (h3.1 8 x1))] d_UF_chain_28 (by decide) rfl rfl ?_
      refine A_aload_n d_UF_chain_29 rfl ?_
      refine A_get (v := .ref 5) d_UF_chain_30 (fo_UF_34_11 rfl) (vA_s (by decide)) rfl (by first | rfl | (show Value.int _ = Value.int _; simp [wI, wL, wR, wC, up])) ?_
      refine A_iload_n d_UF_chain_33 rfl ?_
      refine A_iload_n d_UF_chain_34 rfl ?_
      refine A_cV [.ref 5, .int x1, .int x2] [] (ct_UF_130 rfl) d_UF_chain_35 rfl rfl (by decide) (Nat.le_of_ble_eq_true rfl) (rcA_o (c := 10) rfl (vA_s (by decide)) rfl (by decide) rfl) (ok_Town_join (d := d) H) (fun h6 H => ?_)
      refine A_iload_n d_UF_chain_38 rfl ?_
      exact A_iret d_UF_chain_39 rfl rfl H
    · have H := H.2 z
      refine A_bipush (-5) (by decide) d_UF_chain_16 ?_
      exact A_iret d_UF_chain_18 rfl rfl H
set_option maxRecDepth 20000 in
theorem ok_UF_chain {G : GG} {d : Nat} {Q : Int32 → AH → Prop} {x1 : Int32} {x2 : Int32} {h : AH} (H : p_UF_chain Q x1 x2 h) : WP G T1 m_UF_chain (d + 3) [.ref 0, .int x1, .int x2] h 0 0 (iQ Q) := by
  exact WP.enter 1 (by decide) rfl rfl (r_UF_chain_0 x1 x2 h H)
theorem d_Dusk_weighs_0 : decode prog_4_method_10_code 0 = .ok (.aload_n 0, 1) := by decide +kernel
theorem d_Dusk_weighs_1 : decode prog_4_method_10_code 1 = .ok (.getfield 20, 3) := by decide +kernel
theorem d_Dusk_weighs_4 : decode prog_4_method_10_code 4 = .ok (.iload_n 1, 1) := by decide +kernel
theorem d_Dusk_weighs_5 : decode prog_4_method_10_code 5 = .ok (.aaload, 1) := by decide +kernel
theorem d_Dusk_weighs_6 : decode prog_4_method_10_code 6 = .ok (.aload_n 0, 1) := by decide +kernel
theorem d_Dusk_weighs_7 : decode prog_4_method_10_code 7 = .ok (.iconst 0, 1) := by decide +kernel
theorem d_Dusk_weighs_8 : decode prog_4_method_10_code 8 = .ok (.iload_n 1, 1) := by decide +kernel
theorem d_Dusk_weighs_9 : decode prog_4_method_10_code 9 = .ok (.iload_n 2, 1) := by decide +kernel
theorem d_Dusk_weighs_10 : decode prog_4_method_10_code 10 = .ok (.iconst 0, 1) := by decide +kernel
theorem d_Dusk_weighs_11 : decode prog_4_method_10_code 11 = .ok (.invokevirtual 105, 3) := by decide +kernel
theorem d_Dusk_weighs_14 : decode prog_4_method_10_code 14 = .ok (.aload_n 0, 1) := by decide +kernel
theorem d_Dusk_weighs_15 : decode prog_4_method_10_code 15 = .ok (.getfield 12, 3) := by decide +kernel
theorem d_Dusk_weighs_18 : decode prog_4_method_10_code 18 = .ok (.getfield 78, 3) := by decide +kernel
theorem d_Dusk_weighs_21 : decode prog_4_method_10_code 21 = .ok (.iload_n 1, 1) := by decide +kernel
theorem d_Dusk_weighs_22 : decode prog_4_method_10_code 22 = .ok (.iaload, 1) := by decide +kernel
theorem d_Dusk_weighs_23 : decode prog_4_method_10_code 23 = .ok (.invokevirtual 109, 3) := by decide +kernel
theorem d_Dusk_weighs_26 : decode prog_4_method_10_code 26 = .ok (.ireturn, 1) := by decide +kernel
def p_Dusk_weighs (Q : Int32 → AH → Prop) (x1 : Int32) (x2 : Int32) (h : AH) : Prop := inb x1 7 ∧ 0 < rR T1 h 18 x1.toNatClampNeg ∧ p_Dusk_says (fun r4 h3 => inb x1 7 ∧ pv_weighsBy (fun r6 h7 => Q r6 h7) (rR T1 h 18 x1.toNatClampNeg - 1) r4 (h3.1 15 x1) h3) 0 x1 x2 0 h
set_option maxRecDepth 20000 in
theorem r_Dusk_weighs_0 {G : GG} {d : Nat} {Q : Int32 → AH → Prop} (x1 : Int32) (x2 : Int32) (h : AH) (H : p_Dusk_weighs Q x1 x2 h) : Att G T1 m_Dusk_weighs (d + 3) 0 [some (.ref 13), some (.int x1), some (.int x2)] [] h 0 0 (iQ Q) := by
  refine A_aload_n d_Dusk_weighs_0 rfl ?_
  refine A_get (v := .ref 18) d_Dusk_weighs_1 (fo_Dusk_20_2 rfl) (vA_s (by decide)) rfl (by first | rfl | (show Value.int _ = Value.int _; simp [wI, wL, wR, wC, up])) ?_
  refine A_iload_n d_Dusk_weighs_4 rfl ?_
  obtain ⟨c1, H⟩ := H
  obtain ⟨c2, H⟩ := H
  refine A_aald (t := 0) (n := 7) d_Dusk_weighs_5 (by decide) (vA_s (by decide)) rfl c1 (pos_sub c2) ?_
  refine A_aload_n d_Dusk_weighs_6 rfl ?_
  refine A_iconst 0 (by decide) d_Dusk_weighs_7 ?_
  refine A_iload_n d_Dusk_weighs_8 rfl ?_
  refine A_iload_n d_Dusk_weighs_9 rfl ?_
  refine A_iconst 0 (by decide) d_Dusk_weighs_10 ?_
  refine A_cI [.ref 13, .int 0, .int x1, .int x2, .int 0] [.ref (rR T1 h 18 x1.toNatClampNeg - 1)] (ct_Dusk_105 rfl) d_Dusk_weighs_11 rfl rfl (by decide) (Nat.le_of_ble_eq_true rfl) (rcA_o (c := 2) rfl (vA_s (by decide)) rfl (by decide) rfl) (ok_Dusk_says (d := d) H) (fun r4 h3 H => ?_)
  refine A_aload_n d_Dusk_weighs_14 rfl ?_
  refine A_get (v := .ref 14) d_Dusk_weighs_15 (fo_Dusk_12_2 rfl) (vA_s (by decide)) rfl (by first | rfl | (show Value.int _ = Value.int _; simp [wI, wL, wR, wC, up])) ?_
  refine A_get (v := .ref 15) d_Dusk_weighs_18 (fo_Dusk_78_10 rfl) (vA_s (by decide)) rfl (by first | rfl | (show Value.int _ = Value.int _; simp [wI, wL, wR, wC, up])) ?_
  refine A_iload_n d_Dusk_weighs_21 rfl ?_
  obtain ⟨c5, H⟩ := H
  refine A_ialdv (n := 7) (v := (h3.1 15 x1)) d_Dusk_weighs_22 (vA_s (by decide)) rfl c5 rfl ?_
  refine A_pv_weighsBy (d := d + 0) d_Dusk_weighs_23 H (fun r6 h7 H => ?_)
  exact A_iret d_Dusk_weighs_26 rfl rfl H
set_option maxRecDepth 20000 in
theorem ok_Dusk_weighs {G : GG} {d : Nat} {Q : Int32 → AH → Prop} {x1 : Int32} {x2 : Int32} {h : AH} (H : p_Dusk_weighs Q x1 x2 h) : WP G T1 m_Dusk_weighs (d + 3) [.ref 13, .int x1, .int x2] h 0 0 (iQ Q) := by
  exact WP.enter 0 (by decide) rfl rfl (r_Dusk_weighs_0 x1 x2 h H)
theorem d_Dusk_holds_0 : decode prog_4_method_11_code 0 = .ok (.aload_n 0, 1) := by decide +kernel
theorem d_Dusk_holds_1 : decode prog_4_method_11_code 1 = .ok (.getfield 20, 3) := by decide +kernel
theorem d_Dusk_holds_4 : decode prog_4_method_11_code 4 = .ok (.iload_n 1, 1) := by decide +kernel
theorem d_Dusk_holds_5 : decode prog_4_method_11_code 5 = .ok (.aaload, 1) := by decide +kernel
theorem d_Dusk_holds_6 : decode prog_4_method_11_code 6 = .ok (.aload_n 0, 1) := by decide +kernel
theorem d_Dusk_holds_7 : decode prog_4_method_11_code 7 = .ok (.iconst 1, 1) := by decide +kernel
theorem d_Dusk_holds_8 : decode prog_4_method_11_code 8 = .ok (.iload_n 1, 1) := by decide +kernel
theorem d_Dusk_holds_9 : decode prog_4_method_11_code 9 = .ok (.iload_n 2, 1) := by decide +kernel
theorem d_Dusk_holds_10 : decode prog_4_method_11_code 10 = .ok (.iconst 0, 1) := by decide +kernel
theorem d_Dusk_holds_11 : decode prog_4_method_11_code 11 = .ok (.invokevirtual 105, 3) := by decide +kernel
theorem d_Dusk_holds_14 : decode prog_4_method_11_code 14 = .ok (.invokevirtual 112, 3) := by decide +kernel
theorem d_Dusk_holds_17 : decode prog_4_method_11_code 17 = .ok (.ireturn, 1) := by decide +kernel
def p_Dusk_holds (Q : Int32 → AH → Prop) (x1 : Int32) (x2 : Int32) (h : AH) : Prop := inb x1 7 ∧ 0 < rR T1 h 18 x1.toNatClampNeg ∧ p_Dusk_says (fun r4 h3 => pv_holdsBy (fun r5 h6 => Q r5 h6) (rR T1 h 18 x1.toNatClampNeg - 1) r4 h3) 1 x1 x2 0 h
set_option maxRecDepth 20000 in
theorem r_Dusk_holds_0 {G : GG} {d : Nat} {Q : Int32 → AH → Prop} (x1 : Int32) (x2 : Int32) (h : AH) (H : p_Dusk_holds Q x1 x2 h) : Att G T1 m_Dusk_holds (d + 3) 0 [some (.ref 13), some (.int x1), some (.int x2)] [] h 0 0 (iQ Q) := by
  refine A_aload_n d_Dusk_holds_0 rfl ?_
  refine A_get (v := .ref 18) d_Dusk_holds_1 (fo_Dusk_20_2 rfl) (vA_s (by decide)) rfl (by first | rfl | (show Value.int _ = Value.int _; simp [wI, wL, wR, wC, up])) ?_
  refine A_iload_n d_Dusk_holds_4 rfl ?_
  obtain ⟨c1, H⟩ := H
  obtain ⟨c2, H⟩ := H
  refine A_aald (t := 0) (n := 7) d_Dusk_holds_5 (by decide) (vA_s (by decide)) rfl c1 (pos_sub c2) ?_
  refine A_aload_n d_Dusk_holds_6 rfl ?_
  refine A_iconst 1 (by decide) d_Dusk_holds_7 ?_
  refine A_iload_n d_Dusk_holds_8 rfl ?_
  refine A_iload_n d_Dusk_holds_9 rfl ?_
  refine A_iconst 0 (by decide) d_Dusk_holds_10 ?_
  refine A_cI [.ref 13, .int 1, .int x1, .int x2, .int 0] [.ref (rR T1 h 18 x1.toNatClampNeg - 1)] (ct_Dusk_105 rfl) d_Dusk_holds_11 rfl rfl (by decide) (Nat.le_of_ble_eq_true rfl) (rcA_o (c := 2) rfl (vA_s (by decide)) rfl (by decide) rfl) (ok_Dusk_says (d := d) H) (fun r4 h3 H => ?_)
  refine A_pv_holdsBy (d := d + 0) d_Dusk_holds_14 H (fun r5 h6 H => ?_)
  exact A_iret d_Dusk_holds_17 rfl rfl H
set_option maxRecDepth 20000 in
theorem ok_Dusk_holds {G : GG} {d : Nat} {Q : Int32 → AH → Prop} {x1 : Int32} {x2 : Int32} {h : AH} (H : p_Dusk_holds Q x1 x2 h) : WP G T1 m_Dusk_holds (d + 3) [.ref 13, .int x1, .int x2] h 0 0 (iQ Q) := by
  exact WP.enter 0 (by decide) rfl rfl (r_Dusk_holds_0 x1 x2 h H)
