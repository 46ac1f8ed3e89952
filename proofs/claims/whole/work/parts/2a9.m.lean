theorem d_UF_of_0 : decode prog_1_method_11_code 0 = .ok (.iload_n 1, 1) := by decide +kernel
theorem d_UF_of_1 : decode prog_1_method_11_code 1 = .ok (.invokestatic 143, 3) := by decide +kernel
theorem d_UF_of_4 : decode prog_1_method_11_code 4 = .ok (.ifCond .eq 11, 3) := by decide +kernel
theorem d_UF_of_7 : decode prog_1_method_11_code 7 = .ok (.aload_n 0, 1) := by decide +kernel
theorem d_UF_of_8 : decode prog_1_method_11_code 8 = .ok (.iload_n 2, 1) := by decide +kernel
theorem d_UF_of_9 : decode prog_1_method_11_code 9 = .ok (.invokevirtual 107, 3) := by decide +kernel
theorem d_UF_of_12 : decode prog_1_method_11_code 12 = .ok (.ifCond .ne 6, 3) := by decide +kernel
theorem d_UF_of_15 : decode prog_1_method_11_code 15 = .ok (.bipush (-5), 2) := by decide +kernel
theorem d_UF_of_17 : decode prog_1_method_11_code 17 = .ok (.ireturn, 1) := by decide +kernel
theorem d_UF_of_18 : decode prog_1_method_11_code 18 = .ok (.iload_n 3, 1) := by decide +kernel
theorem d_UF_of_19 : decode prog_1_method_11_code 19 = .ok (.iconst 0, 1) := by decide +kernel
theorem d_UF_of_20 : decode prog_1_method_11_code 20 = .ok (.iconst 4, 1) := by decide +kernel
theorem d_UF_of_21 : decode prog_1_method_11_code 21 = .ok (.invokestatic 95, 3) := by decide +kernel
theorem d_UF_of_24 : decode prog_1_method_11_code 24 = .ok (.ifCond .ne 6, 3) := by decide +kernel
theorem d_UF_of_27 : decode prog_1_method_11_code 27 = .ok (.bipush (-7), 2) := by decide +kernel
theorem d_UF_of_29 : decode prog_1_method_11_code 29 = .ok (.ireturn, 1) := by decide +kernel
theorem d_UF_of_30 : decode prog_1_method_11_code 30 = .ok (.aload_n 0, 1) := by decide +kernel
theorem d_UF_of_31 : decode prog_1_method_11_code 31 = .ok (.invokevirtual 110, 3) := by decide +kernel
theorem d_UF_of_34 : decode prog_1_method_11_code 34 = .ok (.aload_n 0, 1) := by decide +kernel
theorem d_UF_of_35 : decode prog_1_method_11_code 35 = .ok (.getfield 44, 3) := by decide +kernel
theorem d_UF_of_38 : decode prog_1_method_11_code 38 = .ok (.iload_n 1, 1) := by decide +kernel
theorem d_UF_of_39 : decode prog_1_method_11_code 39 = .ok (.invokevirtual 146, 3) := by decide +kernel
theorem d_UF_of_42 : decode prog_1_method_11_code 42 = .ok (.iload_n 3, 1) := by decide +kernel
theorem d_UF_of_43 : decode prog_1_method_11_code 43 = .ok (.tableswitch 72 0 3 #[29, 42, 52, 62], 29) := by decide +kernel
theorem d_UF_of_72 : decode prog_1_method_11_code 72 = .ok (.aload_n 0, 1) := by decide +kernel
theorem d_UF_of_73 : decode prog_1_method_11_code 73 = .ok (.getfield 44, 3) := by decide +kernel
theorem d_UF_of_76 : decode prog_1_method_11_code 76 = .ok (.getfield 149, 3) := by decide +kernel
theorem d_UF_of_79 : decode prog_1_method_11_code 79 = .ok (.getfield 121, 3) := by decide +kernel
theorem d_UF_of_82 : decode prog_1_method_11_code 82 = .ok (.iload_n 2, 1) := by decide +kernel
theorem d_UF_of_83 : decode prog_1_method_11_code 83 = .ok (.iaload, 1) := by decide +kernel
theorem d_UF_of_84 : decode prog_1_method_11_code 84 = .ok (.ireturn, 1) := by decide +kernel
theorem d_UF_of_85 : decode prog_1_method_11_code 85 = .ok (.aload_n 0, 1) := by decide +kernel
theorem d_UF_of_86 : decode prog_1_method_11_code 86 = .ok (.getfield 44, 3) := by decide +kernel
theorem d_UF_of_89 : decode prog_1_method_11_code 89 = .ok (.getfield 152, 3) := by decide +kernel
theorem d_UF_of_92 : decode prog_1_method_11_code 92 = .ok (.iload_n 2, 1) := by decide +kernel
theorem d_UF_of_93 : decode prog_1_method_11_code 93 = .ok (.iaload, 1) := by decide +kernel
theorem d_UF_of_94 : decode prog_1_method_11_code 94 = .ok (.ireturn, 1) := by decide +kernel
theorem d_UF_of_95 : decode prog_1_method_11_code 95 = .ok (.aload_n 0, 1) := by decide +kernel
theorem d_UF_of_96 : decode prog_1_method_11_code 96 = .ok (.getfield 44, 3) := by decide +kernel
theorem d_UF_of_99 : decode prog_1_method_11_code 99 = .ok (.getfield 155, 3) := by decide +kernel
theorem d_UF_of_102 : decode prog_1_method_11_code 102 = .ok (.iload_n 2, 1) := by decide +kernel
theorem d_UF_of_103 : decode prog_1_method_11_code 103 = .ok (.iaload, 1) := by decide +kernel
theorem d_UF_of_104 : decode prog_1_method_11_code 104 = .ok (.ireturn, 1) := by decide +kernel
theorem d_UF_of_105 : decode prog_1_method_11_code 105 = .ok (.aload_n 0, 1) := by decide +kernel
theorem d_UF_of_106 : decode prog_1_method_11_code 106 = .ok (.getfield 44, 3) := by decide +kernel
theorem d_UF_of_109 : decode prog_1_method_11_code 109 = .ok (.getfield 158, 3) := by decide +kernel
theorem d_UF_of_112 : decode prog_1_method_11_code 112 = .ok (.iload_n 2, 1) := by decide +kernel
theorem d_UF_of_113 : decode prog_1_method_11_code 113 = .ok (.iaload, 1) := by decide +kernel
theorem d_UF_of_114 : decode prog_1_method_11_code 114 = .ok (.ireturn, 1) := by decide +kernel
theorem d_UF_of_115 : decode prog_1_method_11_code 115 = .ok (.aload_n 0, 1) := by decide +kernel
theorem d_UF_of_116 : decode prog_1_method_11_code 116 = .ok (.getfield 44, 3) := by decide +kernel
theorem d_UF_of_119 : decode prog_1_method_11_code 119 = .ok (.iload_n 2, 1) := by decide +kernel
theorem d_UF_of_120 : decode prog_1_method_11_code 120 = .ok (.iload_n 1, 1) := by decide +kernel
theorem d_UF_of_121 : decode prog_1_method_11_code 121 = .ok (.invokevirtual 161, 3) := by decide +kernel
theorem d_UF_of_124 : decode prog_1_method_11_code 124 = .ok (.ireturn, 1) := by decide +kernel
def p_UF_of (Q : Int32 → AH → Prop) (x1 : Int32) (x2 : Int32) (x3 : Int32) (h : AH) : Prop := p_UF_isSpan (fun r2 h1 => ((r2 = 0 → Q (-5) h1) ∧ (¬ r2 = 0 → p_UF_isHouse (fun r4 h3 => ((¬ r4 = 0 → p_UF_within (fun r6 h5 => ((¬ r6 = 0 → p_UF_ready (fun h7 => p_Dusk_go (fun h8 => ((x3 = 0 → inb x2 7 ∧ Q (h8.1 15 x2) h8) ∧ (x3 = 1 → inb x2 7 ∧ Q (h8.1 20 x2) h8) ∧ (x3 = 2 → inb x2 7 ∧ Q (h8.1 22 x2) h8) ∧ (x3 = 3 → inb x2 7 ∧ Q (h8.1 21 x2) h8) ∧ (¬ x3 = 0 → ¬ x3 = 1 → ¬ x3 = 2 → ¬ x3 = 3 → p_Dusk_weighs (fun r14 h13 => Q r14 h13) x2 x1 h8))) x1 h7) h5) ∧ (r6 = 0 → Q (-7) h5))) x3 0 4 h3) ∧ (r4 = 0 → Q (-5) h3))) x2 h1))) x1 h
set_option maxRecDepth 20000 in
theorem r_UF_of_0 {G : GG} {d : Nat} {Q : Int32 → AH → Prop} (x1 : Int32) (x2 : Int32) (x3 : Int32) (h : AH) (H : p_UF_of Q x1 x2 x3 h) : Att G T1 m_UF_of (d + 7) 0 [some (.ref 0), some (.int x1), some (.int x2), some (.int x3)] [] h 0 0 (iQ Q) := by
  refine A_iload_n d_UF_of_0 rfl ?_
  refine A_cI [.int x1] [] (ct_UF_143 rfl) d_UF_of_1 rfl rfl (by decide) (Nat.le_of_ble_eq_true rfl) trivial (ok_UF_isSpan (d := d + 5) H) (fun r2 h1 H => ?_)
  refine A_if_eq 15 d_UF_of_4 (by decide) (fun z => ?_) (fun z => ?_)
  · have H := H.1 z
    refine A_bipush (-5) (by decide) d_UF_of_15 ?_
    exact A_iret d_UF_of_17 rfl rfl H
  · have H := H.2 z
    refine A_aload_n d_UF_of_7 rfl ?_
    refine A_iload_n d_UF_of_8 rfl ?_
    refine A_cI [.ref 0, .int x2] [] (ct_UF_107 rfl) d_UF_of_9 rfl rfl (by decide) (Nat.le_of_ble_eq_true rfl) (rcA_o (c := 11) rfl (vA_s (by decide)) rfl (by decide) rfl) (ok_UF_isHouse (d := d + 5) H) (fun r4 h3 H => ?_)
    refine A_if_ne 18 d_UF_of_12 (by decide) (fun z => ?_) (fun z => ?_)
    · have H := H.1 z
      refine A_iload_n d_UF_of_18 rfl ?_
      refine A_iconst 0 (by decide) d_UF_of_19 ?_
      refine A_iconst 4 (by decide) d_UF_of_20 ?_
      refine A_cI [.int x3, .int 0, .int 4] [] (ct_UF_95 rfl) d_UF_of_21 rfl rfl (by decide) (Nat.le_of_ble_eq_true rfl) trivial (ok_UF_within (d := d + 6) H) (fun r6 h5 H => ?_)
      refine A_if_ne 30 d_UF_of_24 (by decide) (fun z => ?_) (fun z => ?_)
      · have H := H.1 z
        refine A_aload_n d_UF_of_30 rfl ?_
        refine A_cV [.ref 0] [] (ct_UF_110 rfl) d_UF_of_31 rfl rfl (by decide) (Nat.le_of_ble_eq_true rfl) (rcA_o (c := 11) rfl (vA_s (by decide)) rfl (by decide) rfl) (ok_UF_ready (d := d + 3) H) (fun h7 H => ?_)
        refine A_aload_n d_UF_of_34 rfl ?_
        refine A_get (v := .ref 13) d_UF_of_35 (fo_UF_44_11 rfl) (vA_s (by decide)) rfl rfl ?_
        refine A_iload_n d_UF_of_38 rfl ?_
        refine A_cV [.ref 13, .int x1] [] (ct_UF_146 rfl) d_UF_of_39 rfl rfl (by decide) (Nat.le_of_ble_eq_true rfl) (rcA_o (c := 2) rfl (vA_s (by decide)) rfl (by decide) rfl) (ok_Dusk_go (d := d) H) (fun h8 H => ?_)
        refine A_iload_n d_UF_of_42 rfl ?_
        by_cases z0 : x3 = 0
        · have H := H.1 z0
          refine A_tsI 72 d_UF_of_43 (by rw [z0]; decide) (by rw [z0]; decide) (by rw [z0]; rfl) (by decide) ?_
          refine A_aload_n d_UF_of_72 rfl ?_
          refine A_get (v := .ref 13) d_UF_of_73 (fo_UF_44_11 rfl) (vA_s (by decide)) rfl rfl ?_
          refine A_get (v := .ref 14) d_UF_of_76 (fo_UF_149_2 rfl) (vA_s (by decide)) rfl rfl ?_
          refine A_get (v := .ref 15) d_UF_of_79 (fo_UF_121_10 rfl) (vA_s (by decide)) rfl rfl ?_
          refine A_iload_n d_UF_of_82 rfl ?_
          obtain ⟨c9, H⟩ := H
          refine A_iald (n := 7) d_UF_of_83 (vA_s (by decide)) rfl c9 ?_
          exact A_iret d_UF_of_84 rfl rfl H
        · have H := H.2
          by_cases z1 : x3 = 1
          · have H := H.1 z1
            refine A_tsI 85 d_UF_of_43 (by rw [z1]; decide) (by rw [z1]; decide) (by rw [z1]; rfl) (by decide) ?_
            refine A_aload_n d_UF_of_85 rfl ?_
            refine A_get (v := .ref 13) d_UF_of_86 (fo_UF_44_11 rfl) (vA_s (by decide)) rfl rfl ?_
            refine A_get (v := .ref 20) d_UF_of_89 (fo_UF_152_2 rfl) (vA_s (by decide)) rfl rfl ?_
            refine A_iload_n d_UF_of_92 rfl ?_
            obtain ⟨c10, H⟩ := H
            refine A_iald (n := 7) d_UF_of_93 (vA_s (by decide)) rfl c10 ?_
            exact A_iret d_UF_of_94 rfl rfl H
          · have H := H.2
            by_cases z2 : x3 = 2
            · have H := H.1 z2
              refine A_tsI 95 d_UF_of_43 (by rw [z2]; decide) (by rw [z2]; decide) (by rw [z2]; rfl) (by decide) ?_
              refine A_aload_n d_UF_of_95 rfl ?_
              refine A_get (v := .ref 13) d_UF_of_96 (fo_UF_44_11 rfl) (vA_s (by decide)) rfl rfl ?_
              refine A_get (v := .ref 22) d_UF_of_99 (fo_UF_155_2 rfl) (vA_s (by decide)) rfl rfl ?_
              refine A_iload_n d_UF_of_102 rfl ?_
              obtain ⟨c11, H⟩ := H
              refine A_iald (n := 7) d_UF_of_103 (vA_s (by decide)) rfl c11 ?_
              exact A_iret d_UF_of_104 rfl rfl H
            · have H := H.2
              by_cases z3 : x3 = 3
              · have H := H.1 z3
                refine A_tsI 105 d_UF_of_43 (by rw [z3]; decide) (by rw [z3]; decide) (by rw [z3]; rfl) (by decide) ?_
                refine A_aload_n d_UF_of_105 rfl ?_
                refine A_get (v := .ref 13) d_UF_of_106 (fo_UF_44_11 rfl) (vA_s (by decide)) rfl rfl ?_
                refine A_get (v := .ref 21) d_UF_of_109 (fo_UF_158_2 rfl) (vA_s (by decide)) rfl rfl ?_
                refine A_iload_n d_UF_of_112 rfl ?_
                obtain ⟨c12, H⟩ := H
                refine A_iald (n := 7) d_UF_of_113 (vA_s (by decide)) rfl c12 ?_
                exact A_iret d_UF_of_114 rfl rfl H
              · have H := H.2
                have H := H z0 z1 z2 z3
                refine A_tsO 115 d_UF_of_43 (by have t0 := lv_neT z0 (a := 0) (by decide); have t1 := lv_neT z1 (a := 1) (by decide); have t2 := lv_neT z2 (a := 2) (by decide); have t3 := lv_neT z3 (a := 3) (by decide); omega) (by decide) ?_
                refine A_aload_n d_UF_of_115 rfl ?_
                refine A_get (v := .ref 13) d_UF_of_116 (fo_UF_44_11 rfl) (vA_s (by decide)) rfl rfl ?_
                refine A_iload_n d_UF_of_119 rfl ?_
                refine A_iload_n d_UF_of_120 rfl ?_
                refine A_cI [.ref 13, .int x2, .int x1] [] (ct_UF_161 rfl) d_UF_of_121 rfl rfl (by decide) (Nat.le_of_ble_eq_true rfl) (rcA_o (c := 2) rfl (vA_s (by decide)) rfl (by decide) rfl) (ok_Dusk_weighs (d := d + 3) H) (fun r14 h13 H => ?_)
                exact A_iret d_UF_of_124 rfl rfl H
      · have H := H.2 z
        refine A_bipush (-7) (by decide) d_UF_of_27 ?_
        exact A_iret d_UF_of_29 rfl rfl H
    · have H := H.2 z
      refine A_bipush (-5) (by decide) d_UF_of_15 ?_
      exact A_iret d_UF_of_17 rfl rfl H
set_option maxRecDepth 20000 in
theorem ok_UF_of {G : GG} {d : Nat} {Q : Int32 → AH → Prop} {x1 : Int32} {x2 : Int32} {x3 : Int32} {h : AH} (H : p_UF_of Q x1 x2 x3 h) : WP G T1 m_UF_of (d + 7) [.ref 0, .int x1, .int x2, .int x3] h 0 0 (iQ Q) := by
  exact WP.enter 0 (by decide) rfl rfl (r_UF_of_0 x1 x2 x3 h H)
theorem d_UF_all_0 : decode prog_1_method_12_code 0 = .ok (.iload_n 1, 1) := by decide +kernel
theorem d_UF_all_1 : decode prog_1_method_12_code 1 = .ok (.invokestatic 143, 3) := by decide +kernel
theorem d_UF_all_4 : decode prog_1_method_12_code 4 = .ok (.ifCond .ne 6, 3) := by decide +kernel
theorem d_UF_all_7 : decode prog_1_method_12_code 7 = .ok (.bipush (-5), 2) := by decide +kernel
theorem d_UF_all_9 : decode prog_1_method_12_code 9 = .ok (.ireturn, 1) := by decide +kernel
theorem d_UF_all_10 : decode prog_1_method_12_code 10 = .ok (.iload_n 2, 1) := by decide +kernel
theorem d_UF_all_11 : decode prog_1_method_12_code 11 = .ok (.iconst 0, 1) := by decide +kernel
theorem d_UF_all_12 : decode prog_1_method_12_code 12 = .ok (.iconst 3, 1) := by decide +kernel
theorem d_UF_all_13 : decode prog_1_method_12_code 13 = .ok (.invokestatic 95, 3) := by decide +kernel
theorem d_UF_all_16 : decode prog_1_method_12_code 16 = .ok (.ifCond .ne 6, 3) := by decide +kernel
theorem d_UF_all_19 : decode prog_1_method_12_code 19 = .ok (.bipush (-7), 2) := by decide +kernel
theorem d_UF_all_21 : decode prog_1_method_12_code 21 = .ok (.ireturn, 1) := by decide +kernel
theorem d_UF_all_22 : decode prog_1_method_12_code 22 = .ok (.aload_n 0, 1) := by decide +kernel
theorem d_UF_all_23 : decode prog_1_method_12_code 23 = .ok (.invokevirtual 110, 3) := by decide +kernel
theorem d_UF_all_26 : decode prog_1_method_12_code 26 = .ok (.aload_n 0, 1) := by decide +kernel
theorem d_UF_all_27 : decode prog_1_method_12_code 27 = .ok (.getfield 44, 3) := by decide +kernel
theorem d_UF_all_30 : decode prog_1_method_12_code 30 = .ok (.iload_n 1, 1) := by decide +kernel
theorem d_UF_all_31 : decode prog_1_method_12_code 31 = .ok (.invokevirtual 146, 3) := by decide +kernel
theorem d_UF_all_34 : decode prog_1_method_12_code 34 = .ok (.iload_n 2, 1) := by decide +kernel
theorem d_UF_all_35 : decode prog_1_method_12_code 35 = .ok (.tableswitch 55 0 2 #[25, 36, 44], 25) := by decide +kernel
theorem d_UF_all_60 : decode prog_1_method_12_code 60 = .ok (.aload_n 0, 1) := by decide +kernel
theorem d_UF_all_61 : decode prog_1_method_12_code 61 = .ok (.getfield 44, 3) := by decide +kernel
theorem d_UF_all_64 : decode prog_1_method_12_code 64 = .ok (.getfield 149, 3) := by decide +kernel
theorem d_UF_all_67 : decode prog_1_method_12_code 67 = .ok (.invokevirtual 165, 3) := by decide +kernel
theorem d_UF_all_70 : decode prog_1_method_12_code 70 = .ok (.ireturn, 1) := by decide +kernel
theorem d_UF_all_71 : decode prog_1_method_12_code 71 = .ok (.aload_n 0, 1) := by decide +kernel
theorem d_UF_all_72 : decode prog_1_method_12_code 72 = .ok (.getfield 44, 3) := by decide +kernel
theorem d_UF_all_75 : decode prog_1_method_12_code 75 = .ok (.invokevirtual 168, 3) := by decide +kernel
theorem d_UF_all_78 : decode prog_1_method_12_code 78 = .ok (.ireturn, 1) := by decide +kernel
theorem d_UF_all_79 : decode prog_1_method_12_code 79 = .ok (.aload_n 0, 1) := by decide +kernel
theorem d_UF_all_80 : decode prog_1_method_12_code 80 = .ok (.getfield 44, 3) := by decide +kernel
theorem d_UF_all_83 : decode prog_1_method_12_code 83 = .ok (.getfield 149, 3) := by decide +kernel
theorem d_UF_all_86 : decode prog_1_method_12_code 86 = .ok (.invokevirtual 171, 3) := by decide +kernel
theorem d_UF_all_89 : decode prog_1_method_12_code 89 = .ok (.ireturn, 1) := by decide +kernel
theorem d_UF_all_90 : decode prog_1_method_12_code 90 = .ok (.aload_n 0, 1) := by decide +kernel
theorem d_UF_all_91 : decode prog_1_method_12_code 91 = .ok (.getfield 44, 3) := by decide +kernel
theorem d_UF_all_94 : decode prog_1_method_12_code 94 = .ok (.invokevirtual 174, 3) := by decide +kernel
theorem d_UF_all_97 : decode prog_1_method_12_code 97 = .ok (.ireturn, 1) := by decide +kernel
def p_UF_all (Q : Int32 → AH → Prop) (x1 : Int32) (x2 : Int32) (h : AH) : Prop := p_UF_isSpan (fun r2 h1 => ((¬ r2 = 0 → p_UF_within (fun r4 h3 => ((¬ r4 = 0 → p_UF_ready (fun h5 => p_Dusk_go (fun h6 => ((x2 = 0 → p_Town_downBits (fun r8 h7 => Q r8 h7) 14 h6) ∧ (x2 = 1 → p_Dusk_hitsTogether (fun r10 h9 => Q r10 h9) h6) ∧ (x2 = 2 → p_Town_highTogether (fun r12 h11 => Q r12 h11) 14 h6) ∧ (¬ x2 = 0 → ¬ x2 = 1 → ¬ x2 = 2 → p_Dusk_stillBits (fun r14 h13 => Q r14 h13) h6))) x1 h5) h3) ∧ (r4 = 0 → Q (-7) h3))) x2 0 3 h1) ∧ (r2 = 0 → Q (-5) h1))) x1 h
set_option maxRecDepth 20000 in
theorem r_UF_all_0 {G : GG} {d : Nat} {Q : Int32 → AH → Prop} (x1 : Int32) (x2 : Int32) (h : AH) (H : p_UF_all Q x1 x2 h) : Att G T1 m_UF_all (d + 7) 0 [some (.ref 0), some (.int x1), some (.int x2)] [] h 0 0 (iQ Q) := by
  refine A_iload_n d_UF_all_0 rfl ?_
  refine A_cI [.int x1] [] (ct_UF_143 rfl) d_UF_all_1 rfl rfl (by decide) (Nat.le_of_ble_eq_true rfl) trivial (ok_UF_isSpan (d := d + 5) H) (fun r2 h1 H => ?_)
  refine A_if_ne 10 d_UF_all_4 (by decide) (fun z => ?_) (fun z => ?_)
  · have H := H.1 z
    refine A_iload_n d_UF_all_10 rfl ?_
    refine A_iconst 0 (by decide) d_UF_all_11 ?_
    refine A_iconst 3 (by decide) d_UF_all_12 ?_
    refine A_cI [.int x2, .int 0, .int 3] [] (ct_UF_95 rfl) d_UF_all_13 rfl rfl (by decide) (Nat.le_of_ble_eq_true rfl) trivial (ok_UF_within (d := d + 6) H) (fun r4 h3 H => ?_)
    refine A_if_ne 22 d_UF_all_16 (by decide) (fun z => ?_) (fun z => ?_)
    · have H := H.1 z
      refine A_aload_n d_UF_all_22 rfl ?_
      refine A_cV [.ref 0] [] (ct_UF_110 rfl) d_UF_all_23 rfl rfl (by decide) (Nat.le_of_ble_eq_true rfl) (rcA_o (c := 11) rfl (vA_s (by decide)) rfl (by decide) rfl) (ok_UF_ready (d := d + 3) H) (fun h5 H => ?_)
      refine A_aload_n d_UF_all_26 rfl ?_
      refine A_get (v := .ref 13) d_UF_all_27 (fo_UF_44_11 rfl) (vA_s (by decide)) rfl rfl ?_
      refine A_iload_n d_UF_all_30 rfl ?_
      refine A_cV [.ref 13, .int x1] [] (ct_UF_146 rfl) d_UF_all_31 rfl rfl (by decide) (Nat.le_of_ble_eq_true rfl) (rcA_o (c := 2) rfl (vA_s (by decide)) rfl (by decide) rfl) (ok_Dusk_go (d := d) H) (fun h6 H => ?_)
      refine A_iload_n d_UF_all_34 rfl ?_
      by_cases z0 : x2 = 0
      · have H := H.1 z0
        refine A_tsI 60 d_UF_all_35 (by rw [z0]; decide) (by rw [z0]; decide) (by rw [z0]; rfl) (by decide) ?_
        refine A_aload_n d_UF_all_60 rfl ?_
        refine A_get (v := .ref 13) d_UF_all_61 (fo_UF_44_11 rfl) (vA_s (by decide)) rfl rfl ?_
        refine A_get (v := .ref 14) d_UF_all_64 (fo_UF_149_2 rfl) (vA_s (by decide)) rfl rfl ?_
        refine A_cI [.ref 14] [] (ct_UF_165 rfl) d_UF_all_67 rfl rfl (by decide) (Nat.le_of_ble_eq_true rfl) (rcA_o (c := 10) rfl (vA_s (by decide)) rfl (by decide) rfl) (ok_Town_downBits (d := d + 5) H) (fun r8 h7 H => ?_)
        exact A_iret d_UF_all_70 rfl rfl H
      · have H := H.2
        by_cases z1 : x2 = 1
        · have H := H.1 z1
          refine A_tsI 71 d_UF_all_35 (by rw [z1]; decide) (by rw [z1]; decide) (by rw [z1]; rfl) (by decide) ?_
          refine A_aload_n d_UF_all_71 rfl ?_
          refine A_get (v := .ref 13) d_UF_all_72 (fo_UF_44_11 rfl) (vA_s (by decide)) rfl rfl ?_
          refine A_cI [.ref 13] [] (ct_UF_168 rfl) d_UF_all_75 rfl rfl (by decide) (Nat.le_of_ble_eq_true rfl) (rcA_o (c := 2) rfl (vA_s (by decide)) rfl (by decide) rfl) (ok_Dusk_hitsTogether (d := d + 6) H) (fun r10 h9 H => ?_)
          exact A_iret d_UF_all_78 rfl rfl H
        · have H := H.2
          by_cases z2 : x2 = 2
          · have H := H.1 z2
            refine A_tsI 79 d_UF_all_35 (by rw [z2]; decide) (by rw [z2]; decide) (by rw [z2]; rfl) (by decide) ?_
            refine A_aload_n d_UF_all_79 rfl ?_
            refine A_get (v := .ref 13) d_UF_all_80 (fo_UF_44_11 rfl) (vA_s (by decide)) rfl rfl ?_
            refine A_get (v := .ref 14) d_UF_all_83 (fo_UF_149_2 rfl) (vA_s (by decide)) rfl rfl ?_
            refine A_cI [.ref 14] [] (ct_UF_171 rfl) d_UF_all_86 rfl rfl (by decide) (Nat.le_of_ble_eq_true rfl) (rcA_o (c := 10) rfl (vA_s (by decide)) rfl (by decide) rfl) (ok_Town_highTogether (d := d + 6) H) (fun r12 h11 H => ?_)
            exact A_iret d_UF_all_89 rfl rfl H
          · have H := H.2
            have H := H z0 z1 z2
            refine A_tsO 90 d_UF_all_35 (by have t0 := lv_neT z0 (a := 0) (by decide); have t1 := lv_neT z1 (a := 1) (by decide); have t2 := lv_neT z2 (a := 2) (by decide); omega) (by decide) ?_
            refine A_aload_n d_UF_all_90 rfl ?_
            refine A_get (v := .ref 13) d_UF_all_91 (fo_UF_44_11 rfl) (vA_s (by decide)) rfl rfl ?_
            refine A_cI [.ref 13] [] (ct_UF_174 rfl) d_UF_all_94 rfl rfl (by decide) (Nat.le_of_ble_eq_true rfl) (rcA_o (c := 2) rfl (vA_s (by decide)) rfl (by decide) rfl) (ok_Dusk_stillBits (d := d + 6) H) (fun r14 h13 H => ?_)
            exact A_iret d_UF_all_97 rfl rfl H
    · have H := H.2 z
      refine A_bipush (-7) (by decide) d_UF_all_19 ?_
      exact A_iret d_UF_all_21 rfl rfl H
  · have H := H.2 z
    refine A_bipush (-5) (by decide) d_UF_all_7 ?_
    exact A_iret d_UF_all_9 rfl rfl H
set_option maxRecDepth 20000 in
theorem ok_UF_all {G : GG} {d : Nat} {Q : Int32 → AH → Prop} {x1 : Int32} {x2 : Int32} {h : AH} (H : p_UF_all Q x1 x2 h) : WP G T1 m_UF_all (d + 7) [.ref 0, .int x1, .int x2] h 0 0 (iQ Q) := by
  exact WP.enter 0 (by decide) rfl rfl (r_UF_all_0 x1 x2 h H)
theorem d_UF_when_0 : decode prog_1_method_13_code 0 = .ok (.aload_n 0, 1) := by decide +kernel
theorem d_UF_when_1 : decode prog_1_method_13_code 1 = .ok (.iload_n 1, 1) := by decide +kernel
theorem d_UF_when_2 : decode prog_1_method_13_code 2 = .ok (.invokevirtual 107, 3) := by decide +kernel
theorem d_UF_when_5 : decode prog_1_method_13_code 5 = .ok (.ifCond .ne 6, 3) := by decide +kernel
theorem d_UF_when_8 : decode prog_1_method_13_code 8 = .ok (.bipush (-5), 2) := by decide +kernel
theorem d_UF_when_10 : decode prog_1_method_13_code 10 = .ok (.ireturn, 1) := by decide +kernel
theorem d_UF_when_11 : decode prog_1_method_13_code 11 = .ok (.aload_n 0, 1) := by decide +kernel
theorem d_UF_when_12 : decode prog_1_method_13_code 12 = .ok (.invokevirtual 110, 3) := by decide +kernel
theorem d_UF_when_15 : decode prog_1_method_13_code 15 = .ok (.aload_n 0, 1) := by decide +kernel
theorem d_UF_when_16 : decode prog_1_method_13_code 16 = .ok (.getfield 44, 3) := by decide +kernel
theorem d_UF_when_19 : decode prog_1_method_13_code 19 = .ok (.iload_n 1, 1) := by decide +kernel
theorem d_UF_when_20 : decode prog_1_method_13_code 20 = .ok (.invokevirtual 177, 3) := by decide +kernel
theorem d_UF_when_23 : decode prog_1_method_13_code 23 = .ok (.ireturn, 1) := by decide +kernel
def p_UF_when (Q : Int32 → AH → Prop) (x1 : Int32) (h : AH) : Prop := p_UF_isHouse (fun r2 h1 => ((¬ r2 = 0 → p_UF_ready (fun h3 => p_Dusk_firstDown (fun r5 h4 => Q r5 h4) x1 h3) h1) ∧ (r2 = 0 → Q (-5) h1))) x1 h
set_option maxRecDepth 20000 in
theorem r_UF_when_0 {G : GG} {d : Nat} {Q : Int32 → AH → Prop} (x1 : Int32) (h : AH) (H : p_UF_when Q x1 h) : Att G T1 m_UF_when (d + 7) 0 [some (.ref 0), some (.int x1)] [] h 0 0 (iQ Q) := by
  refine A_aload_n d_UF_when_0 rfl ?_
  refine A_iload_n d_UF_when_1 rfl ?_
  refine A_cI [.ref 0, .int x1] [] (ct_UF_107 rfl) d_UF_when_2 rfl rfl (by decide) (Nat.le_of_ble_eq_true rfl) (rcA_o (c := 11) rfl (vA_s (by decide)) rfl (by decide) rfl) (ok_UF_isHouse (d := d + 5) H) (fun r2 h1 H => ?_)
  refine A_if_ne 11 d_UF_when_5 (by decide) (fun z => ?_) (fun z => ?_)
  · have H := H.1 z
    refine A_aload_n d_UF_when_11 rfl ?_
    refine A_cV [.ref 0] [] (ct_UF_110 rfl) d_UF_when_12 rfl rfl (by decide) (Nat.le_of_ble_eq_true rfl) (rcA_o (c := 11) rfl (vA_s (by decide)) rfl (by decide) rfl) (ok_UF_ready (d := d + 3) H) (fun h3 H => ?_)
    refine A_aload_n d_UF_when_15 rfl ?_
    refine A_get (v := .ref 13) d_UF_when_16 (fo_UF_44_11 rfl) (vA_s (by decide)) rfl rfl ?_
    refine A_iload_n d_UF_when_19 rfl ?_
    refine A_cI [.ref 13, .int x1] [] (ct_UF_177 rfl) d_UF_when_20 rfl rfl (by decide) (Nat.le_of_ble_eq_true rfl) (rcA_o (c := 2) rfl (vA_s (by decide)) rfl (by decide) rfl) (ok_Dusk_firstDown (d := d) H) (fun r5 h4 H => ?_)
    exact A_iret d_UF_when_23 rfl rfl H
  · have H := H.2 z
    refine A_bipush (-5) (by decide) d_UF_when_8 ?_
    exact A_iret d_UF_when_10 rfl rfl H
set_option maxRecDepth 20000 in
theorem ok_UF_when {G : GG} {d : Nat} {Q : Int32 → AH → Prop} {x1 : Int32} {h : AH} (H : p_UF_when Q x1 h) : WP G T1 m_UF_when (d + 7) [.ref 0, .int x1] h 0 0 (iQ Q) := by
  exact WP.enter 0 (by decide) rfl rfl (r_UF_when_0 x1 h H)
theorem d_UF_first_0 : decode prog_1_method_14_code 0 = .ok (.iload_n 1, 1) := by decide +kernel
theorem d_UF_first_1 : decode prog_1_method_14_code 1 = .ok (.iconst 0, 1) := by decide +kernel
theorem d_UF_first_2 : decode prog_1_method_14_code 2 = .ok (.iconst 1, 1) := by decide +kernel
theorem d_UF_first_3 : decode prog_1_method_14_code 3 = .ok (.invokestatic 95, 3) := by decide +kernel
theorem d_UF_first_6 : decode prog_1_method_14_code 6 = .ok (.ifCond .ne 6, 3) := by decide +kernel
theorem d_UF_first_9 : decode prog_1_method_14_code 9 = .ok (.bipush (-2), 2) := by decide +kernel
theorem d_UF_first_11 : decode prog_1_method_14_code 11 = .ok (.ireturn, 1) := by decide +kernel
theorem d_UF_first_12 : decode prog_1_method_14_code 12 = .ok (.iconst (-1), 1) := by decide +kernel
theorem d_UF_first_13 : decode prog_1_method_14_code 13 = .ok (.istore_n 2, 1) := by decide +kernel
theorem d_UF_first_14 : decode prog_1_method_14_code 14 = .ok (.iconst (-1), 1) := by decide +kernel
theorem d_UF_first_15 : decode prog_1_method_14_code 15 = .ok (.istore_n 3, 1) := by decide +kernel
theorem d_UF_first_16 : decode prog_1_method_14_code 16 = .ok (.iconst 0, 1) := by decide +kernel
theorem d_UF_first_17 : decode prog_1_method_14_code 17 = .ok (.istore 4, 2) := by decide +kernel
theorem d_UF_first_19 : decode prog_1_method_14_code 19 = .ok (.iload 4, 2) := by decide +kernel
theorem d_UF_first_21 : decode prog_1_method_14_code 21 = .ok (.aload_n 0, 1) := by decide +kernel
theorem d_UF_first_22 : decode prog_1_method_14_code 22 = .ok (.getfield 34, 3) := by decide +kernel
theorem d_UF_first_25 : decode prog_1_method_14_code 25 = .ok (.getfield 80, 3) := by decide +kernel
theorem d_UF_first_28 : decode prog_1_method_14_code 28 = .ok (.if_icmp .ge 72, 3) := by decide +kernel
theorem d_UF_first_31 : decode prog_1_method_14_code 31 = .ok (.aload_n 0, 1) := by decide +kernel
theorem d_UF_first_32 : decode prog_1_method_14_code 32 = .ok (.invokevirtual 110, 3) := by decide +kernel
theorem d_UF_first_35 : decode prog_1_method_14_code 35 = .ok (.aload_n 0, 1) := by decide +kernel
theorem d_UF_first_36 : decode prog_1_method_14_code 36 = .ok (.getfield 44, 3) := by decide +kernel
theorem d_UF_first_39 : decode prog_1_method_14_code 39 = .ok (.iload 4, 2) := by decide +kernel
theorem d_UF_first_41 : decode prog_1_method_14_code 41 = .ok (.invokevirtual 177, 3) := by decide +kernel
theorem d_UF_first_44 : decode prog_1_method_14_code 44 = .ok (.istore 5, 2) := by decide +kernel
theorem d_UF_first_46 : decode prog_1_method_14_code 46 = .ok (.iload_n 3, 1) := by decide +kernel
theorem d_UF_first_47 : decode prog_1_method_14_code 47 = .ok (.iconst (-1), 1) := by decide +kernel
theorem d_UF_first_48 : decode prog_1_method_14_code 48 = .ok (.if_icmp .eq 22, 3) := by decide +kernel
theorem d_UF_first_51 : decode prog_1_method_14_code 51 = .ok (.iload_n 1, 1) := by decide +kernel
theorem d_UF_first_52 : decode prog_1_method_14_code 52 = .ok (.ifCond .ne 12, 3) := by decide +kernel
theorem d_UF_first_55 : decode prog_1_method_14_code 55 = .ok (.iload 5, 2) := by decide +kernel
theorem d_UF_first_57 : decode prog_1_method_14_code 57 = .ok (.iload_n 2, 1) := by decide +kernel
theorem d_UF_first_58 : decode prog_1_method_14_code 58 = .ok (.if_icmp .ge 16, 3) := by decide +kernel
theorem d_UF_first_61 : decode prog_1_method_14_code 61 = .ok (.goto 9, 3) := by decide +kernel
theorem d_UF_first_64 : decode prog_1_method_14_code 64 = .ok (.iload 5, 2) := by decide +kernel
theorem d_UF_first_66 : decode prog_1_method_14_code 66 = .ok (.iload_n 2, 1) := by decide +kernel
theorem d_UF_first_67 : decode prog_1_method_14_code 67 = .ok (.if_icmp .le 7, 3) := by decide +kernel
theorem d_UF_first_70 : decode prog_1_method_14_code 70 = .ok (.iconst 1, 1) := by decide +kernel
theorem d_UF_first_71 : decode prog_1_method_14_code 71 = .ok (.goto 4, 3) := by decide +kernel
theorem d_UF_first_74 : decode prog_1_method_14_code 74 = .ok (.iconst 0, 1) := by decide +kernel
theorem d_UF_first_75 : decode prog_1_method_14_code 75 = .ok (.istore 6, 2) := by decide +kernel
theorem d_UF_first_77 : decode prog_1_method_14_code 77 = .ok (.iload 5, 2) := by decide +kernel
theorem d_UF_first_79 : decode prog_1_method_14_code 79 = .ok (.iconst (-1), 1) := by decide +kernel
theorem d_UF_first_80 : decode prog_1_method_14_code 80 = .ok (.if_icmp .eq 14, 3) := by decide +kernel
theorem d_UF_first_83 : decode prog_1_method_14_code 83 = .ok (.iload 6, 2) := by decide +kernel
theorem d_UF_first_85 : decode prog_1_method_14_code 85 = .ok (.ifCond .eq 9, 3) := by decide +kernel
theorem d_UF_first_88 : decode prog_1_method_14_code 88 = .ok (.iload 5, 2) := by decide +kernel
theorem d_UF_first_90 : decode prog_1_method_14_code 90 = .ok (.istore_n 2, 1) := by decide +kernel
theorem d_UF_first_91 : decode prog_1_method_14_code 91 = .ok (.iload 4, 2) := by decide +kernel
theorem d_UF_first_93 : decode prog_1_method_14_code 93 = .ok (.istore_n 3, 1) := by decide +kernel
theorem d_UF_first_94 : decode prog_1_method_14_code 94 = .ok (.iinc 4 1, 3) := by decide +kernel
theorem d_UF_first_97 : decode prog_1_method_14_code 97 = .ok (.goto (-78), 3) := by decide +kernel
theorem d_UF_first_100 : decode prog_1_method_14_code 100 = .ok (.iload_n 3, 1) := by decide +kernel
theorem d_UF_first_101 : decode prog_1_method_14_code 101 = .ok (.ireturn, 1) := by decide +kernel
def p_UF_first_94 (Q : Int32 → AH → Prop) (K19 : Int32 → Int32 → Int32 → Int32 → AH → Prop) (x1 : Int32) (x2 : Int32) (x3 : Int32) (x4 : Int32) (h : AH) : Prop := K19 x1 x2 x3 (x4 + 1) h
def p_UF_first_75 (Q : Int32 → AH → Prop) (K19 : Int32 → Int32 → Int32 → Int32 → AH → Prop) (x1 : Int32) (x2 : Int32) (x3 : Int32) (x4 : Int32) (x5 : Int32) (s0 : Int32) (h : AH) : Prop := ((x5 = (-1) → p_UF_first_94 Q  K19 x1 x2 x3 x4 h) ∧ (¬ x5 = (-1) → ((s0 = 0 → p_UF_first_94 Q  K19 x1 x2 x3 x4 h) ∧ (¬ s0 = 0 → p_UF_first_94 Q  K19 x1 x5 x4 x4 h))))
def p_UF_first_74 (Q : Int32 → AH → Prop) (K19 : Int32 → Int32 → Int32 → Int32 → AH → Prop) (x1 : Int32) (x2 : Int32) (x3 : Int32) (x4 : Int32) (x5 : Int32) (h : AH) : Prop := p_UF_first_75 Q  K19 x1 x2 x3 x4 x5 0 h
def p_UF_first_70 (Q : Int32 → AH → Prop) (K19 : Int32 → Int32 → Int32 → Int32 → AH → Prop) (x1 : Int32) (x2 : Int32) (x3 : Int32) (x4 : Int32) (x5 : Int32) (h : AH) : Prop := p_UF_first_75 Q  K19 x1 x2 x3 x4 x5 1 h
def p_UF_first_19 (Q : Int32 → AH → Prop) : Nat → Int32 → Int32 → Int32 → Int32 → AH → Prop
  | 0 => fun _ _ _ _ _ => False
  | n + 1 => fun x1 x2 x3 x4 h => let K19 := p_UF_first_19 Q n; (((h.1 5 3) ≤ x4 → Q x3 h) ∧ (¬ (h.1 5 3) ≤ x4 → p_UF_ready (fun h1 => p_Dusk_firstDown (fun r3 h2 => ((x3 = (-1) → p_UF_first_70 Q  K19 x1 x2 x3 x4 r3 h2) ∧ (¬ x3 = (-1) → ((¬ x1 = 0 → ((r3 ≤ x2 → p_UF_first_74 Q  K19 x1 x2 x3 x4 r3 h2) ∧ (¬ r3 ≤ x2 → p_UF_first_70 Q  K19 x1 x2 x3 x4 r3 h2))) ∧ (x1 = 0 → ((x2 ≤ r3 → p_UF_first_74 Q  K19 x1 x2 x3 x4 r3 h2) ∧ (¬ x2 ≤ r3 → p_UF_first_70 Q  K19 x1 x2 x3 x4 r3 h2))))))) x4 h1) h))
def p_UF_first (Q : Int32 → AH → Prop) (x1 : Int32) (h : AH) : Prop := p_UF_within (fun r2 h1 => ((¬ r2 = 0 → ∃ n, p_UF_first_19 Q   n x1 (-1) (-1) 0 h1) ∧ (r2 = 0 → Q (-2) h1))) x1 0 1 h
set_option maxRecDepth 20000 in
theorem r_UF_first_94 {G : GG} {d : Nat} {Q : Int32 → AH → Prop} {K19 : Int32 → Int32 → Int32 → Int32 → AH → Prop} (k19 : ∀ x1 x2 x3 x4 h, K19 x1 x2 x3 x4 h → Att G T1 m_UF_first (d + 7) 19 [some (.ref 0), some (.int x1), some (.int x2), some (.int x3), some (.int x4), none, none] [] h 0 0 (iQ Q)) (x1 : Int32) (x2 : Int32) (x3 : Int32) (x4 : Int32) (h : AH) (H : p_UF_first_94 Q K19 x1 x2 x3 x4 h) : Att G T1 m_UF_first (d + 7) 94 [some (.ref 0), some (.int x1), some (.int x2), some (.int x3), some (.int x4), none, none] [] h 0 0 (iQ Q) := by
  refine A_iinc 1 [some (.ref 0), some (.int x1), some (.int x2), some (.int x3), some (.int (x4 + 1)), none, none] d_UF_first_94 rfl (by decide) (by decide) rfl rfl ?_
  refine A_goto 19 d_UF_first_97 (by decide) ?_
  exact k19 _ _ _ _ _ H
set_option maxRecDepth 20000 in
theorem r_UF_first_75 {G : GG} {d : Nat} {Q : Int32 → AH → Prop} {K19 : Int32 → Int32 → Int32 → Int32 → AH → Prop} (k19 : ∀ x1 x2 x3 x4 h, K19 x1 x2 x3 x4 h → Att G T1 m_UF_first (d + 7) 19 [some (.ref 0), some (.int x1), some (.int x2), some (.int x3), some (.int x4), none, none] [] h 0 0 (iQ Q)) (x1 : Int32) (x2 : Int32) (x3 : Int32) (x4 : Int32) (x5 : Int32) (s0 : Int32) (h : AH) (H : p_UF_first_75 Q K19 x1 x2 x3 x4 x5 s0 h) : Att G T1 m_UF_first (d + 7) 75 [some (.ref 0), some (.int x1), some (.int x2), some (.int x3), some (.int x4), some (.int x5), none] [.int s0] h 0 0 (iQ Q) := by
  refine A_istore [some (.ref 0), some (.int x1), some (.int x2), some (.int x3), some (.int x4), some (.int x5), some (.int s0)] d_UF_first_75 (by decide) rfl rfl ?_
  refine A_iload d_UF_first_77 rfl ?_
  refine A_iconst (-1) (by decide) d_UF_first_79 ?_
  refine A_icmp_eq 94 d_UF_first_80 (by decide) (fun z => ?_) (fun z => ?_)
  · have H := H.1 z
    refine A_sub (L' := [some (.ref 0), some (.int x1), some (.int x2), some (.int x3), some (.int x4), none, none]) ⟨rfl, rfl, rfl, rfl, rfl, trivial⟩ ?_
    exact r_UF_first_94  k19 _ _ _ _ _ H
  · have H := H.2 z
    refine A_iload d_UF_first_83 rfl ?_
    refine A_if_eq 94 d_UF_first_85 (by decide) (fun z => ?_) (fun z => ?_)
    · have H := H.1 z
      refine A_sub (L' := [some (.ref 0), some (.int x1), some (.int x2), some (.int x3), some (.int x4), none, none]) ⟨rfl, rfl, rfl, rfl, rfl, trivial⟩ ?_
      exact r_UF_first_94  k19 _ _ _ _ _ H
    · have H := H.2 z
      refine A_iload d_UF_first_88 rfl ?_
      refine A_istore_n [some (.ref 0), some (.int x1), some (.int x5), some (.int x3), some (.int x4), some (.int x5), some (.int s0)] d_UF_first_90 (by decide) rfl rfl ?_
      refine A_iload d_UF_first_91 rfl ?_
      refine A_istore_n [some (.ref 0), some (.int x1), some (.int x5), some (.int x4), some (.int x4), some (.int x5), some (.int s0)] d_UF_first_93 (by decide) rfl rfl ?_
      refine A_sub (L' := [some (.ref 0), some (.int x1), some (.int x5), some (.int x4), some (.int x4), none, none]) ⟨rfl, rfl, rfl, rfl, rfl, trivial⟩ ?_
      exact r_UF_first_94  k19 _ _ _ _ _ H
set_option maxRecDepth 20000 in
theorem r_UF_first_74 {G : GG} {d : Nat} {Q : Int32 → AH → Prop} {K19 : Int32 → Int32 → Int32 → Int32 → AH → Prop} (k19 : ∀ x1 x2 x3 x4 h, K19 x1 x2 x3 x4 h → Att G T1 m_UF_first (d + 7) 19 [some (.ref 0), some (.int x1), some (.int x2), some (.int x3), some (.int x4), none, none] [] h 0 0 (iQ Q)) (x1 : Int32) (x2 : Int32) (x3 : Int32) (x4 : Int32) (x5 : Int32) (h : AH) (H : p_UF_first_74 Q K19 x1 x2 x3 x4 x5 h) : Att G T1 m_UF_first (d + 7) 74 [some (.ref 0), some (.int x1), some (.int x2), some (.int x3), some (.int x4), some (.int x5), none] [] h 0 0 (iQ Q) := by
  refine A_iconst 0 (by decide) d_UF_first_74 ?_
  exact r_UF_first_75  k19 _ _ _ _ _ _ _ H
set_option maxRecDepth 20000 in
theorem r_UF_first_70 {G : GG} {d : Nat} {Q : Int32 → AH → Prop} {K19 : Int32 → Int32 → Int32 → Int32 → AH → Prop} (k19 : ∀ x1 x2 x3 x4 h, K19 x1 x2 x3 x4 h → Att G T1 m_UF_first (d + 7) 19 [some (.ref 0), some (.int x1), some (.int x2), some (.int x3), some (.int x4), none, none] [] h 0 0 (iQ Q)) (x1 : Int32) (x2 : Int32) (x3 : Int32) (x4 : Int32) (x5 : Int32) (h : AH) (H : p_UF_first_70 Q K19 x1 x2 x3 x4 x5 h) : Att G T1 m_UF_first (d + 7) 70 [some (.ref 0), some (.int x1), some (.int x2), some (.int x3), some (.int x4), some (.int x5), none] [] h 0 0 (iQ Q) := by
  refine A_iconst 1 (by decide) d_UF_first_70 ?_
  refine A_goto 75 d_UF_first_71 (by decide) ?_
  exact r_UF_first_75  k19 _ _ _ _ _ _ _ H
set_option maxRecDepth 20000 in
theorem r_UF_first_19 {G : GG} {d : Nat} {Q : Int32 → AH → Prop} : ∀ (n : Nat) (x1 : Int32) (x2 : Int32) (x3 : Int32) (x4 : Int32) (h : AH), p_UF_first_19 Q n x1 x2 x3 x4 h → Att G T1 m_UF_first (d + 7) 19 [some (.ref 0), some (.int x1), some (.int x2), some (.int x3), some (.int x4), none, none] [] h 0 0 (iQ Q) := by
  intro n
  induction n with
  | zero => intro x1 x2 x3 x4 h H; exact H.elim
  | succ n k19 =>
    intro x1 x2 x3 x4 h H
    refine A_iload d_UF_first_19 rfl ?_
    refine A_aload_n d_UF_first_21 rfl ?_
    refine A_get (v := .ref 5) d_UF_first_22 (fo_UF_34_11 rfl) (vA_s (by decide)) rfl rfl ?_
    refine A_get (v := .int (h.1 5 3)) d_UF_first_25 (fo_UF_80_10 rfl) (vA_s (by decide)) rfl rfl ?_
    refine A_icmp_ge 100 d_UF_first_28 (by decide) (fun z => ?_) (fun z => ?_)
    · have H := H.1 z
      refine A_iload_n d_UF_first_100 rfl ?_
      exact A_iret d_UF_first_101 rfl rfl H
    · have H := H.2 z
      refine A_aload_n d_UF_first_31 rfl ?_
      refine A_cV [.ref 0] [] (ct_UF_110 rfl) d_UF_first_32 rfl rfl (by decide) (Nat.le_of_ble_eq_true rfl) (rcA_o (c := 11) rfl (vA_s (by decide)) rfl (by decide) rfl) (ok_UF_ready (d := d + 3) H) (fun h1 H => ?_)
      refine A_aload_n d_UF_first_35 rfl ?_
      refine A_get (v := .ref 13) d_UF_first_36 (fo_UF_44_11 rfl) (vA_s (by decide)) rfl rfl ?_
      refine A_iload d_UF_first_39 rfl ?_
      refine A_cI [.ref 13, .int x4] [] (ct_UF_177 rfl) d_UF_first_41 rfl rfl (by decide) (Nat.le_of_ble_eq_true rfl) (rcA_o (c := 2) rfl (vA_s (by decide)) rfl (by decide) rfl) (ok_Dusk_firstDown (d := d) H) (fun r3 h2 H => ?_)
      refine A_istore [some (.ref 0), some (.int x1), some (.int x2), some (.int x3), some (.int x4), some (.int r3), none] d_UF_first_44 (by decide) rfl rfl ?_
      refine A_iload_n d_UF_first_46 rfl ?_
      refine A_iconst (-1) (by decide) d_UF_first_47 ?_
      refine A_icmp_eq 70 d_UF_first_48 (by decide) (fun z => ?_) (fun z => ?_)
      · have H := H.1 z
        exact r_UF_first_70  k19 _ _ _ _ _ _ H
      · have H := H.2 z
        refine A_iload_n d_UF_first_51 rfl ?_
        refine A_if_ne 64 d_UF_first_52 (by decide) (fun z => ?_) (fun z => ?_)
        · have H := H.1 z
          refine A_iload d_UF_first_64 rfl ?_
          refine A_iload_n d_UF_first_66 rfl ?_
          refine A_icmp_le 74 d_UF_first_67 (by decide) (fun z => ?_) (fun z => ?_)
          · have H := H.1 z
            exact r_UF_first_74  k19 _ _ _ _ _ _ H
          · have H := H.2 z
            exact r_UF_first_70  k19 _ _ _ _ _ _ H
        · have H := H.2 z
          refine A_iload d_UF_first_55 rfl ?_
          refine A_iload_n d_UF_first_57 rfl ?_
          refine A_icmp_ge 74 d_UF_first_58 (by decide) (fun z => ?_) (fun z => ?_)
          · have H := H.1 z
            exact r_UF_first_74  k19 _ _ _ _ _ _ H
          · have H := H.2 z
            refine A_goto 70 d_UF_first_61 (by decide) ?_
            exact r_UF_first_70  k19 _ _ _ _ _ _ H
set_option maxRecDepth 20000 in
theorem r_UF_first_0 {G : GG} {d : Nat} {Q : Int32 → AH → Prop} (x1 : Int32) (h : AH) (H : p_UF_first Q x1 h) : Att G T1 m_UF_first (d + 7) 0 [some (.ref 0), some (.int x1), none, none, none, none, none] [] h 0 0 (iQ Q) := by
  refine A_iload_n d_UF_first_0 rfl ?_
  refine A_iconst 0 (by decide) d_UF_first_1 ?_
  refine A_iconst 1 (by decide) d_UF_first_2 ?_
  refine A_cI [.int x1, .int 0, .int 1] [] (ct_UF_95 rfl) d_UF_first_3 rfl rfl (by decide) (Nat.le_of_ble_eq_true rfl) trivial (ok_UF_within (d := d + 6) H) (fun r2 h1 H => ?_)
  refine A_if_ne 12 d_UF_first_6 (by decide) (fun z => ?_) (fun z => ?_)
  · have H := H.1 z
    refine A_iconst (-1) (by decide) d_UF_first_12 ?_
    refine A_istore_n [some (.ref 0), some (.int x1), some (.int (-1)), none, none, none, none] d_UF_first_13 (by decide) rfl rfl ?_
    refine A_iconst (-1) (by decide) d_UF_first_14 ?_
    refine A_istore_n [some (.ref 0), some (.int x1), some (.int (-1)), some (.int (-1)), none, none, none] d_UF_first_15 (by decide) rfl rfl ?_
    refine A_iconst 0 (by decide) d_UF_first_16 ?_
    refine A_istore [some (.ref 0), some (.int x1), some (.int (-1)), some (.int (-1)), some (.int 0), none, none] d_UF_first_17 (by decide) rfl rfl ?_
    obtain ⟨n9, H⟩ := H
    exact r_UF_first_19   n9 _ _ _ _ _ H
  · have H := H.2 z
    refine A_bipush (-2) (by decide) d_UF_first_9 ?_
    exact A_iret d_UF_first_11 rfl rfl H
set_option maxRecDepth 20000 in
theorem ok_UF_first {G : GG} {d : Nat} {Q : Int32 → AH → Prop} {x1 : Int32} {h : AH} (H : p_UF_first Q x1 h) : WP G T1 m_UF_first (d + 7) [.ref 0, .int x1] h 0 0 (iQ Q) := by
  exact WP.enter 5 (by decide) rfl rfl (r_UF_first_0 x1 h H)
theorem d_UF_bring_0 : decode prog_1_method_15_code 0 = .ok (.aload_n 0, 1) := by decide +kernel
theorem d_UF_bring_1 : decode prog_1_method_15_code 1 = .ok (.iload_n 1, 1) := by decide +kernel
theorem d_UF_bring_2 : decode prog_1_method_15_code 2 = .ok (.invokevirtual 107, 3) := by decide +kernel
theorem d_UF_bring_5 : decode prog_1_method_15_code 5 = .ok (.ifCond .ne 6, 3) := by decide +kernel
theorem d_UF_bring_8 : decode prog_1_method_15_code 8 = .ok (.bipush (-5), 2) := by decide +kernel
theorem d_UF_bring_10 : decode prog_1_method_15_code 10 = .ok (.ireturn, 1) := by decide +kernel
theorem d_UF_bring_11 : decode prog_1_method_15_code 11 = .ok (.iload_n 2, 1) := by decide +kernel
theorem d_UF_bring_12 : decode prog_1_method_15_code 12 = .ok (.invokestatic 143, 3) := by decide +kernel
theorem d_UF_bring_15 : decode prog_1_method_15_code 15 = .ok (.ifCond .ne 6, 3) := by decide +kernel
theorem d_UF_bring_18 : decode prog_1_method_15_code 18 = .ok (.bipush (-7), 2) := by decide +kernel
theorem d_UF_bring_20 : decode prog_1_method_15_code 20 = .ok (.ireturn, 1) := by decide +kernel
theorem d_UF_bring_21 : decode prog_1_method_15_code 21 = .ok (.iconst 0, 1) := by decide +kernel
theorem d_UF_bring_22 : decode prog_1_method_15_code 22 = .ok (.istore_n 3, 1) := by decide +kernel
theorem d_UF_bring_23 : decode prog_1_method_15_code 23 = .ok (.iload_n 3, 1) := by decide +kernel
theorem d_UF_bring_24 : decode prog_1_method_15_code 24 = .ok (.bipush 20, 2) := by decide +kernel
theorem d_UF_bring_26 : decode prog_1_method_15_code 26 = .ok (.if_icmp .gt 53, 3) := by decide +kernel
theorem d_UF_bring_29 : decode prog_1_method_15_code 29 = .ok (.aload_n 0, 1) := by decide +kernel
theorem d_UF_bring_30 : decode prog_1_method_15_code 30 = .ok (.invokevirtual 110, 3) := by decide +kernel
theorem d_UF_bring_33 : decode prog_1_method_15_code 33 = .ok (.aload_n 0, 1) := by decide +kernel
theorem d_UF_bring_34 : decode prog_1_method_15_code 34 = .ok (.getfield 44, 3) := by decide +kernel
theorem d_UF_bring_37 : decode prog_1_method_15_code 37 = .ok (.getfield 149, 3) := by decide +kernel
theorem d_UF_bring_40 : decode prog_1_method_15_code 40 = .ok (.getfield 124, 3) := by decide +kernel
theorem d_UF_bring_43 : decode prog_1_method_15_code 43 = .ok (.iload_n 1, 1) := by decide +kernel
theorem d_UF_bring_44 : decode prog_1_method_15_code 44 = .ok (.dup2, 1) := by decide +kernel
theorem d_UF_bring_45 : decode prog_1_method_15_code 45 = .ok (.iaload, 1) := by decide +kernel
theorem d_UF_bring_46 : decode prog_1_method_15_code 46 = .ok (.iload_n 3, 1) := by decide +kernel
theorem d_UF_bring_47 : decode prog_1_method_15_code 47 = .ok (.iadd, 1) := by decide +kernel
theorem d_UF_bring_48 : decode prog_1_method_15_code 48 = .ok (.iastore, 1) := by decide +kernel
theorem d_UF_bring_49 : decode prog_1_method_15_code 49 = .ok (.aload_n 0, 1) := by decide +kernel
theorem d_UF_bring_50 : decode prog_1_method_15_code 50 = .ok (.getfield 44, 3) := by decide +kernel
theorem d_UF_bring_53 : decode prog_1_method_15_code 53 = .ok (.iload_n 2, 1) := by decide +kernel
theorem d_UF_bring_54 : decode prog_1_method_15_code 54 = .ok (.invokevirtual 146, 3) := by decide +kernel
theorem d_UF_bring_57 : decode prog_1_method_15_code 57 = .ok (.aload_n 0, 1) := by decide +kernel
theorem d_UF_bring_58 : decode prog_1_method_15_code 58 = .ok (.getfield 44, 3) := by decide +kernel
theorem d_UF_bring_61 : decode prog_1_method_15_code 61 = .ok (.getfield 149, 3) := by decide +kernel
theorem d_UF_bring_64 : decode prog_1_method_15_code 64 = .ok (.iload_n 1, 1) := by decide +kernel
theorem d_UF_bring_65 : decode prog_1_method_15_code 65 = .ok (.invokevirtual 181, 3) := by decide +kernel
theorem d_UF_bring_68 : decode prog_1_method_15_code 68 = .ok (.ifCond .eq 5, 3) := by decide +kernel
theorem d_UF_bring_71 : decode prog_1_method_15_code 71 = .ok (.iload_n 3, 1) := by decide +kernel
theorem d_UF_bring_72 : decode prog_1_method_15_code 72 = .ok (.ireturn, 1) := by decide +kernel
theorem d_UF_bring_73 : decode prog_1_method_15_code 73 = .ok (.iinc 3 1, 3) := by decide +kernel
theorem d_UF_bring_76 : decode prog_1_method_15_code 76 = .ok (.goto (-53), 3) := by decide +kernel
theorem d_UF_bring_79 : decode prog_1_method_15_code 79 = .ok (.iconst (-1), 1) := by decide +kernel
theorem d_UF_bring_80 : decode prog_1_method_15_code 80 = .ok (.ireturn, 1) := by decide +kernel
def p_UF_bring_23 (Q : Int32 → AH → Prop) : Nat → Int32 → Int32 → Int32 → AH → Prop
  | 0 => fun _ _ _ _ => False
  | n + 1 => fun x1 x2 x3 h => let K23 := p_UF_bring_23 Q n; ((20 < x3 → Q (-1) h) ∧ (¬ 20 < x3 → p_UF_ready (fun h1 => inb x1 7 ∧ p_Dusk_go (fun h3 => p_Town_isDown (fun r5 h4 => ((r5 = 0 → K23 x1 x2 (x3 + 1) h4) ∧ (¬ r5 = 0 → Q x3 h4))) 14 x1 h3) x2 (wI h1 16 x1 ((h1.1 16 x1) + x3))) h))
def p_UF_bring (Q : Int32 → AH → Prop) (x1 : Int32) (x2 : Int32) (h : AH) : Prop := p_UF_isHouse (fun r2 h1 => ((¬ r2 = 0 → p_UF_isSpan (fun r4 h3 => ((¬ r4 = 0 → ∃ n, p_UF_bring_23 Q   n x1 x2 0 h3) ∧ (r4 = 0 → Q (-7) h3))) x2 h1) ∧ (r2 = 0 → Q (-5) h1))) x1 h
set_option maxRecDepth 20000 in
theorem r_UF_bring_23 {G : GG} {d : Nat} {Q : Int32 → AH → Prop} : ∀ (n : Nat) (x1 : Int32) (x2 : Int32) (x3 : Int32) (h : AH), p_UF_bring_23 Q n x1 x2 x3 h → Att G T1 m_UF_bring (d + 7) 23 [some (.ref 0), some (.int x1), some (.int x2), some (.int x3)] [] h 0 0 (iQ Q) := by
  intro n
  induction n with
  | zero => intro x1 x2 x3 h H; exact H.elim
  | succ n k23 =>
    intro x1 x2 x3 h H
    refine A_iload_n d_UF_bring_23 rfl ?_
    refine A_bipush 20 (by decide) d_UF_bring_24 ?_
    refine A_icmp_gt 79 d_UF_bring_26 (by decide) (fun z => ?_) (fun z => ?_)
    · have H := H.1 z
      refine A_iconst (-1) (by decide) d_UF_bring_79 ?_
      exact A_iret d_UF_bring_80 rfl rfl H
    · have H := H.2 z
      refine A_aload_n d_UF_bring_29 rfl ?_
      refine A_cV [.ref 0] [] (ct_UF_110 rfl) d_UF_bring_30 rfl rfl (by decide) (Nat.le_of_ble_eq_true rfl) (rcA_o (c := 11) rfl (vA_s (by decide)) rfl (by decide) rfl) (ok_UF_ready (d := d + 3) H) (fun h1 H => ?_)
      refine A_aload_n d_UF_bring_33 rfl ?_
      refine A_get (v := .ref 13) d_UF_bring_34 (fo_UF_44_11 rfl) (vA_s (by decide)) rfl rfl ?_
      refine A_get (v := .ref 14) d_UF_bring_37 (fo_UF_149_2 rfl) (vA_s (by decide)) rfl rfl ?_
      refine A_get (v := .ref 16) d_UF_bring_40 (fo_UF_124_10 rfl) (vA_s (by decide)) rfl rfl ?_
      refine A_iload_n d_UF_bring_43 rfl ?_
      refine A_dup2 rfl rfl d_UF_bring_44 ?_
      obtain ⟨c2, H⟩ := H
      refine A_iald (n := 7) d_UF_bring_45 (vA_s (by decide)) rfl c2 ?_
      refine A_iload_n d_UF_bring_46 rfl ?_
      refine A_iadd d_UF_bring_47 ?_
      refine A_iast (n := 7) d_UF_bring_48 (vA_s (by decide)) rfl c2 ?_
      refine A_aload_n d_UF_bring_49 rfl ?_
      refine A_get (v := .ref 13) d_UF_bring_50 (fo_UF_44_11 rfl) (vA_s (by decide)) rfl rfl ?_
      refine A_iload_n d_UF_bring_53 rfl ?_
      refine A_cV [.ref 13, .int x2] [] (ct_UF_146 rfl) d_UF_bring_54 rfl rfl (by decide) (Nat.le_of_ble_eq_true rfl) (rcA_o (c := 2) rfl (vA_s (by decide)) rfl (by decide) rfl) (ok_Dusk_go (d := d) H) (fun h3 H => ?_)
      refine A_aload_n d_UF_bring_57 rfl ?_
      refine A_get (v := .ref 13) d_UF_bring_58 (fo_UF_44_11 rfl) (vA_s (by decide)) rfl rfl ?_
      refine A_get (v := .ref 14) d_UF_bring_61 (fo_UF_149_2 rfl) (vA_s (by decide)) rfl rfl ?_
      refine A_iload_n d_UF_bring_64 rfl ?_
      refine A_cI [.ref 14, .int x1] [] (ct_UF_181 rfl) d_UF_bring_65 rfl rfl (by decide) (Nat.le_of_ble_eq_true rfl) (rcA_o (c := 10) rfl (vA_s (by decide)) rfl (by decide) rfl) (ok_Town_isDown (d := d + 6) H) (fun r5 h4 H => ?_)
      refine A_if_eq 73 d_UF_bring_68 (by decide) (fun z => ?_) (fun z => ?_)
      · have H := H.1 z
        refine A_iinc 1 [some (.ref 0), some (.int x1), some (.int x2), some (.int (x3 + 1))] d_UF_bring_73 rfl (by decide) (by decide) rfl rfl ?_
        refine A_goto 23 d_UF_bring_76 (by decide) ?_
        exact k23 _ _ _ _ H
      · have H := H.2 z
        refine A_iload_n d_UF_bring_71 rfl ?_
        exact A_iret d_UF_bring_72 rfl rfl H
set_option maxRecDepth 20000 in
theorem r_UF_bring_0 {G : GG} {d : Nat} {Q : Int32 → AH → Prop} (x1 : Int32) (x2 : Int32) (h : AH) (H : p_UF_bring Q x1 x2 h) : Att G T1 m_UF_bring (d + 7) 0 [some (.ref 0), some (.int x1), some (.int x2), none] [] h 0 0 (iQ Q) := by
  refine A_aload_n d_UF_bring_0 rfl ?_
  refine A_iload_n d_UF_bring_1 rfl ?_
  refine A_cI [.ref 0, .int x1] [] (ct_UF_107 rfl) d_UF_bring_2 rfl rfl (by decide) (Nat.le_of_ble_eq_true rfl) (rcA_o (c := 11) rfl (vA_s (by decide)) rfl (by decide) rfl) (ok_UF_isHouse (d := d + 5) H) (fun r2 h1 H => ?_)
  refine A_if_ne 11 d_UF_bring_5 (by decide) (fun z => ?_) (fun z => ?_)
  · have H := H.1 z
    refine A_iload_n d_UF_bring_11 rfl ?_
    refine A_cI [.int x2] [] (ct_UF_143 rfl) d_UF_bring_12 rfl rfl (by decide) (Nat.le_of_ble_eq_true rfl) trivial (ok_UF_isSpan (d := d + 5) H) (fun r4 h3 H => ?_)
    refine A_if_ne 21 d_UF_bring_15 (by decide) (fun z => ?_) (fun z => ?_)
    · have H := H.1 z
      refine A_iconst 0 (by decide) d_UF_bring_21 ?_
      refine A_istore_n [some (.ref 0), some (.int x1), some (.int x2), some (.int 0)] d_UF_bring_22 (by decide) rfl rfl ?_
      obtain ⟨n9, H⟩ := H
      exact r_UF_bring_23   n9 _ _ _ _ H
    · have H := H.2 z
      refine A_bipush (-7) (by decide) d_UF_bring_18 ?_
      exact A_iret d_UF_bring_20 rfl rfl H
  · have H := H.2 z
    refine A_bipush (-5) (by decide) d_UF_bring_8 ?_
    exact A_iret d_UF_bring_10 rfl rfl H
set_option maxRecDepth 20000 in
theorem ok_UF_bring {G : GG} {d : Nat} {Q : Int32 → AH → Prop} {x1 : Int32} {x2 : Int32} {h : AH} (H : p_UF_bring Q x1 x2 h) : WP G T1 m_UF_bring (d + 7) [.ref 0, .int x1, .int x2] h 0 0 (iQ Q) := by
  exact WP.enter 1 (by decide) rfl rfl (r_UF_bring_0 x1 x2 h H)
theorem d_UF_weight_0 : decode prog_1_method_16_code 0 = .ok (.iload_n 1, 1) := by decide +kernel
theorem d_UF_weight_1 : decode prog_1_method_16_code 1 = .ok (.iconst 0, 1) := by decide +kernel
theorem d_UF_weight_2 : decode prog_1_method_16_code 2 = .ok (.bipush 20, 2) := by decide +kernel
theorem d_UF_weight_4 : decode prog_1_method_16_code 4 = .ok (.invokestatic 95, 3) := by decide +kernel
theorem d_UF_weight_7 : decode prog_1_method_16_code 7 = .ok (.ifCond .eq 19, 3) := by decide +kernel
theorem d_UF_weight_10 : decode prog_1_method_16_code 10 = .ok (.iload_n 2, 1) := by decide +kernel
theorem d_UF_weight_11 : decode prog_1_method_16_code 11 = .ok (.invokestatic 143, 3) := by decide +kernel
theorem d_UF_weight_14 : decode prog_1_method_16_code 14 = .ok (.ifCond .eq 12, 3) := by decide +kernel
theorem d_UF_weight_17 : decode prog_1_method_16_code 17 = .ok (.iload_n 3, 1) := by decide +kernel
theorem d_UF_weight_18 : decode prog_1_method_16_code 18 = .ok (.iconst 0, 1) := by decide +kernel
theorem d_UF_weight_19 : decode prog_1_method_16_code 19 = .ok (.iconst 1, 1) := by decide +kernel
theorem d_UF_weight_20 : decode prog_1_method_16_code 20 = .ok (.invokestatic 95, 3) := by decide +kernel
theorem d_UF_weight_23 : decode prog_1_method_16_code 23 = .ok (.ifCond .ne 6, 3) := by decide +kernel
theorem d_UF_weight_26 : decode prog_1_method_16_code 26 = .ok (.bipush (-2), 2) := by decide +kernel
theorem d_UF_weight_28 : decode prog_1_method_16_code 28 = .ok (.ireturn, 1) := by decide +kernel
theorem d_UF_weight_29 : decode prog_1_method_16_code 29 = .ok (.iconst (-1), 1) := by decide +kernel
theorem d_UF_weight_30 : decode prog_1_method_16_code 30 = .ok (.istore 4, 2) := by decide +kernel
theorem d_UF_weight_32 : decode prog_1_method_16_code 32 = .ok (.iconst (-1), 1) := by decide +kernel
theorem d_UF_weight_33 : decode prog_1_method_16_code 33 = .ok (.istore 5, 2) := by decide +kernel
theorem d_UF_weight_35 : decode prog_1_method_16_code 35 = .ok (.iconst 0, 1) := by decide +kernel
theorem d_UF_weight_36 : decode prog_1_method_16_code 36 = .ok (.istore 6, 2) := by decide +kernel
theorem d_UF_weight_38 : decode prog_1_method_16_code 38 = .ok (.iload 6, 2) := by decide +kernel
theorem d_UF_weight_40 : decode prog_1_method_16_code 40 = .ok (.aload_n 0, 1) := by decide +kernel
theorem d_UF_weight_41 : decode prog_1_method_16_code 41 = .ok (.getfield 34, 3) := by decide +kernel
theorem d_UF_weight_44 : decode prog_1_method_16_code 44 = .ok (.getfield 80, 3) := by decide +kernel
theorem d_UF_weight_47 : decode prog_1_method_16_code 47 = .ok (.if_icmp .ge 65, 3) := by decide +kernel
theorem d_UF_weight_50 : decode prog_1_method_16_code 50 = .ok (.aload_n 0, 1) := by decide +kernel
theorem d_UF_weight_51 : decode prog_1_method_16_code 51 = .ok (.invokevirtual 110, 3) := by decide +kernel
theorem d_UF_weight_54 : decode prog_1_method_16_code 54 = .ok (.aload_n 0, 1) := by decide +kernel
theorem d_UF_weight_55 : decode prog_1_method_16_code 55 = .ok (.getfield 44, 3) := by decide +kernel
theorem d_UF_weight_58 : decode prog_1_method_16_code 58 = .ok (.getfield 149, 3) := by decide +kernel
theorem d_UF_weight_61 : decode prog_1_method_16_code 61 = .ok (.getfield 124, 3) := by decide +kernel
theorem d_UF_weight_64 : decode prog_1_method_16_code 64 = .ok (.iload 6, 2) := by decide +kernel
theorem d_UF_weight_66 : decode prog_1_method_16_code 66 = .ok (.dup2, 1) := by decide +kernel
theorem d_UF_weight_67 : decode prog_1_method_16_code 67 = .ok (.iaload, 1) := by decide +kernel
theorem d_UF_weight_68 : decode prog_1_method_16_code 68 = .ok (.iload_n 1, 1) := by decide +kernel
theorem d_UF_weight_69 : decode prog_1_method_16_code 69 = .ok (.iadd, 1) := by decide +kernel
theorem d_UF_weight_70 : decode prog_1_method_16_code 70 = .ok (.iastore, 1) := by decide +kernel
theorem d_UF_weight_71 : decode prog_1_method_16_code 71 = .ok (.aload_n 0, 1) := by decide +kernel
theorem d_UF_weight_72 : decode prog_1_method_16_code 72 = .ok (.getfield 44, 3) := by decide +kernel
theorem d_UF_weight_75 : decode prog_1_method_16_code 75 = .ok (.iload_n 2, 1) := by decide +kernel
theorem d_UF_weight_76 : decode prog_1_method_16_code 76 = .ok (.invokevirtual 146, 3) := by decide +kernel
theorem d_UF_weight_79 : decode prog_1_method_16_code 79 = .ok (.aload_n 0, 1) := by decide +kernel
theorem d_UF_weight_80 : decode prog_1_method_16_code 80 = .ok (.getfield 44, 3) := by decide +kernel
theorem d_UF_weight_83 : decode prog_1_method_16_code 83 = .ok (.getfield 149, 3) := by decide +kernel
theorem d_UF_weight_86 : decode prog_1_method_16_code 86 = .ok (.invokevirtual 184, 3) := by decide +kernel
theorem d_UF_weight_89 : decode prog_1_method_16_code 89 = .ok (.istore 7, 2) := by decide +kernel
theorem d_UF_weight_91 : decode prog_1_method_16_code 91 = .ok (.iload 7, 2) := by decide +kernel
theorem d_UF_weight_93 : decode prog_1_method_16_code 93 = .ok (.iload 4, 2) := by decide +kernel
theorem d_UF_weight_95 : decode prog_1_method_16_code 95 = .ok (.if_icmp .le 11, 3) := by decide +kernel
theorem d_UF_weight_98 : decode prog_1_method_16_code 98 = .ok (.iload 7, 2) := by decide +kernel
theorem d_UF_weight_100 : decode prog_1_method_16_code 100 = .ok (.istore 4, 2) := by decide +kernel
theorem d_UF_weight_102 : decode prog_1_method_16_code 102 = .ok (.iload 6, 2) := by decide +kernel
theorem d_UF_weight_104 : decode prog_1_method_16_code 104 = .ok (.istore 5, 2) := by decide +kernel
theorem d_UF_weight_106 : decode prog_1_method_16_code 106 = .ok (.iinc 6 1, 3) := by decide +kernel
theorem d_UF_weight_109 : decode prog_1_method_16_code 109 = .ok (.goto (-71), 3) := by decide +kernel
theorem d_UF_weight_112 : decode prog_1_method_16_code 112 = .ok (.iload_n 3, 1) := by decide +kernel
theorem d_UF_weight_113 : decode prog_1_method_16_code 113 = .ok (.ifCond .ne 8, 3) := by decide +kernel
theorem d_UF_weight_116 : decode prog_1_method_16_code 116 = .ok (.iload 5, 2) := by decide +kernel
theorem d_UF_weight_118 : decode prog_1_method_16_code 118 = .ok (.goto 5, 3) := by decide +kernel
theorem d_UF_weight_121 : decode prog_1_method_16_code 121 = .ok (.iload 4, 2) := by decide +kernel
theorem d_UF_weight_123 : decode prog_1_method_16_code 123 = .ok (.ireturn, 1) := by decide +kernel
def p_UF_weight_106 (Q : Int32 → AH → Prop) (K38 : Int32 → Int32 → Int32 → Int32 → Int32 → Int32 → AH → Prop) (x1 : Int32) (x2 : Int32) (x3 : Int32) (x4 : Int32) (x5 : Int32) (x6 : Int32) (h : AH) : Prop := K38 x1 x2 x3 x4 x5 (x6 + 1) h
def p_UF_weight_38 (Q : Int32 → AH → Prop) : Nat → Int32 → Int32 → Int32 → Int32 → Int32 → Int32 → AH → Prop
  | 0 => fun _ _ _ _ _ _ _ => False
  | n + 1 => fun x1 x2 x3 x4 x5 x6 h => let K38 := p_UF_weight_38 Q n; (((h.1 5 3) ≤ x6 → ((¬ x3 = 0 → Q x4 h) ∧ (x3 = 0 → Q x5 h))) ∧ (¬ (h.1 5 3) ≤ x6 → p_UF_ready (fun h1 => inb x6 7 ∧ p_Dusk_go (fun h3 => p_Town_downCount (fun r5 h4 => ((r5 ≤ x4 → p_UF_weight_106 Q  K38 x1 x2 x3 x4 x5 x6 h4) ∧ (¬ r5 ≤ x4 → p_UF_weight_106 Q  K38 x1 x2 x3 r5 x6 x6 h4))) 14 h3) x2 (wI h1 16 x6 ((h1.1 16 x6) + x1))) h))
def p_UF_weight (Q : Int32 → AH → Prop) (x1 : Int32) (x2 : Int32) (x3 : Int32) (h : AH) : Prop := p_UF_within (fun r2 h1 => ((r2 = 0 → Q (-2) h1) ∧ (¬ r2 = 0 → p_UF_isSpan (fun r4 h3 => ((r4 = 0 → Q (-2) h3) ∧ (¬ r4 = 0 → p_UF_within (fun r6 h5 => ((¬ r6 = 0 → ∃ n, p_UF_weight_38 Q   n x1 x2 x3 (-1) (-1) 0 h5) ∧ (r6 = 0 → Q (-2) h5))) x3 0 1 h3))) x2 h1))) x1 0 20 h
set_option maxRecDepth 20000 in
theorem r_UF_weight_106 {G : GG} {d : Nat} {Q : Int32 → AH → Prop} {K38 : Int32 → Int32 → Int32 → Int32 → Int32 → Int32 → AH → Prop} (k38 : ∀ x1 x2 x3 x4 x5 x6 h, K38 x1 x2 x3 x4 x5 x6 h → Att G T1 m_UF_weight (d + 7) 38 [some (.ref 0), some (.int x1), some (.int x2), some (.int x3), some (.int x4), some (.int x5), some (.int x6), none] [] h 0 0 (iQ Q)) (x1 : Int32) (x2 : Int32) (x3 : Int32) (x4 : Int32) (x5 : Int32) (x6 : Int32) (h : AH) (H : p_UF_weight_106 Q K38 x1 x2 x3 x4 x5 x6 h) : Att G T1 m_UF_weight (d + 7) 106 [some (.ref 0), some (.int x1), some (.int x2), some (.int x3), some (.int x4), some (.int x5), some (.int x6), none] [] h 0 0 (iQ Q) := by
  refine A_iinc 1 [some (.ref 0), some (.int x1), some (.int x2), some (.int x3), some (.int x4), some (.int x5), some (.int (x6 + 1)), none] d_UF_weight_106 rfl (by decide) (by decide) rfl rfl ?_
  refine A_goto 38 d_UF_weight_109 (by decide) ?_
  exact k38 _ _ _ _ _ _ _ H
set_option maxRecDepth 20000 in
theorem r_UF_weight_38 {G : GG} {d : Nat} {Q : Int32 → AH → Prop} : ∀ (n : Nat) (x1 : Int32) (x2 : Int32) (x3 : Int32) (x4 : Int32) (x5 : Int32) (x6 : Int32) (h : AH), p_UF_weight_38 Q n x1 x2 x3 x4 x5 x6 h → Att G T1 m_UF_weight (d + 7) 38 [some (.ref 0), some (.int x1), some (.int x2), some (.int x3), some (.int x4), some (.int x5), some (.int x6), none] [] h 0 0 (iQ Q) := by
  intro n
  induction n with
  | zero => intro x1 x2 x3 x4 x5 x6 h H; exact H.elim
  | succ n k38 =>
    intro x1 x2 x3 x4 x5 x6 h H
    refine A_iload d_UF_weight_38 rfl ?_
    refine A_aload_n d_UF_weight_40 rfl ?_
    refine A_get (v := .ref 5) d_UF_weight_41 (fo_UF_34_11 rfl) (vA_s (by decide)) rfl rfl ?_
    refine A_get (v := .int (h.1 5 3)) d_UF_weight_44 (fo_UF_80_10 rfl) (vA_s (by decide)) rfl rfl ?_
    refine A_icmp_ge 112 d_UF_weight_47 (by decide) (fun z => ?_) (fun z => ?_)
    · have H := H.1 z
      refine A_iload_n d_UF_weight_112 rfl ?_
      refine A_if_ne 121 d_UF_weight_113 (by decide) (fun z => ?_) (fun z => ?_)
      · have H := H.1 z
        refine A_iload d_UF_weight_121 rfl ?_
        exact A_iret d_UF_weight_123 rfl rfl H
      · have H := H.2 z
        refine A_iload d_UF_weight_116 rfl ?_
        refine A_goto 123 d_UF_weight_118 (by decide) ?_
        exact A_iret d_UF_weight_123 rfl rfl H
    · have H := H.2 z
      refine A_aload_n d_UF_weight_50 rfl ?_
      refine A_cV [.ref 0] [] (ct_UF_110 rfl) d_UF_weight_51 rfl rfl (by decide) (Nat.le_of_ble_eq_true rfl) (rcA_o (c := 11) rfl (vA_s (by decide)) rfl (by decide) rfl) (ok_UF_ready (d := d + 3) H) (fun h1 H => ?_)
      refine A_aload_n d_UF_weight_54 rfl ?_
      refine A_get (v := .ref 13) d_UF_weight_55 (fo_UF_44_11 rfl) (vA_s (by decide)) rfl rfl ?_
      refine A_get (v := .ref 14) d_UF_weight_58 (fo_UF_149_2 rfl) (vA_s (by decide)) rfl rfl ?_
      refine A_get (v := .ref 16) d_UF_weight_61 (fo_UF_124_10 rfl) (vA_s (by decide)) rfl rfl ?_
      refine A_iload d_UF_weight_64 rfl ?_
      refine A_dup2 rfl rfl d_UF_weight_66 ?_
      obtain ⟨c2, H⟩ := H
      refine A_iald (n := 7) d_UF_weight_67 (vA_s (by decide)) rfl c2 ?_
      refine A_iload_n d_UF_weight_68 rfl ?_
      refine A_iadd d_UF_weight_69 ?_
      refine A_iast (n := 7) d_UF_weight_70 (vA_s (by decide)) rfl c2 ?_
      refine A_aload_n d_UF_weight_71 rfl ?_
      refine A_get (v := .ref 13) d_UF_weight_72 (fo_UF_44_11 rfl) (vA_s (by decide)) rfl rfl ?_
      refine A_iload_n d_UF_weight_75 rfl ?_
      refine A_cV [.ref 13, .int x2] [] (ct_UF_146 rfl) d_UF_weight_76 rfl rfl (by decide) (Nat.le_of_ble_eq_true rfl) (rcA_o (c := 2) rfl (vA_s (by decide)) rfl (by decide) rfl) (ok_Dusk_go (d := d) H) (fun h3 H => ?_)
      refine A_aload_n d_UF_weight_79 rfl ?_
      refine A_get (v := .ref 13) d_UF_weight_80 (fo_UF_44_11 rfl) (vA_s (by decide)) rfl rfl ?_
      refine A_get (v := .ref 14) d_UF_weight_83 (fo_UF_149_2 rfl) (vA_s (by decide)) rfl rfl ?_
      refine A_cI [.ref 14] [] (ct_UF_184 rfl) d_UF_weight_86 rfl rfl (by decide) (Nat.le_of_ble_eq_true rfl) (rcA_o (c := 10) rfl (vA_s (by decide)) rfl (by decide) rfl) (ok_Town_downCount (d := d + 4) H) (fun r5 h4 H => ?_)
      refine A_istore [some (.ref 0), some (.int x1), some (.int x2), some (.int x3), some (.int x4), some (.int x5), some (.int x6), some (.int r5)] d_UF_weight_89 (by decide) rfl rfl ?_
      refine A_iload d_UF_weight_91 rfl ?_
      refine A_iload d_UF_weight_93 rfl ?_
      refine A_icmp_le 106 d_UF_weight_95 (by decide) (fun z => ?_) (fun z => ?_)
      · have H := H.1 z
        refine A_sub (L' := [some (.ref 0), some (.int x1), some (.int x2), some (.int x3), some (.int x4), some (.int x5), some (.int x6), none]) ⟨rfl, rfl, rfl, rfl, rfl, rfl, rfl, trivial⟩ ?_
        exact r_UF_weight_106  k38 _ _ _ _ _ _ _ H
      · have H := H.2 z
        refine A_iload d_UF_weight_98 rfl ?_
        refine A_istore [some (.ref 0), some (.int x1), some (.int x2), some (.int x3), some (.int r5), some (.int x5), some (.int x6), some (.int r5)] d_UF_weight_100 (by decide) rfl rfl ?_
        refine A_iload d_UF_weight_102 rfl ?_
        refine A_istore [some (.ref 0), some (.int x1), some (.int x2), some (.int x3), some (.int r5), some (.int x6), some (.int x6), some (.int r5)] d_UF_weight_104 (by decide) rfl rfl ?_
        refine A_sub (L' := [some (.ref 0), some (.int x1), some (.int x2), some (.int x3), some (.int r5), some (.int x6), some (.int x6), none]) ⟨rfl, rfl, rfl, rfl, rfl, rfl, rfl, trivial⟩ ?_
        exact r_UF_weight_106  k38 _ _ _ _ _ _ _ H
set_option maxRecDepth 20000 in
theorem r_UF_weight_0 {G : GG} {d : Nat} {Q : Int32 → AH → Prop} (x1 : Int32) (x2 : Int32) (x3 : Int32) (h : AH) (H : p_UF_weight Q x1 x2 x3 h) : Att G T1 m_UF_weight (d + 7) 0 [some (.ref 0), some (.int x1), some (.int x2), some (.int x3), none, none, none, none] [] h 0 0 (iQ Q) := by
  refine A_iload_n d_UF_weight_0 rfl ?_
  refine A_iconst 0 (by decide) d_UF_weight_1 ?_
  refine A_bipush 20 (by decide) d_UF_weight_2 ?_
  refine A_cI [.int x1, .int 0, .int 20] [] (ct_UF_95 rfl) d_UF_weight_4 rfl rfl (by decide) (Nat.le_of_ble_eq_true rfl) trivial (ok_UF_within (d := d + 6) H) (fun r2 h1 H => ?_)
  refine A_if_eq 26 d_UF_weight_7 (by decide) (fun z => ?_) (fun z => ?_)
  · have H := H.1 z
    refine A_bipush (-2) (by decide) d_UF_weight_26 ?_
    exact A_iret d_UF_weight_28 rfl rfl H
  · have H := H.2 z
    refine A_iload_n d_UF_weight_10 rfl ?_
    refine A_cI [.int x2] [] (ct_UF_143 rfl) d_UF_weight_11 rfl rfl (by decide) (Nat.le_of_ble_eq_true rfl) trivial (ok_UF_isSpan (d := d + 5) H) (fun r4 h3 H => ?_)
    refine A_if_eq 26 d_UF_weight_14 (by decide) (fun z => ?_) (fun z => ?_)
    · have H := H.1 z
      refine A_bipush (-2) (by decide) d_UF_weight_26 ?_
      exact A_iret d_UF_weight_28 rfl rfl H
    · have H := H.2 z
      refine A_iload_n d_UF_weight_17 rfl ?_
      refine A_iconst 0 (by decide) d_UF_weight_18 ?_
      refine A_iconst 1 (by decide) d_UF_weight_19 ?_
      refine A_cI [.int x3, .int 0, .int 1] [] (ct_UF_95 rfl) d_UF_weight_20 rfl rfl (by decide) (Nat.le_of_ble_eq_true rfl) trivial (ok_UF_within (d := d + 6) H) (fun r6 h5 H => ?_)
      refine A_if_ne 29 d_UF_weight_23 (by decide) (fun z => ?_) (fun z => ?_)
      · have H := H.1 z
        refine A_iconst (-1) (by decide) d_UF_weight_29 ?_
        refine A_istore [some (.ref 0), some (.int x1), some (.int x2), some (.int x3), some (.int (-1)), none, none, none] d_UF_weight_30 (by decide) rfl rfl ?_
        refine A_iconst (-1) (by decide) d_UF_weight_32 ?_
        refine A_istore [some (.ref 0), some (.int x1), some (.int x2), some (.int x3), some (.int (-1)), some (.int (-1)), none, none] d_UF_weight_33 (by decide) rfl rfl ?_
        refine A_iconst 0 (by decide) d_UF_weight_35 ?_
        refine A_istore [some (.ref 0), some (.int x1), some (.int x2), some (.int x3), some (.int (-1)), some (.int (-1)), some (.int 0), none] d_UF_weight_36 (by decide) rfl rfl ?_
        obtain ⟨n9, H⟩ := H
        exact r_UF_weight_38   n9 _ _ _ _ _ _ _ H
      · have H := H.2 z
        refine A_bipush (-2) (by decide) d_UF_weight_26 ?_
        exact A_iret d_UF_weight_28 rfl rfl H
set_option maxRecDepth 20000 in
theorem ok_UF_weight {G : GG} {d : Nat} {Q : Int32 → AH → Prop} {x1 : Int32} {x2 : Int32} {x3 : Int32} {h : AH} (H : p_UF_weight Q x1 x2 x3 h) : WP G T1 m_UF_weight (d + 7) [.ref 0, .int x1, .int x2, .int x3] h 0 0 (iQ Q) := by
  exact WP.enter 4 (by decide) rfl rfl (r_UF_weight_0 x1 x2 x3 h H)
theorem d_UF_over_0 : decode prog_1_method_17_code 0 = .ok (.iload_n 1, 1) := by decide +kernel
theorem d_UF_over_1 : decode prog_1_method_17_code 1 = .ok (.invokestatic 143, 3) := by decide +kernel
theorem d_UF_over_4 : decode prog_1_method_17_code 4 = .ok (.ifCond .eq 12, 3) := by decide +kernel
theorem d_UF_over_7 : decode prog_1_method_17_code 7 = .ok (.iload_n 2, 1) := by decide +kernel
theorem d_UF_over_8 : decode prog_1_method_17_code 8 = .ok (.iconst 0, 1) := by decide +kernel
theorem d_UF_over_9 : decode prog_1_method_17_code 9 = .ok (.iconst 1, 1) := by decide +kernel
theorem d_UF_over_10 : decode prog_1_method_17_code 10 = .ok (.invokestatic 95, 3) := by decide +kernel
theorem d_UF_over_13 : decode prog_1_method_17_code 13 = .ok (.ifCond .ne 6, 3) := by decide +kernel
theorem d_UF_over_16 : decode prog_1_method_17_code 16 = .ok (.bipush (-2), 2) := by decide +kernel
theorem d_UF_over_18 : decode prog_1_method_17_code 18 = .ok (.ireturn, 1) := by decide +kernel
theorem d_UF_over_19 : decode prog_1_method_17_code 19 = .ok (.aload_n 0, 1) := by decide +kernel
theorem d_UF_over_20 : decode prog_1_method_17_code 20 = .ok (.invokevirtual 110, 3) := by decide +kernel
theorem d_UF_over_23 : decode prog_1_method_17_code 23 = .ok (.aload_n 0, 1) := by decide +kernel
theorem d_UF_over_24 : decode prog_1_method_17_code 24 = .ok (.getfield 44, 3) := by decide +kernel
theorem d_UF_over_27 : decode prog_1_method_17_code 27 = .ok (.iload_n 1, 1) := by decide +kernel
theorem d_UF_over_28 : decode prog_1_method_17_code 28 = .ok (.invokevirtual 146, 3) := by decide +kernel
theorem d_UF_over_31 : decode prog_1_method_17_code 31 = .ok (.aload_n 0, 1) := by decide +kernel
theorem d_UF_over_32 : decode prog_1_method_17_code 32 = .ok (.getfield 44, 3) := by decide +kernel
theorem d_UF_over_35 : decode prog_1_method_17_code 35 = .ok (.getfield 149, 3) := by decide +kernel
theorem d_UF_over_38 : decode prog_1_method_17_code 38 = .ok (.invokevirtual 184, 3) := by decide +kernel
theorem d_UF_over_41 : decode prog_1_method_17_code 41 = .ok (.istore_n 3, 1) := by decide +kernel
theorem d_UF_over_42 : decode prog_1_method_17_code 42 = .ok (.iconst (-1), 1) := by decide +kernel
theorem d_UF_over_43 : decode prog_1_method_17_code 43 = .ok (.istore 4, 2) := by decide +kernel
theorem d_UF_over_45 : decode prog_1_method_17_code 45 = .ok (.iconst 0, 1) := by decide +kernel
theorem d_UF_over_46 : decode prog_1_method_17_code 46 = .ok (.istore 5, 2) := by decide +kernel
theorem d_UF_over_48 : decode prog_1_method_17_code 48 = .ok (.iload 5, 2) := by decide +kernel
theorem d_UF_over_50 : decode prog_1_method_17_code 50 = .ok (.aload_n 0, 1) := by decide +kernel
theorem d_UF_over_51 : decode prog_1_method_17_code 51 = .ok (.getfield 34, 3) := by decide +kernel
theorem d_UF_over_54 : decode prog_1_method_17_code 54 = .ok (.getfield 80, 3) := by decide +kernel
theorem d_UF_over_57 : decode prog_1_method_17_code 57 = .ok (.if_icmp .ge 130, 3) := by decide +kernel
theorem d_UF_over_60 : decode prog_1_method_17_code 60 = .ok (.iconst 0, 1) := by decide +kernel
theorem d_UF_over_61 : decode prog_1_method_17_code 61 = .ok (.istore 6, 2) := by decide +kernel
theorem d_UF_over_63 : decode prog_1_method_17_code 63 = .ok (.iload 6, 2) := by decide +kernel
theorem d_UF_over_65 : decode prog_1_method_17_code 65 = .ok (.aload_n 0, 1) := by decide +kernel
theorem d_UF_over_66 : decode prog_1_method_17_code 66 = .ok (.getfield 34, 3) := by decide +kernel
theorem d_UF_over_69 : decode prog_1_method_17_code 69 = .ok (.getfield 80, 3) := by decide +kernel
theorem d_UF_over_72 : decode prog_1_method_17_code 72 = .ok (.if_icmp .ge 109, 3) := by decide +kernel
theorem d_UF_over_75 : decode prog_1_method_17_code 75 = .ok (.iload 5, 2) := by decide +kernel
theorem d_UF_over_77 : decode prog_1_method_17_code 77 = .ok (.iload 6, 2) := by decide +kernel
theorem d_UF_over_79 : decode prog_1_method_17_code 79 = .ok (.if_icmp .eq 96, 3) := by decide +kernel
theorem d_UF_over_82 : decode prog_1_method_17_code 82 = .ok (.aload_n 0, 1) := by decide +kernel
theorem d_UF_over_83 : decode prog_1_method_17_code 83 = .ok (.getfield 34, 3) := by decide +kernel
theorem d_UF_over_86 : decode prog_1_method_17_code 86 = .ok (.getfield 124, 3) := by decide +kernel
theorem d_UF_over_89 : decode prog_1_method_17_code 89 = .ok (.iload 5, 2) := by decide +kernel
theorem d_UF_over_91 : decode prog_1_method_17_code 91 = .ok (.iaload, 1) := by decide +kernel
theorem d_UF_over_92 : decode prog_1_method_17_code 92 = .ok (.ifCond .ne 6, 3) := by decide +kernel
theorem d_UF_over_95 : decode prog_1_method_17_code 95 = .ok (.goto 80, 3) := by decide +kernel
theorem d_UF_over_98 : decode prog_1_method_17_code 98 = .ok (.aload_n 0, 1) := by decide +kernel
theorem d_UF_over_99 : decode prog_1_method_17_code 99 = .ok (.invokevirtual 110, 3) := by decide +kernel
theorem d_UF_over_102 : decode prog_1_method_17_code 102 = .ok (.aload_n 0, 1) := by decide +kernel
theorem d_UF_over_103 : decode prog_1_method_17_code 103 = .ok (.getfield 44, 3) := by decide +kernel
theorem d_UF_over_106 : decode prog_1_method_17_code 106 = .ok (.getfield 149, 3) := by decide +kernel
theorem d_UF_over_109 : decode prog_1_method_17_code 109 = .ok (.getfield 124, 3) := by decide +kernel
theorem d_UF_over_112 : decode prog_1_method_17_code 112 = .ok (.iload 5, 2) := by decide +kernel
theorem d_UF_over_114 : decode prog_1_method_17_code 114 = .ok (.dup2, 1) := by decide +kernel
theorem d_UF_over_115 : decode prog_1_method_17_code 115 = .ok (.iaload, 1) := by decide +kernel
theorem d_UF_over_116 : decode prog_1_method_17_code 116 = .ok (.iconst 1, 1) := by decide +kernel
theorem d_UF_over_117 : decode prog_1_method_17_code 117 = .ok (.isub, 1) := by decide +kernel
theorem d_UF_over_118 : decode prog_1_method_17_code 118 = .ok (.iastore, 1) := by decide +kernel
theorem d_UF_over_119 : decode prog_1_method_17_code 119 = .ok (.aload_n 0, 1) := by decide +kernel
theorem d_UF_over_120 : decode prog_1_method_17_code 120 = .ok (.getfield 44, 3) := by decide +kernel
theorem d_UF_over_123 : decode prog_1_method_17_code 123 = .ok (.getfield 149, 3) := by decide +kernel
theorem d_UF_over_126 : decode prog_1_method_17_code 126 = .ok (.getfield 124, 3) := by decide +kernel
theorem d_UF_over_129 : decode prog_1_method_17_code 129 = .ok (.iload 6, 2) := by decide +kernel
theorem d_UF_over_131 : decode prog_1_method_17_code 131 = .ok (.dup2, 1) := by decide +kernel
theorem d_UF_over_132 : decode prog_1_method_17_code 132 = .ok (.iaload, 1) := by decide +kernel
theorem d_UF_over_133 : decode prog_1_method_17_code 133 = .ok (.iconst 1, 1) := by decide +kernel
theorem d_UF_over_134 : decode prog_1_method_17_code 134 = .ok (.iadd, 1) := by decide +kernel
theorem d_UF_over_135 : decode prog_1_method_17_code 135 = .ok (.iastore, 1) := by decide +kernel
theorem d_UF_over_136 : decode prog_1_method_17_code 136 = .ok (.aload_n 0, 1) := by decide +kernel
theorem d_UF_over_137 : decode prog_1_method_17_code 137 = .ok (.getfield 44, 3) := by decide +kernel
theorem d_UF_over_140 : decode prog_1_method_17_code 140 = .ok (.iload_n 1, 1) := by decide +kernel
theorem d_UF_over_141 : decode prog_1_method_17_code 141 = .ok (.invokevirtual 146, 3) := by decide +kernel
theorem d_UF_over_144 : decode prog_1_method_17_code 144 = .ok (.aload_n 0, 1) := by decide +kernel
theorem d_UF_over_145 : decode prog_1_method_17_code 145 = .ok (.getfield 44, 3) := by decide +kernel
theorem d_UF_over_148 : decode prog_1_method_17_code 148 = .ok (.getfield 149, 3) := by decide +kernel
theorem d_UF_over_151 : decode prog_1_method_17_code 151 = .ok (.invokevirtual 184, 3) := by decide +kernel
theorem d_UF_over_154 : decode prog_1_method_17_code 154 = .ok (.istore 7, 2) := by decide +kernel
theorem d_UF_over_156 : decode prog_1_method_17_code 156 = .ok (.iload 7, 2) := by decide +kernel
theorem d_UF_over_158 : decode prog_1_method_17_code 158 = .ok (.iload_n 3, 1) := by decide +kernel
theorem d_UF_over_159 : decode prog_1_method_17_code 159 = .ok (.if_icmp .le 16, 3) := by decide +kernel
theorem d_UF_over_162 : decode prog_1_method_17_code 162 = .ok (.iload 7, 2) := by decide +kernel
theorem d_UF_over_164 : decode prog_1_method_17_code 164 = .ok (.istore_n 3, 1) := by decide +kernel
theorem d_UF_over_165 : decode prog_1_method_17_code 165 = .ok (.bipush 10, 2) := by decide +kernel
theorem d_UF_over_167 : decode prog_1_method_17_code 167 = .ok (.iload 5, 2) := by decide +kernel
theorem d_UF_over_169 : decode prog_1_method_17_code 169 = .ok (.imul, 1) := by decide +kernel
theorem d_UF_over_170 : decode prog_1_method_17_code 170 = .ok (.iload 6, 2) := by decide +kernel
theorem d_UF_over_172 : decode prog_1_method_17_code 172 = .ok (.iadd, 1) := by decide +kernel
theorem d_UF_over_173 : decode prog_1_method_17_code 173 = .ok (.istore 4, 2) := by decide +kernel
theorem d_UF_over_175 : decode prog_1_method_17_code 175 = .ok (.iinc 6 1, 3) := by decide +kernel
theorem d_UF_over_178 : decode prog_1_method_17_code 178 = .ok (.goto (-115), 3) := by decide +kernel
theorem d_UF_over_181 : decode prog_1_method_17_code 181 = .ok (.iinc 5 1, 3) := by decide +kernel
theorem d_UF_over_184 : decode prog_1_method_17_code 184 = .ok (.goto (-136), 3) := by decide +kernel
theorem d_UF_over_187 : decode prog_1_method_17_code 187 = .ok (.iload_n 2, 1) := by decide +kernel
theorem d_UF_over_188 : decode prog_1_method_17_code 188 = .ok (.ifCond .ne 8, 3) := by decide +kernel
theorem d_UF_over_191 : decode prog_1_method_17_code 191 = .ok (.iload 4, 2) := by decide +kernel
theorem d_UF_over_193 : decode prog_1_method_17_code 193 = .ok (.goto 4, 3) := by decide +kernel
theorem d_UF_over_196 : decode prog_1_method_17_code 196 = .ok (.iload_n 3, 1) := by decide +kernel
theorem d_UF_over_197 : decode prog_1_method_17_code 197 = .ok (.ireturn, 1) := by decide +kernel
def p_UF_over_175 (Q : Int32 → AH → Prop) (K48 : Int32 → Int32 → Int32 → Int32 → Int32 → AH → Prop) (K63 : Int32 → Int32 → Int32 → Int32 → Int32 → Int32 → AH → Prop) (x1 : Int32) (x2 : Int32) (x3 : Int32) (x4 : Int32) (x5 : Int32) (x6 : Int32) (h : AH) : Prop := K63 x1 x2 x3 x4 x5 (x6 + 1) h
def p_UF_over_63 (Q : Int32 → AH → Prop) (K48 : Int32 → Int32 → Int32 → Int32 → Int32 → AH → Prop) : Nat → Int32 → Int32 → Int32 → Int32 → Int32 → Int32 → AH → Prop
  | 0 => fun _ _ _ _ _ _ _ => False
  | n + 1 => fun x1 x2 x3 x4 x5 x6 h => let K63 := p_UF_over_63 Q K48 n; (((h.1 5 3) ≤ x6 → K48 x1 x2 x3 x4 (x5 + 1) h) ∧ (¬ (h.1 5 3) ≤ x6 → ((x5 = x6 → p_UF_over_175 Q  K48 K63 x1 x2 x3 x4 x5 x6 h) ∧ (¬ x5 = x6 → inb x5 7 ∧ ((¬ (h.1 7 x5) = 0 → p_UF_ready (fun h2 => inb x5 7 ∧ inb x6 7 ∧ p_Dusk_go (fun h5 => p_Town_downCount (fun r7 h6 => ((r7 ≤ x3 → p_UF_over_175 Q  K48 K63 x1 x2 x3 x4 x5 x6 h6) ∧ (¬ r7 ≤ x3 → p_UF_over_175 Q  K48 K63 x1 x2 r7 ((10 * x5) + x6) x5 x6 h6))) 14 h5) x1 (wI (wI h2 16 x5 ((h2.1 16 x5) - 1)) 16 x6 (((wI h2 16 x5 ((h2.1 16 x5) - 1)).1 16 x6) + 1))) h) ∧ ((h.1 7 x5) = 0 → p_UF_over_175 Q  K48 K63 x1 x2 x3 x4 x5 x6 h))))))
def p_UF_over_48 (Q : Int32 → AH → Prop) : Nat → Int32 → Int32 → Int32 → Int32 → Int32 → AH → Prop
  | 0 => fun _ _ _ _ _ _ => False
  | n + 1 => fun x1 x2 x3 x4 x5 h => let K48 := p_UF_over_48 Q n; (((h.1 5 3) ≤ x5 → ((¬ x2 = 0 → Q x3 h) ∧ (x2 = 0 → Q x4 h))) ∧ (¬ (h.1 5 3) ≤ x5 → ∃ n, p_UF_over_63 Q  K48 n x1 x2 x3 x4 x5 0 h))
def p_UF_over (Q : Int32 → AH → Prop) (x1 : Int32) (x2 : Int32) (h : AH) : Prop := p_UF_isSpan (fun r2 h1 => ((r2 = 0 → Q (-2) h1) ∧ (¬ r2 = 0 → p_UF_within (fun r4 h3 => ((¬ r4 = 0 → p_UF_ready (fun h5 => p_Dusk_go (fun h6 => p_Town_downCount (fun r8 h7 => ∃ n, p_UF_over_48 Q   n x1 x2 r8 (-1) 0 h7) 14 h6) x1 h5) h3) ∧ (r4 = 0 → Q (-2) h3))) x2 0 1 h1))) x1 h
set_option maxRecDepth 20000 in
theorem r_UF_over_175 {G : GG} {d : Nat} {Q : Int32 → AH → Prop} {K48 : Int32 → Int32 → Int32 → Int32 → Int32 → AH → Prop} {K63 : Int32 → Int32 → Int32 → Int32 → Int32 → Int32 → AH → Prop} (k48 : ∀ x1 x2 x3 x4 x5 h, K48 x1 x2 x3 x4 x5 h → Att G T1 m_UF_over (d + 7) 48 [some (.ref 0), some (.int x1), some (.int x2), some (.int x3), some (.int x4), some (.int x5), none, none] [] h 0 0 (iQ Q)) (k63 : ∀ x1 x2 x3 x4 x5 x6 h, K63 x1 x2 x3 x4 x5 x6 h → Att G T1 m_UF_over (d + 7) 63 [some (.ref 0), some (.int x1), some (.int x2), some (.int x3), some (.int x4), some (.int x5), some (.int x6), none] [] h 0 0 (iQ Q)) (x1 : Int32) (x2 : Int32) (x3 : Int32) (x4 : Int32) (x5 : Int32) (x6 : Int32) (h : AH) (H : p_UF_over_175 Q K48 K63 x1 x2 x3 x4 x5 x6 h) : Att G T1 m_UF_over (d + 7) 175 [some (.ref 0), some (.int x1), some (.int x2), some (.int x3), some (.int x4), some (.int x5), some (.int x6), none] [] h 0 0 (iQ Q) := by
  refine A_iinc 1 [some (.ref 0), some (.int x1), some (.int x2), some (.int x3), some (.int x4), some (.int x5), some (.int (x6 + 1)), none] d_UF_over_175 rfl (by decide) (by decide) rfl rfl ?_
  refine A_goto 63 d_UF_over_178 (by decide) ?_
  exact k63 _ _ _ _ _ _ _ H
set_option maxRecDepth 20000 in
theorem r_UF_over_63 {G : GG} {d : Nat} {Q : Int32 → AH → Prop} {K48 : Int32 → Int32 → Int32 → Int32 → Int32 → AH → Prop} (k48 : ∀ x1 x2 x3 x4 x5 h, K48 x1 x2 x3 x4 x5 h → Att G T1 m_UF_over (d + 7) 48 [some (.ref 0), some (.int x1), some (.int x2), some (.int x3), some (.int x4), some (.int x5), none, none] [] h 0 0 (iQ Q)) : ∀ (n : Nat) (x1 : Int32) (x2 : Int32) (x3 : Int32) (x4 : Int32) (x5 : Int32) (x6 : Int32) (h : AH), p_UF_over_63 Q K48 n x1 x2 x3 x4 x5 x6 h → Att G T1 m_UF_over (d + 7) 63 [some (.ref 0), some (.int x1), some (.int x2), some (.int x3), some (.int x4), some (.int x5), some (.int x6), none] [] h 0 0 (iQ Q) := by
  intro n
  induction n with
  | zero => intro x1 x2 x3 x4 x5 x6 h H; exact H.elim
  | succ n k63 =>
    intro x1 x2 x3 x4 x5 x6 h H
    refine A_iload d_UF_over_63 rfl ?_
    refine A_aload_n d_UF_over_65 rfl ?_
    refine A_get (v := .ref 5) d_UF_over_66 (fo_UF_34_11 rfl) (vA_s (by decide)) rfl rfl ?_
    refine A_get (v := .int (h.1 5 3)) d_UF_over_69 (fo_UF_80_10 rfl) (vA_s (by decide)) rfl rfl ?_
    refine A_icmp_ge 181 d_UF_over_72 (by decide) (fun z => ?_) (fun z => ?_)
    · have H := H.1 z
      refine A_iinc 1 [some (.ref 0), some (.int x1), some (.int x2), some (.int x3), some (.int x4), some (.int (x5 + 1)), some (.int x6), none] d_UF_over_181 rfl (by decide) (by decide) rfl rfl ?_
      refine A_goto 48 d_UF_over_184 (by decide) ?_
      refine A_sub (L' := [some (.ref 0), some (.int x1), some (.int x2), some (.int x3), some (.int x4), some (.int (x5 + 1)), none, none]) ⟨rfl, rfl, rfl, rfl, rfl, rfl, trivial⟩ ?_
      exact k48 _ _ _ _ _ _ H
    · have H := H.2 z
      refine A_iload d_UF_over_75 rfl ?_
      refine A_iload d_UF_over_77 rfl ?_
      refine A_icmp_eq 175 d_UF_over_79 (by decide) (fun z => ?_) (fun z => ?_)
      · have H := H.1 z
        exact r_UF_over_175  k48 k63 _ _ _ _ _ _ _ H
      · have H := H.2 z
        refine A_aload_n d_UF_over_82 rfl ?_
        refine A_get (v := .ref 5) d_UF_over_83 (fo_UF_34_11 rfl) (vA_s (by decide)) rfl rfl ?_
        refine A_get (v := .ref 7) d_UF_over_86 (fo_UF_124_10 rfl) (vA_s (by decide)) rfl rfl ?_
        refine A_iload d_UF_over_89 rfl ?_
        obtain ⟨c1, H⟩ := H
        refine A_iald (n := 7) d_UF_over_91 (vA_s (by decide)) rfl c1 ?_
        refine A_if_ne 98 d_UF_over_92 (by decide) (fun z => ?_) (fun z => ?_)
        · have H := H.1 z
          refine A_aload_n d_UF_over_98 rfl ?_
          refine A_cV [.ref 0] [] (ct_UF_110 rfl) d_UF_over_99 rfl rfl (by decide) (Nat.le_of_ble_eq_true rfl) (rcA_o (c := 11) rfl (vA_s (by decide)) rfl (by decide) rfl) (ok_UF_ready (d := d + 3) H) (fun h2 H => ?_)
          refine A_aload_n d_UF_over_102 rfl ?_
          refine A_get (v := .ref 13) d_UF_over_103 (fo_UF_44_11 rfl) (vA_s (by decide)) rfl rfl ?_
          refine A_get (v := .ref 14) d_UF_over_106 (fo_UF_149_2 rfl) (vA_s (by decide)) rfl rfl ?_
          refine A_get (v := .ref 16) d_UF_over_109 (fo_UF_124_10 rfl) (vA_s (by decide)) rfl rfl ?_
          refine A_iload d_UF_over_112 rfl ?_
          refine A_dup2 rfl rfl d_UF_over_114 ?_
          obtain ⟨c3, H⟩ := H
          refine A_iald (n := 7) d_UF_over_115 (vA_s (by decide)) rfl c3 ?_
          refine A_iconst 1 (by decide) d_UF_over_116 ?_
          refine A_isub d_UF_over_117 ?_
          refine A_iast (n := 7) d_UF_over_118 (vA_s (by decide)) rfl c3 ?_
          refine A_aload_n d_UF_over_119 rfl ?_
          refine A_get (v := .ref 13) d_UF_over_120 (fo_UF_44_11 rfl) (vA_s (by decide)) rfl rfl ?_
          refine A_get (v := .ref 14) d_UF_over_123 (fo_UF_149_2 rfl) (vA_s (by decide)) rfl rfl ?_
          refine A_get (v := .ref 16) d_UF_over_126 (fo_UF_124_10 rfl) (vA_s (by decide)) rfl rfl ?_
          refine A_iload d_UF_over_129 rfl ?_
          refine A_dup2 rfl rfl d_UF_over_131 ?_
          obtain ⟨c4, H⟩ := H
          refine A_iald (n := 7) d_UF_over_132 (vA_s (by decide)) rfl c4 ?_
          refine A_iconst 1 (by decide) d_UF_over_133 ?_
          refine A_iadd d_UF_over_134 ?_
          refine A_iast (n := 7) d_UF_over_135 (vA_s (by decide)) rfl c4 ?_
          refine A_aload_n d_UF_over_136 rfl ?_
          refine A_get (v := .ref 13) d_UF_over_137 (fo_UF_44_11 rfl) (vA_s (by decide)) rfl rfl ?_
          refine A_iload_n d_UF_over_140 rfl ?_
          refine A_cV [.ref 13, .int x1] [] (ct_UF_146 rfl) d_UF_over_141 rfl rfl (by decide) (Nat.le_of_ble_eq_true rfl) (rcA_o (c := 2) rfl (vA_s (by decide)) rfl (by decide) rfl) (ok_Dusk_go (d := d) H) (fun h5 H => ?_)
          refine A_aload_n d_UF_over_144 rfl ?_
          refine A_get (v := .ref 13) d_UF_over_145 (fo_UF_44_11 rfl) (vA_s (by decide)) rfl rfl ?_
          refine A_get (v := .ref 14) d_UF_over_148 (fo_UF_149_2 rfl) (vA_s (by decide)) rfl rfl ?_
          refine A_cI [.ref 14] [] (ct_UF_184 rfl) d_UF_over_151 rfl rfl (by decide) (Nat.le_of_ble_eq_true rfl) (rcA_o (c := 10) rfl (vA_s (by decide)) rfl (by decide) rfl) (ok_Town_downCount (d := d + 4) H) (fun r7 h6 H => ?_)
          refine A_istore [some (.ref 0), some (.int x1), some (.int x2), some (.int x3), some (.int x4), some (.int x5), some (.int x6), some (.int r7)] d_UF_over_154 (by decide) rfl rfl ?_
          refine A_iload d_UF_over_156 rfl ?_
          refine A_iload_n d_UF_over_158 rfl ?_
          refine A_icmp_le 175 d_UF_over_159 (by decide) (fun z => ?_) (fun z => ?_)
          · have H := H.1 z
            refine A_sub (L' := [some (.ref 0), some (.int x1), some (.int x2), some (.int x3), some (.int x4), some (.int x5), some (.int x6), none]) ⟨rfl, rfl, rfl, rfl, rfl, rfl, rfl, trivial⟩ ?_
            exact r_UF_over_175  k48 k63 _ _ _ _ _ _ _ H
          · have H := H.2 z
            refine A_iload d_UF_over_162 rfl ?_
            refine A_istore_n [some (.ref 0), some (.int x1), some (.int x2), some (.int r7), some (.int x4), some (.int x5), some (.int x6), some (.int r7)] d_UF_over_164 (by decide) rfl rfl ?_
            refine A_bipush 10 (by decide) d_UF_over_165 ?_
            refine A_iload d_UF_over_167 rfl ?_
            refine A_imul d_UF_over_169 ?_
            refine A_iload d_UF_over_170 rfl ?_
            refine A_iadd d_UF_over_172 ?_
            refine A_istore [some (.ref 0), some (.int x1), some (.int x2), some (.int r7), some (.int ((10 * x5) + x6)), some (.int x5), some (.int x6), some (.int r7)] d_UF_over_173 (by decide) rfl rfl ?_
            refine A_sub (L' := [some (.ref 0), some (.int x1), some (.int x2), some (.int r7), some (.int ((10 * x5) + x6)), some (.int x5), some (.int x6), none]) ⟨rfl, rfl, rfl, rfl, rfl, rfl, rfl, trivial⟩ ?_
            exact r_UF_over_175  k48 k63 _ _ _ _ _ _ _ H
        · have H := H.2 z
          refine A_goto 175 d_UF_over_95 (by decide) ?_
          exact r_UF_over_175  k48 k63 _ _ _ _ _ _ _ H
set_option maxRecDepth 20000 in
theorem r_UF_over_48 {G : GG} {d : Nat} {Q : Int32 → AH → Prop} : ∀ (n : Nat) (x1 : Int32) (x2 : Int32) (x3 : Int32) (x4 : Int32) (x5 : Int32) (h : AH), p_UF_over_48 Q n x1 x2 x3 x4 x5 h → Att G T1 m_UF_over (d + 7) 48 [some (.ref 0), some (.int x1), some (.int x2), some (.int x3), some (.int x4), some (.int x5), none, none] [] h 0 0 (iQ Q) := by
  intro n
  induction n with
  | zero => intro x1 x2 x3 x4 x5 h H; exact H.elim
  | succ n k48 =>
    intro x1 x2 x3 x4 x5 h H
    refine A_iload d_UF_over_48 rfl ?_
    refine A_aload_n d_UF_over_50 rfl ?_
    refine A_get (v := .ref 5) d_UF_over_51 (fo_UF_34_11 rfl) (vA_s (by decide)) rfl rfl ?_
    refine A_get (v := .int (h.1 5 3)) d_UF_over_54 (fo_UF_80_10 rfl) (vA_s (by decide)) rfl rfl ?_
    refine A_icmp_ge 187 d_UF_over_57 (by decide) (fun z => ?_) (fun z => ?_)
    · have H := H.1 z
      refine A_iload_n d_UF_over_187 rfl ?_
      refine A_if_ne 196 d_UF_over_188 (by decide) (fun z => ?_) (fun z => ?_)
      · have H := H.1 z
        refine A_iload_n d_UF_over_196 rfl ?_
        exact A_iret d_UF_over_197 rfl rfl H
      · have H := H.2 z
        refine A_iload d_UF_over_191 rfl ?_
        refine A_goto 197 d_UF_over_193 (by decide) ?_
        exact A_iret d_UF_over_197 rfl rfl H
    · have H := H.2 z
      refine A_iconst 0 (by decide) d_UF_over_60 ?_
      refine A_istore [some (.ref 0), some (.int x1), some (.int x2), some (.int x3), some (.int x4), some (.int x5), some (.int 0), none] d_UF_over_61 (by decide) rfl rfl ?_
      obtain ⟨n9, H⟩ := H
      exact r_UF_over_63  k48 n9 _ _ _ _ _ _ _ H
set_option maxRecDepth 20000 in
theorem r_UF_over_0 {G : GG} {d : Nat} {Q : Int32 → AH → Prop} (x1 : Int32) (x2 : Int32) (h : AH) (H : p_UF_over Q x1 x2 h) : Att G T1 m_UF_over (d + 7) 0 [some (.ref 0), some (.int x1), some (.int x2), none, none, none, none, none] [] h 0 0 (iQ Q) := by
  refine A_iload_n d_UF_over_0 rfl ?_
  refine A_cI [.int x1] [] (ct_UF_143 rfl) d_UF_over_1 rfl rfl (by decide) (Nat.le_of_ble_eq_true rfl) trivial (ok_UF_isSpan (d := d + 5) H) (fun r2 h1 H => ?_)
  refine A_if_eq 16 d_UF_over_4 (by decide) (fun z => ?_) (fun z => ?_)
  · have H := H.1 z
    refine A_bipush (-2) (by decide) d_UF_over_16 ?_
    exact A_iret d_UF_over_18 rfl rfl H
  · have H := H.2 z
    refine A_iload_n d_UF_over_7 rfl ?_
    refine A_iconst 0 (by decide) d_UF_over_8 ?_
    refine A_iconst 1 (by decide) d_UF_over_9 ?_
    refine A_cI [.int x2, .int 0, .int 1] [] (ct_UF_95 rfl) d_UF_over_10 rfl rfl (by decide) (Nat.le_of_ble_eq_true rfl) trivial (ok_UF_within (d := d + 6) H) (fun r4 h3 H => ?_)
    refine A_if_ne 19 d_UF_over_13 (by decide) (fun z => ?_) (fun z => ?_)
    · have H := H.1 z
      refine A_aload_n d_UF_over_19 rfl ?_
      refine A_cV [.ref 0] [] (ct_UF_110 rfl) d_UF_over_20 rfl rfl (by decide) (Nat.le_of_ble_eq_true rfl) (rcA_o (c := 11) rfl (vA_s (by decide)) rfl (by decide) rfl) (ok_UF_ready (d := d + 3) H) (fun h5 H => ?_)
      refine A_aload_n d_UF_over_23 rfl ?_
      refine A_get (v := .ref 13) d_UF_over_24 (fo_UF_44_11 rfl) (vA_s (by decide)) rfl rfl ?_
      refine A_iload_n d_UF_over_27 rfl ?_
      refine A_cV [.ref 13, .int x1] [] (ct_UF_146 rfl) d_UF_over_28 rfl rfl (by decide) (Nat.le_of_ble_eq_true rfl) (rcA_o (c := 2) rfl (vA_s (by decide)) rfl (by decide) rfl) (ok_Dusk_go (d := d) H) (fun h6 H => ?_)
      refine A_aload_n d_UF_over_31 rfl ?_
      refine A_get (v := .ref 13) d_UF_over_32 (fo_UF_44_11 rfl) (vA_s (by decide)) rfl rfl ?_
      refine A_get (v := .ref 14) d_UF_over_35 (fo_UF_149_2 rfl) (vA_s (by decide)) rfl rfl ?_
      refine A_cI [.ref 14] [] (ct_UF_184 rfl) d_UF_over_38 rfl rfl (by decide) (Nat.le_of_ble_eq_true rfl) (rcA_o (c := 10) rfl (vA_s (by decide)) rfl (by decide) rfl) (ok_Town_downCount (d := d + 4) H) (fun r8 h7 H => ?_)
      refine A_istore_n [some (.ref 0), some (.int x1), some (.int x2), some (.int r8), none, none, none, none] d_UF_over_41 (by decide) rfl rfl ?_
      refine A_iconst (-1) (by decide) d_UF_over_42 ?_
      refine A_istore [some (.ref 0), some (.int x1), some (.int x2), some (.int r8), some (.int (-1)), none, none, none] d_UF_over_43 (by decide) rfl rfl ?_
      refine A_iconst 0 (by decide) d_UF_over_45 ?_
      refine A_istore [some (.ref 0), some (.int x1), some (.int x2), some (.int r8), some (.int (-1)), some (.int 0), none, none] d_UF_over_46 (by decide) rfl rfl ?_
      obtain ⟨n9, H⟩ := H
      exact r_UF_over_48   n9 _ _ _ _ _ _ H
    · have H := H.2 z
      refine A_bipush (-2) (by decide) d_UF_over_16 ?_
      exact A_iret d_UF_over_18 rfl rfl H
set_option maxRecDepth 20000 in
theorem ok_UF_over {G : GG} {d : Nat} {Q : Int32 → AH → Prop} {x1 : Int32} {x2 : Int32} {h : AH} (H : p_UF_over Q x1 x2 h) : WP G T1 m_UF_over (d + 7) [.ref 0, .int x1, .int x2] h 0 0 (iQ Q) := by
  exact WP.enter 5 (by decide) rfl rfl (r_UF_over_0 x1 x2 h H)
theorem d_UF_link_0 : decode prog_1_method_18_code 0 = .ok (.iload_n 1, 1) := by decide +kernel
theorem d_UF_link_1 : decode prog_1_method_18_code 1 = .ok (.invokestatic 143, 3) := by decide +kernel
theorem d_UF_link_4 : decode prog_1_method_18_code 4 = .ok (.ifCond .eq 12, 3) := by decide +kernel
theorem d_UF_link_7 : decode prog_1_method_18_code 7 = .ok (.iload_n 2, 1) := by decide +kernel
theorem d_UF_link_8 : decode prog_1_method_18_code 8 = .ok (.iconst 0, 1) := by decide +kernel
theorem d_UF_link_9 : decode prog_1_method_18_code 9 = .ok (.iconst 1, 1) := by decide +kernel
theorem d_UF_link_10 : decode prog_1_method_18_code 10 = .ok (.invokestatic 95, 3) := by decide +kernel
theorem d_UF_link_13 : decode prog_1_method_18_code 13 = .ok (.ifCond .ne 6, 3) := by decide +kernel
theorem d_UF_link_16 : decode prog_1_method_18_code 16 = .ok (.bipush (-2), 2) := by decide +kernel
theorem d_UF_link_18 : decode prog_1_method_18_code 18 = .ok (.ireturn, 1) := by decide +kernel
theorem d_UF_link_19 : decode prog_1_method_18_code 19 = .ok (.aload_n 0, 1) := by decide +kernel
theorem d_UF_link_20 : decode prog_1_method_18_code 20 = .ok (.invokevirtual 110, 3) := by decide +kernel
theorem d_UF_link_23 : decode prog_1_method_18_code 23 = .ok (.aload_n 0, 1) := by decide +kernel
theorem d_UF_link_24 : decode prog_1_method_18_code 24 = .ok (.getfield 44, 3) := by decide +kernel
theorem d_UF_link_27 : decode prog_1_method_18_code 27 = .ok (.iload_n 1, 1) := by decide +kernel
theorem d_UF_link_28 : decode prog_1_method_18_code 28 = .ok (.invokevirtual 146, 3) := by decide +kernel
theorem d_UF_link_31 : decode prog_1_method_18_code 31 = .ok (.aload_n 0, 1) := by decide +kernel
theorem d_UF_link_32 : decode prog_1_method_18_code 32 = .ok (.getfield 44, 3) := by decide +kernel
theorem d_UF_link_35 : decode prog_1_method_18_code 35 = .ok (.getfield 149, 3) := by decide +kernel
theorem d_UF_link_38 : decode prog_1_method_18_code 38 = .ok (.invokevirtual 184, 3) := by decide +kernel
theorem d_UF_link_41 : decode prog_1_method_18_code 41 = .ok (.istore_n 3, 1) := by decide +kernel
theorem d_UF_link_42 : decode prog_1_method_18_code 42 = .ok (.iconst (-1), 1) := by decide +kernel
theorem d_UF_link_43 : decode prog_1_method_18_code 43 = .ok (.istore 4, 2) := by decide +kernel
theorem d_UF_link_45 : decode prog_1_method_18_code 45 = .ok (.iconst 0, 1) := by decide +kernel
theorem d_UF_link_46 : decode prog_1_method_18_code 46 = .ok (.istore 5, 2) := by decide +kernel
theorem d_UF_link_48 : decode prog_1_method_18_code 48 = .ok (.iload 5, 2) := by decide +kernel
theorem d_UF_link_50 : decode prog_1_method_18_code 50 = .ok (.aload_n 0, 1) := by decide +kernel
theorem d_UF_link_51 : decode prog_1_method_18_code 51 = .ok (.getfield 34, 3) := by decide +kernel
theorem d_UF_link_54 : decode prog_1_method_18_code 54 = .ok (.getfield 80, 3) := by decide +kernel
theorem d_UF_link_57 : decode prog_1_method_18_code 57 = .ok (.if_icmp .ge 90, 3) := by decide +kernel
theorem d_UF_link_60 : decode prog_1_method_18_code 60 = .ok (.iload 5, 2) := by decide +kernel
theorem d_UF_link_62 : decode prog_1_method_18_code 62 = .ok (.iconst 1, 1) := by decide +kernel
theorem d_UF_link_63 : decode prog_1_method_18_code 63 = .ok (.iadd, 1) := by decide +kernel
theorem d_UF_link_64 : decode prog_1_method_18_code 64 = .ok (.istore 6, 2) := by decide +kernel
theorem d_UF_link_66 : decode prog_1_method_18_code 66 = .ok (.iload 6, 2) := by decide +kernel
theorem d_UF_link_68 : decode prog_1_method_18_code 68 = .ok (.aload_n 0, 1) := by decide +kernel
theorem d_UF_link_69 : decode prog_1_method_18_code 69 = .ok (.getfield 34, 3) := by decide +kernel
theorem d_UF_link_72 : decode prog_1_method_18_code 72 = .ok (.getfield 80, 3) := by decide +kernel
theorem d_UF_link_75 : decode prog_1_method_18_code 75 = .ok (.if_icmp .ge 66, 3) := by decide +kernel
theorem d_UF_link_78 : decode prog_1_method_18_code 78 = .ok (.aload_n 0, 1) := by decide +kernel
theorem d_UF_link_79 : decode prog_1_method_18_code 79 = .ok (.invokevirtual 110, 3) := by decide +kernel
theorem d_UF_link_82 : decode prog_1_method_18_code 82 = .ok (.aload_n 0, 1) := by decide +kernel
theorem d_UF_link_83 : decode prog_1_method_18_code 83 = .ok (.getfield 44, 3) := by decide +kernel
theorem d_UF_link_86 : decode prog_1_method_18_code 86 = .ok (.getfield 149, 3) := by decide +kernel
theorem d_UF_link_89 : decode prog_1_method_18_code 89 = .ok (.iload 5, 2) := by decide +kernel
theorem d_UF_link_91 : decode prog_1_method_18_code 91 = .ok (.iload 6, 2) := by decide +kernel
theorem d_UF_link_93 : decode prog_1_method_18_code 93 = .ok (.invokevirtual 130, 3) := by decide +kernel
theorem d_UF_link_96 : decode prog_1_method_18_code 96 = .ok (.aload_n 0, 1) := by decide +kernel
theorem d_UF_link_97 : decode prog_1_method_18_code 97 = .ok (.getfield 44, 3) := by decide +kernel
theorem d_UF_link_100 : decode prog_1_method_18_code 100 = .ok (.iload_n 1, 1) := by decide +kernel
theorem d_UF_link_101 : decode prog_1_method_18_code 101 = .ok (.invokevirtual 146, 3) := by decide +kernel
theorem d_UF_link_104 : decode prog_1_method_18_code 104 = .ok (.aload_n 0, 1) := by decide +kernel
theorem d_UF_link_105 : decode prog_1_method_18_code 105 = .ok (.getfield 44, 3) := by decide +kernel
theorem d_UF_link_108 : decode prog_1_method_18_code 108 = .ok (.getfield 149, 3) := by decide +kernel
theorem d_UF_link_111 : decode prog_1_method_18_code 111 = .ok (.invokevirtual 184, 3) := by decide +kernel
theorem d_UF_link_114 : decode prog_1_method_18_code 114 = .ok (.istore 7, 2) := by decide +kernel
theorem d_UF_link_116 : decode prog_1_method_18_code 116 = .ok (.iload 7, 2) := by decide +kernel
theorem d_UF_link_118 : decode prog_1_method_18_code 118 = .ok (.iload_n 3, 1) := by decide +kernel
theorem d_UF_link_119 : decode prog_1_method_18_code 119 = .ok (.if_icmp .le 16, 3) := by decide +kernel
theorem d_UF_link_122 : decode prog_1_method_18_code 122 = .ok (.iload 7, 2) := by decide +kernel
theorem d_UF_link_124 : decode prog_1_method_18_code 124 = .ok (.istore_n 3, 1) := by decide +kernel
theorem d_UF_link_125 : decode prog_1_method_18_code 125 = .ok (.bipush 10, 2) := by decide +kernel
theorem d_UF_link_127 : decode prog_1_method_18_code 127 = .ok (.iload 5, 2) := by decide +kernel
theorem d_UF_link_129 : decode prog_1_method_18_code 129 = .ok (.imul, 1) := by decide +kernel
theorem d_UF_link_130 : decode prog_1_method_18_code 130 = .ok (.iload 6, 2) := by decide +kernel
theorem d_UF_link_132 : decode prog_1_method_18_code 132 = .ok (.iadd, 1) := by decide +kernel
theorem d_UF_link_133 : decode prog_1_method_18_code 133 = .ok (.istore 4, 2) := by decide +kernel
theorem d_UF_link_135 : decode prog_1_method_18_code 135 = .ok (.iinc 6 1, 3) := by decide +kernel
theorem d_UF_link_138 : decode prog_1_method_18_code 138 = .ok (.goto (-72), 3) := by decide +kernel
theorem d_UF_link_141 : decode prog_1_method_18_code 141 = .ok (.iinc 5 1, 3) := by decide +kernel
theorem d_UF_link_144 : decode prog_1_method_18_code 144 = .ok (.goto (-96), 3) := by decide +kernel
theorem d_UF_link_147 : decode prog_1_method_18_code 147 = .ok (.iload_n 2, 1) := by decide +kernel
theorem d_UF_link_148 : decode prog_1_method_18_code 148 = .ok (.ifCond .ne 8, 3) := by decide +kernel
theorem d_UF_link_151 : decode prog_1_method_18_code 151 = .ok (.iload 4, 2) := by decide +kernel
theorem d_UF_link_153 : decode prog_1_method_18_code 153 = .ok (.goto 4, 3) := by decide +kernel
theorem d_UF_link_156 : decode prog_1_method_18_code 156 = .ok (.iload_n 3, 1) := by decide +kernel
theorem d_UF_link_157 : decode prog_1_method_18_code 157 = .ok (.ireturn, 1) := by decide +kernel
def p_UF_link_135 (Q : Int32 → AH → Prop) (K48 : Int32 → Int32 → Int32 → Int32 → Int32 → AH → Prop) (K66 : Int32 → Int32 → Int32 → Int32 → Int32 → Int32 → AH → Prop) (x1 : Int32) (x2 : Int32) (x3 : Int32) (x4 : Int32) (x5 : Int32) (x6 : Int32) (h : AH) : Prop := K66 x1 x2 x3 x4 x5 (x6 + 1) h
def p_UF_link_66 (Q : Int32 → AH → Prop) (K48 : Int32 → Int32 → Int32 → Int32 → Int32 → AH → Prop) : Nat → Int32 → Int32 → Int32 → Int32 → Int32 → Int32 → AH → Prop
  | 0 => fun _ _ _ _ _ _ _ => False
  | n + 1 => fun x1 x2 x3 x4 x5 x6 h => let K66 := p_UF_link_66 Q K48 n; (((h.1 5 3) ≤ x6 → K48 x1 x2 x3 x4 (x5 + 1) h) ∧ (¬ (h.1 5 3) ≤ x6 → p_UF_ready (fun h1 => p_Town_join (fun h2 => p_Dusk_go (fun h3 => p_Town_downCount (fun r5 h4 => ((r5 ≤ x3 → p_UF_link_135 Q  K48 K66 x1 x2 x3 x4 x5 x6 h4) ∧ (¬ r5 ≤ x3 → p_UF_link_135 Q  K48 K66 x1 x2 r5 ((10 * x5) + x6) x5 x6 h4))) 14 h3) x1 h2) 14 x5 x6 h1) h))
def p_UF_link_48 (Q : Int32 → AH → Prop) : Nat → Int32 → Int32 → Int32 → Int32 → Int32 → AH → Prop
  | 0 => fun _ _ _ _ _ _ => False
  | n + 1 => fun x1 x2 x3 x4 x5 h => let K48 := p_UF_link_48 Q n; (((h.1 5 3) ≤ x5 → ((¬ x2 = 0 → Q x3 h) ∧ (x2 = 0 → Q x4 h))) ∧ (¬ (h.1 5 3) ≤ x5 → ∃ n, p_UF_link_66 Q  K48 n x1 x2 x3 x4 x5 (x5 + 1) h))
def p_UF_link (Q : Int32 → AH → Prop) (x1 : Int32) (x2 : Int32) (h : AH) : Prop := p_UF_isSpan (fun r2 h1 => ((r2 = 0 → Q (-2) h1) ∧ (¬ r2 = 0 → p_UF_within (fun r4 h3 => ((¬ r4 = 0 → p_UF_ready (fun h5 => p_Dusk_go (fun h6 => p_Town_downCount (fun r8 h7 => ∃ n, p_UF_link_48 Q   n x1 x2 r8 (-1) 0 h7) 14 h6) x1 h5) h3) ∧ (r4 = 0 → Q (-2) h3))) x2 0 1 h1))) x1 h
set_option maxRecDepth 20000 in
theorem r_UF_link_135 {G : GG} {d : Nat} {Q : Int32 → AH → Prop} {K48 : Int32 → Int32 → Int32 → Int32 → Int32 → AH → Prop} {K66 : Int32 → Int32 → Int32 → Int32 → Int32 → Int32 → AH → Prop} (k48 : ∀ x1 x2 x3 x4 x5 h, K48 x1 x2 x3 x4 x5 h → Att G T1 m_UF_link (d + 7) 48 [some (.ref 0), some (.int x1), some (.int x2), some (.int x3), some (.int x4), some (.int x5), none, none] [] h 0 0 (iQ Q)) (k66 : ∀ x1 x2 x3 x4 x5 x6 h, K66 x1 x2 x3 x4 x5 x6 h → Att G T1 m_UF_link (d + 7) 66 [some (.ref 0), some (.int x1), some (.int x2), some (.int x3), some (.int x4), some (.int x5), some (.int x6), none] [] h 0 0 (iQ Q)) (x1 : Int32) (x2 : Int32) (x3 : Int32) (x4 : Int32) (x5 : Int32) (x6 : Int32) (h : AH) (H : p_UF_link_135 Q K48 K66 x1 x2 x3 x4 x5 x6 h) : Att G T1 m_UF_link (d + 7) 135 [some (.ref 0), some (.int x1), some (.int x2), some (.int x3), some (.int x4), some (.int x5), some (.int x6), none] [] h 0 0 (iQ Q) := by
  refine A_iinc 1 [some (.ref 0), some (.int x1), some (.int x2), some (.int x3), some (.int x4), some (.int x5), some (.int (x6 + 1)), none] d_UF_link_135 rfl (by decide) (by decide) rfl rfl ?_
  refine A_goto 66 d_UF_link_138 (by decide) ?_
  exact k66 _ _ _ _ _ _ _ H
set_option maxRecDepth 20000 in
theorem r_UF_link_66 {G : GG} {d : Nat} {Q : Int32 → AH → Prop} {K48 : Int32 → Int32 → Int32 → Int32 → Int32 → AH → Prop} (k48 : ∀ x1 x2 x3 x4 x5 h, K48 x1 x2 x3 x4 x5 h → Att G T1 m_UF_link (d + 7) 48 [some (.ref 0), some (.int x1), some (.int x2), some (.int x3), some (.int x4), some (.int x5), none, none] [] h 0 0 (iQ Q)) : ∀ (n : Nat) (x1 : Int32) (x2 : Int32) (x3 : Int32) (x4 : Int32) (x5 : Int32) (x6 : Int32) (h : AH), p_UF_link_66 Q K48 n x1 x2 x3 x4 x5 x6 h → Att G T1 m_UF_link (d + 7) 66 [some (.ref 0), some (.int x1), some (.int x2), some (.int x3), some (.int x4), some (.int x5), some (.int x6), none] [] h 0 0 (iQ Q) := by
  intro n
  induction n with
  | zero => intro x1 x2 x3 x4 x5 x6 h H; exact H.elim
  | succ n k66 =>
    intro x1 x2 x3 x4 x5 x6 h H
    refine A_iload d_UF_link_66 rfl ?_
    refine A_aload_n d_UF_link_68 rfl ?_
    refine A_get (v := .ref 5) d_UF_link_69 (fo_UF_34_11 rfl) (vA_s (by decide)) rfl rfl ?_
    refine A_get (v := .int (h.1 5 3)) d_UF_link_72 (fo_UF_80_10 rfl) (vA_s (by decide)) rfl rfl ?_
    refine A_icmp_ge 141 d_UF_link_75 (by decide) (fun z => ?_) (fun z => ?_)
    · have H := H.1 z
      refine A_iinc 1 [some (.ref 0), some (.int x1), some (.int x2), some (.int x3), some (.int x4), some (.int (x5 + 1)), some (.int x6), none] d_UF_link_141 rfl (by decide) (by decide) rfl rfl ?_
      refine A_goto 48 d_UF_link_144 (by decide) ?_
      refine A_sub (L' := [some (.ref 0), some (.int x1), some (.int x2), some (.int x3), some (.int x4), some (.int (x5 + 1)), none, none]) ⟨rfl, rfl, rfl, rfl, rfl, rfl, trivial⟩ ?_
      exact k48 _ _ _ _ _ _ H
    · have H := H.2 z
      refine A_aload_n d_UF_link_78 rfl ?_
      refine A_cV [.ref 0] [] (ct_UF_110 rfl) d_UF_link_79 rfl rfl (by decide) (Nat.le_of_ble_eq_true rfl) (rcA_o (c := 11) rfl (vA_s (by decide)) rfl (by decide) rfl) (ok_UF_ready (d := d + 3) H) (fun h1 H => ?_)
      refine A_aload_n d_UF_link_82 rfl ?_
      refine A_get (v := .ref 13) d_UF_link_83 (fo_UF_44_11 rfl) (vA_s (by decide)) rfl rfl ?_
      refine A_get (v := .ref 14) d_UF_link_86 (fo_UF_149_2 rfl) (vA_s (by decide)) rfl rfl ?_
      refine A_iload d_UF_link_89 rfl ?_
      refine A_iload d_UF_link_91 rfl ?_
      refine A_cV [.ref 14, .int x5, .int x6] [] (ct_UF_130 rfl) d_UF_link_93 rfl rfl (by decide) (Nat.le_of_ble_eq_true rfl) (rcA_o (c := 10) rfl (vA_s (by decide)) rfl (by decide) rfl) (ok_Town_join (d := d + 4) H) (fun h2 H => ?_)
      refine A_aload_n d_UF_link_96 rfl ?_
      refine A_get (v := .ref 13) d_UF_link_97 (fo_UF_44_11 rfl) (vA_s (by decide)) rfl rfl ?_
      refine A_iload_n d_UF_link_100 rfl ?_
      refine A_cV [.ref 13, .int x1] [] (ct_UF_146 rfl) d_UF_link_101 rfl rfl (by decide) (Nat.le_of_ble_eq_true rfl) (rcA_o (c := 2) rfl (vA_s (by decide)) rfl (by decide) rfl) (ok_Dusk_go (d := d) H) (fun h3 H => ?_)
      refine A_aload_n d_UF_link_104 rfl ?_
      refine A_get (v := .ref 13) d_UF_link_105 (fo_UF_44_11 rfl) (vA_s (by decide)) rfl rfl ?_
      refine A_get (v := .ref 14) d_UF_link_108 (fo_UF_149_2 rfl) (vA_s (by decide)) rfl rfl ?_
      refine A_cI [.ref 14] [] (ct_UF_184 rfl) d_UF_link_111 rfl rfl (by decide) (Nat.le_of_ble_eq_true rfl) (rcA_o (c := 10) rfl (vA_s (by decide)) rfl (by decide) rfl) (ok_Town_downCount (d := d + 4) H) (fun r5 h4 H => ?_)
      refine A_istore [some (.ref 0), some (.int x1), some (.int x2), some (.int x3), some (.int x4), some (.int x5), some (.int x6), some (.int r5)] d_UF_link_114 (by decide) rfl rfl ?_
      refine A_iload d_UF_link_116 rfl ?_
      refine A_iload_n d_UF_link_118 rfl ?_
      refine A_icmp_le 135 d_UF_link_119 (by decide) (fun z => ?_) (fun z => ?_)
      · have H := H.1 z
        refine A_sub (L' := [some (.ref 0), some (.int x1), some (.int x2), some (.int x3), some (.int x4), some (.int x5), some (.int x6), none]) ⟨rfl, rfl, rfl, rfl, rfl, rfl, rfl, trivial⟩ ?_
        exact r_UF_link_135  k48 k66 _ _ _ _ _ _ _ H
      · have H := H.2 z
        refine A_iload d_UF_link_122 rfl ?_
        refine A_istore_n [some (.ref 0), some (.int x1), some (.int x2), some (.int r5), some (.int x4), some (.int x5), some (.int x6), some (.int r5)] d_UF_link_124 (by decide) rfl rfl ?_
        refine A_bipush 10 (by decide) d_UF_link_125 ?_
        refine A_iload d_UF_link_127 rfl ?_
        refine A_imul d_UF_link_129 ?_
        refine A_iload d_UF_link_130 rfl ?_
        refine A_iadd d_UF_link_132 ?_
        refine A_istore [some (.ref 0), some (.int x1), some (.int x2), some (.int r5), some (.int ((10 * x5) + x6)), some (.int x5), some (.int x6), some (.int r5)] d_UF_link_133 (by decide) rfl rfl ?_
        refine A_sub (L' := [some (.ref 0), some (.int x1), some (.int x2), some (.int r5), some (.int ((10 * x5) + x6)), some (.int x5), some (.int x6), none]) ⟨rfl, rfl, rfl, rfl, rfl, rfl, rfl, trivial⟩ ?_
        exact r_UF_link_135  k48 k66 _ _ _ _ _ _ _ H
set_option maxRecDepth 20000 in
theorem r_UF_link_48 {G : GG} {d : Nat} {Q : Int32 → AH → Prop} : ∀ (n : Nat) (x1 : Int32) (x2 : Int32) (x3 : Int32) (x4 : Int32) (x5 : Int32) (h : AH), p_UF_link_48 Q n x1 x2 x3 x4 x5 h → Att G T1 m_UF_link (d + 7) 48 [some (.ref 0), some (.int x1), some (.int x2), some (.int x3), some (.int x4), some (.int x5), none, none] [] h 0 0 (iQ Q) := by
  intro n
  induction n with
  | zero => intro x1 x2 x3 x4 x5 h H; exact H.elim
  | succ n k48 =>
    intro x1 x2 x3 x4 x5 h H
    refine A_iload d_UF_link_48 rfl ?_
    refine A_aload_n d_UF_link_50 rfl ?_
    refine A_get (v := .ref 5) d_UF_link_51 (fo_UF_34_11 rfl) (vA_s (by decide)) rfl rfl ?_
    refine A_get (v := .int (h.1 5 3)) d_UF_link_54 (fo_UF_80_10 rfl) (vA_s (by decide)) rfl rfl ?_
    refine A_icmp_ge 147 d_UF_link_57 (by decide) (fun z => ?_) (fun z => ?_)
    · have H := H.1 z
      refine A_iload_n d_UF_link_147 rfl ?_
      refine A_if_ne 156 d_UF_link_148 (by decide) (fun z => ?_) (fun z => ?_)
      · have H := H.1 z
        refine A_iload_n d_UF_link_156 rfl ?_
        exact A_iret d_UF_link_157 rfl rfl H
      · have H := H.2 z
        refine A_iload d_UF_link_151 rfl ?_
        refine A_goto 157 d_UF_link_153 (by decide) ?_
        exact A_iret d_UF_link_157 rfl rfl H
    · have H := H.2 z
      refine A_iload d_UF_link_60 rfl ?_
      refine A_iconst 1 (by decide) d_UF_link_62 ?_
      refine A_iadd d_UF_link_63 ?_
      refine A_istore [some (.ref 0), some (.int x1), some (.int x2), some (.int x3), some (.int x4), some (.int x5), some (.int (x5 + 1)), none] d_UF_link_64 (by decide) rfl rfl ?_
      obtain ⟨n9, H⟩ := H
      exact r_UF_link_66  k48 n9 _ _ _ _ _ _ _ H
set_option maxRecDepth 20000 in
theorem r_UF_link_0 {G : GG} {d : Nat} {Q : Int32 → AH → Prop} (x1 : Int32) (x2 : Int32) (h : AH) (H : p_UF_link Q x1 x2 h) : Att G T1 m_UF_link (d + 7) 0 [some (.ref 0), some (.int x1), some (.int x2), none, none, none, none, none] [] h 0 0 (iQ Q) := by
  refine A_iload_n d_UF_link_0 rfl ?_
  refine A_cI [.int x1] [] (ct_UF_143 rfl) d_UF_link_1 rfl rfl (by decide) (Nat.le_of_ble_eq_true rfl) trivial (ok_UF_isSpan (d := d + 5) H) (fun r2 h1 H => ?_)
  refine A_if_eq 16 d_UF_link_4 (by decide) (fun z => ?_) (fun z => ?_)
  · have H := H.1 z
    refine A_bipush (-2) (by decide) d_UF_link_16 ?_
    exact A_iret d_UF_link_18 rfl rfl H
  · have H := H.2 z
    refine A_iload_n d_UF_link_7 rfl ?_
    refine A_iconst 0 (by decide) d_UF_link_8 ?_
    refine A_iconst 1 (by decide) d_UF_link_9 ?_
    refine A_cI [.int x2, .int 0, .int 1] [] (ct_UF_95 rfl) d_UF_link_10 rfl rfl (by decide) (Nat.le_of_ble_eq_true rfl) trivial (ok_UF_within (d := d + 6) H) (fun r4 h3 H => ?_)
    refine A_if_ne 19 d_UF_link_13 (by decide) (fun z => ?_) (fun z => ?_)
    · have H := H.1 z
      refine A_aload_n d_UF_link_19 rfl ?_
      refine A_cV [.ref 0] [] (ct_UF_110 rfl) d_UF_link_20 rfl rfl (by decide) (Nat.le_of_ble_eq_true rfl) (rcA_o (c := 11) rfl (vA_s (by decide)) rfl (by decide) rfl) (ok_UF_ready (d := d + 3) H) (fun h5 H => ?_)
      refine A_aload_n d_UF_link_23 rfl ?_
      refine A_get (v := .ref 13) d_UF_link_24 (fo_UF_44_11 rfl) (vA_s (by decide)) rfl rfl ?_
      refine A_iload_n d_UF_link_27 rfl ?_
      refine A_cV [.ref 13, .int x1] [] (ct_UF_146 rfl) d_UF_link_28 rfl rfl (by decide) (Nat.le_of_ble_eq_true rfl) (rcA_o (c := 2) rfl (vA_s (by decide)) rfl (by decide) rfl) (ok_Dusk_go (d := d) H) (fun h6 H => ?_)
      refine A_aload_n d_UF_link_31 rfl ?_
      refine A_get (v := .ref 13) d_UF_link_32 (fo_UF_44_11 rfl) (vA_s (by decide)) rfl rfl ?_
      refine A_get (v := .ref 14) d_UF_link_35 (fo_UF_149_2 rfl) (vA_s (by decide)) rfl rfl ?_
      refine A_cI [.ref 14] [] (ct_UF_184 rfl) d_UF_link_38 rfl rfl (by decide) (Nat.le_of_ble_eq_true rfl) (rcA_o (c := 10) rfl (vA_s (by decide)) rfl (by decide) rfl) (ok_Town_downCount (d := d + 4) H) (fun r8 h7 H => ?_)
      refine A_istore_n [some (.ref 0), some (.int x1), some (.int x2), some (.int r8), none, none, none, none] d_UF_link_41 (by decide) rfl rfl ?_
      refine A_iconst (-1) (by decide) d_UF_link_42 ?_
      refine A_istore [some (.ref 0), some (.int x1), some (.int x2), some (.int r8), some (.int (-1)), none, none, none] d_UF_link_43 (by decide) rfl rfl ?_
      refine A_iconst 0 (by decide) d_UF_link_45 ?_
      refine A_istore [some (.ref 0), some (.int x1), some (.int x2), some (.int r8), some (.int (-1)), some (.int 0), none, none] d_UF_link_46 (by decide) rfl rfl ?_
      obtain ⟨n9, H⟩ := H
      exact r_UF_link_48   n9 _ _ _ _ _ _ H
    · have H := H.2 z
      refine A_bipush (-2) (by decide) d_UF_link_16 ?_
      exact A_iret d_UF_link_18 rfl rfl H
set_option maxRecDepth 20000 in
theorem ok_UF_link {G : GG} {d : Nat} {Q : Int32 → AH → Prop} {x1 : Int32} {x2 : Int32} {h : AH} (H : p_UF_link Q x1 x2 h) : WP G T1 m_UF_link (d + 7) [.ref 0, .int x1, .int x2] h 0 0 (iQ Q) := by
  exact WP.enter 5 (by decide) rfl rfl (r_UF_link_0 x1 x2 h H)
theorem d_UF_frees_0 : decode prog_1_method_19_code 0 = .ok (.aload_n 0, 1) := by decide +kernel
theorem d_UF_frees_1 : decode prog_1_method_19_code 1 = .ok (.iload_n 1, 1) := by decide +kernel
theorem d_UF_frees_2 : decode prog_1_method_19_code 2 = .ok (.invokevirtual 107, 3) := by decide +kernel
theorem d_UF_frees_5 : decode prog_1_method_19_code 5 = .ok (.ifCond .ne 6, 3) := by decide +kernel
theorem d_UF_frees_8 : decode prog_1_method_19_code 8 = .ok (.bipush (-5), 2) := by decide +kernel
theorem d_UF_frees_10 : decode prog_1_method_19_code 10 = .ok (.ireturn, 1) := by decide +kernel
theorem d_UF_frees_11 : decode prog_1_method_19_code 11 = .ok (.iload_n 2, 1) := by decide +kernel
theorem d_UF_frees_12 : decode prog_1_method_19_code 12 = .ok (.invokestatic 143, 3) := by decide +kernel
theorem d_UF_frees_15 : decode prog_1_method_19_code 15 = .ok (.ifCond .eq 12, 3) := by decide +kernel
theorem d_UF_frees_18 : decode prog_1_method_19_code 18 = .ok (.iload_n 3, 1) := by decide +kernel
theorem d_UF_frees_19 : decode prog_1_method_19_code 19 = .ok (.iconst 0, 1) := by decide +kernel
theorem d_UF_frees_20 : decode prog_1_method_19_code 20 = .ok (.iconst 1, 1) := by decide +kernel
theorem d_UF_frees_21 : decode prog_1_method_19_code 21 = .ok (.invokestatic 95, 3) := by decide +kernel
theorem d_UF_frees_24 : decode prog_1_method_19_code 24 = .ok (.ifCond .ne 6, 3) := by decide +kernel
theorem d_UF_frees_27 : decode prog_1_method_19_code 27 = .ok (.bipush (-7), 2) := by decide +kernel
theorem d_UF_frees_29 : decode prog_1_method_19_code 29 = .ok (.ireturn, 1) := by decide +kernel
theorem d_UF_frees_30 : decode prog_1_method_19_code 30 = .ok (.iconst (-1), 1) := by decide +kernel
theorem d_UF_frees_31 : decode prog_1_method_19_code 31 = .ok (.istore 4, 2) := by decide +kernel
theorem d_UF_frees_33 : decode prog_1_method_19_code 33 = .ok (.iconst 0, 1) := by decide +kernel
theorem d_UF_frees_34 : decode prog_1_method_19_code 34 = .ok (.istore 5, 2) := by decide +kernel
theorem d_UF_frees_36 : decode prog_1_method_19_code 36 = .ok (.aload_n 0, 1) := by decide +kernel
theorem d_UF_frees_37 : decode prog_1_method_19_code 37 = .ok (.invokevirtual 110, 3) := by decide +kernel
theorem d_UF_frees_40 : decode prog_1_method_19_code 40 = .ok (.aload_n 0, 1) := by decide +kernel
theorem d_UF_frees_41 : decode prog_1_method_19_code 41 = .ok (.getfield 44, 3) := by decide +kernel
theorem d_UF_frees_44 : decode prog_1_method_19_code 44 = .ok (.iload_n 2, 1) := by decide +kernel
theorem d_UF_frees_45 : decode prog_1_method_19_code 45 = .ok (.invokevirtual 146, 3) := by decide +kernel
theorem d_UF_frees_48 : decode prog_1_method_19_code 48 = .ok (.aload_n 0, 1) := by decide +kernel
theorem d_UF_frees_49 : decode prog_1_method_19_code 49 = .ok (.getfield 44, 3) := by decide +kernel
theorem d_UF_frees_52 : decode prog_1_method_19_code 52 = .ok (.getfield 149, 3) := by decide +kernel
theorem d_UF_frees_55 : decode prog_1_method_19_code 55 = .ok (.iload_n 1, 1) := by decide +kernel
theorem d_UF_frees_56 : decode prog_1_method_19_code 56 = .ok (.invokevirtual 181, 3) := by decide +kernel
theorem d_UF_frees_59 : decode prog_1_method_19_code 59 = .ok (.ifCond .ne 106, 3) := by decide +kernel
theorem d_UF_frees_62 : decode prog_1_method_19_code 62 = .ok (.iconst 0, 1) := by decide +kernel
theorem d_UF_frees_63 : decode prog_1_method_19_code 63 = .ok (.istore 6, 2) := by decide +kernel
theorem d_UF_frees_65 : decode prog_1_method_19_code 65 = .ok (.iload 6, 2) := by decide +kernel
theorem d_UF_frees_67 : decode prog_1_method_19_code 67 = .ok (.aload_n 0, 1) := by decide +kernel
theorem d_UF_frees_68 : decode prog_1_method_19_code 68 = .ok (.getfield 34, 3) := by decide +kernel
theorem d_UF_frees_71 : decode prog_1_method_19_code 71 = .ok (.getfield 80, 3) := by decide +kernel
theorem d_UF_frees_74 : decode prog_1_method_19_code 74 = .ok (.if_icmp .ge 91, 3) := by decide +kernel
theorem d_UF_frees_77 : decode prog_1_method_19_code 77 = .ok (.aload_n 0, 1) := by decide +kernel
theorem d_UF_frees_78 : decode prog_1_method_19_code 78 = .ok (.getfield 34, 3) := by decide +kernel
theorem d_UF_frees_81 : decode prog_1_method_19_code 81 = .ok (.iload 6, 2) := by decide +kernel
theorem d_UF_frees_83 : decode prog_1_method_19_code 83 = .ok (.invokevirtual 187, 3) := by decide +kernel
theorem d_UF_frees_86 : decode prog_1_method_19_code 86 = .ok (.ifCond .ne 6, 3) := by decide +kernel
theorem d_UF_frees_89 : decode prog_1_method_19_code 89 = .ok (.goto 70, 3) := by decide +kernel
theorem d_UF_frees_92 : decode prog_1_method_19_code 92 = .ok (.aload_n 0, 1) := by decide +kernel
theorem d_UF_frees_93 : decode prog_1_method_19_code 93 = .ok (.invokevirtual 110, 3) := by decide +kernel
theorem d_UF_frees_96 : decode prog_1_method_19_code 96 = .ok (.aload_n 0, 1) := by decide +kernel
theorem d_UF_frees_97 : decode prog_1_method_19_code 97 = .ok (.getfield 44, 3) := by decide +kernel
theorem d_UF_frees_100 : decode prog_1_method_19_code 100 = .ok (.getfield 149, 3) := by decide +kernel
theorem d_UF_frees_103 : decode prog_1_method_19_code 103 = .ok (.iload 6, 2) := by decide +kernel
theorem d_UF_frees_105 : decode prog_1_method_19_code 105 = .ok (.invokevirtual 190, 3) := by decide +kernel
theorem d_UF_frees_108 : decode prog_1_method_19_code 108 = .ok (.aload_n 0, 1) := by decide +kernel
theorem d_UF_frees_109 : decode prog_1_method_19_code 109 = .ok (.getfield 44, 3) := by decide +kernel
theorem d_UF_frees_112 : decode prog_1_method_19_code 112 = .ok (.iload_n 2, 1) := by decide +kernel
theorem d_UF_frees_113 : decode prog_1_method_19_code 113 = .ok (.invokevirtual 146, 3) := by decide +kernel
theorem d_UF_frees_116 : decode prog_1_method_19_code 116 = .ok (.aload_n 0, 1) := by decide +kernel
theorem d_UF_frees_117 : decode prog_1_method_19_code 117 = .ok (.getfield 44, 3) := by decide +kernel
theorem d_UF_frees_120 : decode prog_1_method_19_code 120 = .ok (.getfield 149, 3) := by decide +kernel
theorem d_UF_frees_123 : decode prog_1_method_19_code 123 = .ok (.iload_n 1, 1) := by decide +kernel
theorem d_UF_frees_124 : decode prog_1_method_19_code 124 = .ok (.invokevirtual 181, 3) := by decide +kernel
theorem d_UF_frees_127 : decode prog_1_method_19_code 127 = .ok (.ifCond .ne 6, 3) := by decide +kernel
theorem d_UF_frees_130 : decode prog_1_method_19_code 130 = .ok (.goto 29, 3) := by decide +kernel
theorem d_UF_frees_133 : decode prog_1_method_19_code 133 = .ok (.iload 5, 2) := by decide +kernel
theorem d_UF_frees_135 : decode prog_1_method_19_code 135 = .ok (.ifCond .ne 21, 3) := by decide +kernel
theorem d_UF_frees_138 : decode prog_1_method_19_code 138 = .ok (.bipush 10, 2) := by decide +kernel
theorem d_UF_frees_140 : decode prog_1_method_19_code 140 = .ok (.iload 6, 2) := by decide +kernel
theorem d_UF_frees_142 : decode prog_1_method_19_code 142 = .ok (.imul, 1) := by decide +kernel
theorem d_UF_frees_143 : decode prog_1_method_19_code 143 = .ok (.aload_n 0, 1) := by decide +kernel
theorem d_UF_frees_144 : decode prog_1_method_19_code 144 = .ok (.getfield 34, 3) := by decide +kernel
theorem d_UF_frees_147 : decode prog_1_method_19_code 147 = .ok (.getfield 127, 3) := by decide +kernel
theorem d_UF_frees_150 : decode prog_1_method_19_code 150 = .ok (.iload 6, 2) := by decide +kernel
theorem d_UF_frees_152 : decode prog_1_method_19_code 152 = .ok (.iaload, 1) := by decide +kernel
theorem d_UF_frees_153 : decode prog_1_method_19_code 153 = .ok (.iadd, 1) := by decide +kernel
theorem d_UF_frees_154 : decode prog_1_method_19_code 154 = .ok (.istore 4, 2) := by decide +kernel
theorem d_UF_frees_156 : decode prog_1_method_19_code 156 = .ok (.iinc 5 1, 3) := by decide +kernel
theorem d_UF_frees_159 : decode prog_1_method_19_code 159 = .ok (.iinc 6 1, 3) := by decide +kernel
theorem d_UF_frees_162 : decode prog_1_method_19_code 162 = .ok (.goto (-97), 3) := by decide +kernel
theorem d_UF_frees_165 : decode prog_1_method_19_code 165 = .ok (.iload_n 3, 1) := by decide +kernel
theorem d_UF_frees_166 : decode prog_1_method_19_code 166 = .ok (.ifCond .ne 8, 3) := by decide +kernel
theorem d_UF_frees_169 : decode prog_1_method_19_code 169 = .ok (.iload 4, 2) := by decide +kernel
theorem d_UF_frees_171 : decode prog_1_method_19_code 171 = .ok (.goto 5, 3) := by decide +kernel
theorem d_UF_frees_174 : decode prog_1_method_19_code 174 = .ok (.iload 5, 2) := by decide +kernel
theorem d_UF_frees_176 : decode prog_1_method_19_code 176 = .ok (.ireturn, 1) := by decide +kernel
def p_UF_frees_165 (Q : Int32 → AH → Prop) (x3 : Int32) (x4 : Int32) (x5 : Int32) (h : AH) : Prop := ((¬ x3 = 0 → Q x5 h) ∧ (x3 = 0 → Q x4 h))
def p_UF_frees_159 (Q : Int32 → AH → Prop) (K65 : Int32 → Int32 → Int32 → Int32 → Int32 → Int32 → AH → Prop) (x1 : Int32) (x2 : Int32) (x3 : Int32) (x4 : Int32) (x5 : Int32) (x6 : Int32) (h : AH) : Prop := K65 x1 x2 x3 x4 x5 (x6 + 1) h
def p_UF_frees_156 (Q : Int32 → AH → Prop) (K65 : Int32 → Int32 → Int32 → Int32 → Int32 → Int32 → AH → Prop) (x1 : Int32) (x2 : Int32) (x3 : Int32) (x4 : Int32) (x5 : Int32) (x6 : Int32) (h : AH) : Prop := p_UF_frees_159 Q  K65 x1 x2 x3 x4 (x5 + 1) x6 h
def p_UF_frees_65 (Q : Int32 → AH → Prop) : Nat → Int32 → Int32 → Int32 → Int32 → Int32 → Int32 → AH → Prop
  | 0 => fun _ _ _ _ _ _ _ => False
  | n + 1 => fun x1 x2 x3 x4 x5 x6 h => let K65 := p_UF_frees_65 Q n; (((h.1 5 3) ≤ x6 → p_UF_frees_165 Q   x3 x4 x5 h) ∧ (¬ (h.1 5 3) ≤ x6 → p_Town_leads (fun r2 h1 => ((¬ r2 = 0 → p_UF_ready (fun h3 => p_Town_loosen (fun h4 => p_Dusk_go (fun h5 => p_Town_isDown (fun r7 h6 => ((¬ r7 = 0 → ((¬ x5 = 0 → p_UF_frees_156 Q  K65 x1 x2 x3 x4 x5 x6 h6) ∧ (x5 = 0 → inb x6 7 ∧ p_UF_frees_156 Q  K65 x1 x2 x3 ((10 * x6) + (h6.1 8 x6)) x5 x6 h6))) ∧ (r7 = 0 → p_UF_frees_159 Q  K65 x1 x2 x3 x4 x5 x6 h6))) 14 x1 h5) x2 h4) 14 x6 h3) h1) ∧ (r2 = 0 → p_UF_frees_159 Q  K65 x1 x2 x3 x4 x5 x6 h1))) 5 x6 h))
def p_UF_frees (Q : Int32 → AH → Prop) (x1 : Int32) (x2 : Int32) (x3 : Int32) (h : AH) : Prop := p_UF_isHouse (fun r2 h1 => ((¬ r2 = 0 → p_UF_isSpan (fun r4 h3 => ((r4 = 0 → Q (-7) h3) ∧ (¬ r4 = 0 → p_UF_within (fun r6 h5 => ((¬ r6 = 0 → p_UF_ready (fun h7 => p_Dusk_go (fun h8 => p_Town_isDown (fun r10 h9 => ((¬ r10 = 0 → p_UF_frees_165 Q   x3 (-1) 0 h9) ∧ (r10 = 0 → ∃ n, p_UF_frees_65 Q   n x1 x2 x3 (-1) 0 0 h9))) 14 x1 h8) x2 h7) h5) ∧ (r6 = 0 → Q (-7) h5))) x3 0 1 h3))) x2 h1) ∧ (r2 = 0 → Q (-5) h1))) x1 h
set_option maxRecDepth 20000 in
theorem r_UF_frees_165 {G : GG} {d : Nat} {Q : Int32 → AH → Prop} (x3 : Int32) (x4 : Int32) (x5 : Int32) (h : AH) (H : p_UF_frees_165 Q x3 x4 x5 h) : Att G T1 m_UF_frees (d + 7) 165 [none, none, none, some (.int x3), some (.int x4), some (.int x5), none] [] h 0 0 (iQ Q) := by
  refine A_iload_n d_UF_frees_165 rfl ?_
  refine A_if_ne 174 d_UF_frees_166 (by decide) (fun z => ?_) (fun z => ?_)
  · have H := H.1 z
    refine A_iload d_UF_frees_174 rfl ?_
    exact A_iret d_UF_frees_176 rfl rfl H
  · have H := H.2 z
    refine A_iload d_UF_frees_169 rfl ?_
    refine A_goto 176 d_UF_frees_171 (by decide) ?_
    exact A_iret d_UF_frees_176 rfl rfl H
set_option maxRecDepth 20000 in
theorem r_UF_frees_159 {G : GG} {d : Nat} {Q : Int32 → AH → Prop} {K65 : Int32 → Int32 → Int32 → Int32 → Int32 → Int32 → AH → Prop} (k65 : ∀ x1 x2 x3 x4 x5 x6 h, K65 x1 x2 x3 x4 x5 x6 h → Att G T1 m_UF_frees (d + 7) 65 [some (.ref 0), some (.int x1), some (.int x2), some (.int x3), some (.int x4), some (.int x5), some (.int x6)] [] h 0 0 (iQ Q)) (x1 : Int32) (x2 : Int32) (x3 : Int32) (x4 : Int32) (x5 : Int32) (x6 : Int32) (h : AH) (H : p_UF_frees_159 Q K65 x1 x2 x3 x4 x5 x6 h) : Att G T1 m_UF_frees (d + 7) 159 [some (.ref 0), some (.int x1), some (.int x2), some (.int x3), some (.int x4), some (.int x5), some (.int x6)] [] h 0 0 (iQ Q) := by
  refine A_iinc 1 [some (.ref 0), some (.int x1), some (.int x2), some (.int x3), some (.int x4), some (.int x5), some (.int (x6 + 1))] d_UF_frees_159 rfl (by decide) (by decide) rfl rfl ?_
  refine A_goto 65 d_UF_frees_162 (by decide) ?_
  exact k65 _ _ _ _ _ _ _ H
set_option maxRecDepth 20000 in
theorem r_UF_frees_156 {G : GG} {d : Nat} {Q : Int32 → AH → Prop} {K65 : Int32 → Int32 → Int32 → Int32 → Int32 → Int32 → AH → Prop} (k65 : ∀ x1 x2 x3 x4 x5 x6 h, K65 x1 x2 x3 x4 x5 x6 h → Att G T1 m_UF_frees (d + 7) 65 [some (.ref 0), some (.int x1), some (.int x2), some (.int x3), some (.int x4), some (.int x5), some (.int x6)] [] h 0 0 (iQ Q)) (x1 : Int32) (x2 : Int32) (x3 : Int32) (x4 : Int32) (x5 : Int32) (x6 : Int32) (h : AH) (H : p_UF_frees_156 Q K65 x1 x2 x3 x4 x5 x6 h) : Att G T1 m_UF_frees (d + 7) 156 [some (.ref 0), some (.int x1), some (.int x2), some (.int x3), some (.int x4), some (.int x5), some (.int x6)] [] h 0 0 (iQ Q) := by
  refine A_iinc 1 [some (.ref 0), some (.int x1), some (.int x2), some (.int x3), some (.int x4), some (.int (x5 + 1)), some (.int x6)] d_UF_frees_156 rfl (by decide) (by decide) rfl rfl ?_
  exact r_UF_frees_159  k65 _ _ _ _ _ _ _ H
set_option maxRecDepth 20000 in
theorem r_UF_frees_65 {G : GG} {d : Nat} {Q : Int32 → AH → Prop} : ∀ (n : Nat) (x1 : Int32) (x2 : Int32) (x3 : Int32) (x4 : Int32) (x5 : Int32) (x6 : Int32) (h : AH), p_UF_frees_65 Q n x1 x2 x3 x4 x5 x6 h → Att G T1 m_UF_frees (d + 7) 65 [some (.ref 0), some (.int x1), some (.int x2), some (.int x3), some (.int x4), some (.int x5), some (.int x6)] [] h 0 0 (iQ Q) := by
  intro n
  induction n with
  | zero => intro x1 x2 x3 x4 x5 x6 h H; exact H.elim
  | succ n k65 =>
    intro x1 x2 x3 x4 x5 x6 h H
    refine A_iload d_UF_frees_65 rfl ?_
    refine A_aload_n d_UF_frees_67 rfl ?_
    refine A_get (v := .ref 5) d_UF_frees_68 (fo_UF_34_11 rfl) (vA_s (by decide)) rfl rfl ?_
    refine A_get (v := .int (h.1 5 3)) d_UF_frees_71 (fo_UF_80_10 rfl) (vA_s (by decide)) rfl rfl ?_
    refine A_icmp_ge 165 d_UF_frees_74 (by decide) (fun z => ?_) (fun z => ?_)
    · have H := H.1 z
      refine A_sub (L' := [none, none, none, some (.int x3), some (.int x4), some (.int x5), none]) ⟨rfl, rfl, rfl, trivial⟩ ?_
      exact r_UF_frees_165   _ _ _ _ H
    · have H := H.2 z
      refine A_aload_n d_UF_frees_77 rfl ?_
      refine A_get (v := .ref 5) d_UF_frees_78 (fo_UF_34_11 rfl) (vA_s (by decide)) rfl rfl ?_
      refine A_iload d_UF_frees_81 rfl ?_
      refine A_cI [.ref 5, .int x6] [] (ct_UF_187 rfl) d_UF_frees_83 rfl rfl (by decide) (Nat.le_of_ble_eq_true rfl) (rcA_o (c := 10) rfl (vA_s (by decide)) rfl (by decide) rfl) (ok_Town_leads (d := d + 6) H) (fun r2 h1 H => ?_)
      refine A_if_ne 92 d_UF_frees_86 (by decide) (fun z => ?_) (fun z => ?_)
      · have H := H.1 z
        refine A_aload_n d_UF_frees_92 rfl ?_
        refine A_cV [.ref 0] [] (ct_UF_110 rfl) d_UF_frees_93 rfl rfl (by decide) (Nat.le_of_ble_eq_true rfl) (rcA_o (c := 11) rfl (vA_s (by decide)) rfl (by decide) rfl) (ok_UF_ready (d := d + 3) H) (fun h3 H => ?_)
        refine A_aload_n d_UF_frees_96 rfl ?_
        refine A_get (v := .ref 13) d_UF_frees_97 (fo_UF_44_11 rfl) (vA_s (by decide)) rfl rfl ?_
        refine A_get (v := .ref 14) d_UF_frees_100 (fo_UF_149_2 rfl) (vA_s (by decide)) rfl rfl ?_
        refine A_iload d_UF_frees_103 rfl ?_
        refine A_cV [.ref 14, .int x6] [] (ct_UF_190 rfl) d_UF_frees_105 rfl rfl (by decide) (Nat.le_of_ble_eq_true rfl) (rcA_o (c := 10) rfl (vA_s (by decide)) rfl (by decide) rfl) (ok_Town_loosen (d := d + 5) H) (fun h4 H => ?_)
        refine A_aload_n d_UF_frees_108 rfl ?_
        refine A_get (v := .ref 13) d_UF_frees_109 (fo_UF_44_11 rfl) (vA_s (by decide)) rfl rfl ?_
        refine A_iload_n d_UF_frees_112 rfl ?_
        refine A_cV [.ref 13, .int x2] [] (ct_UF_146 rfl) d_UF_frees_113 rfl rfl (by decide) (Nat.le_of_ble_eq_true rfl) (rcA_o (c := 2) rfl (vA_s (by decide)) rfl (by decide) rfl) (ok_Dusk_go (d := d) H) (fun h5 H => ?_)
        refine A_aload_n d_UF_frees_116 rfl ?_
        refine A_get (v := .ref 13) d_UF_frees_117 (fo_UF_44_11 rfl) (vA_s (by decide)) rfl rfl ?_
        refine A_get (v := .ref 14) d_UF_frees_120 (fo_UF_149_2 rfl) (vA_s (by decide)) rfl rfl ?_
        refine A_iload_n d_UF_frees_123 rfl ?_
        refine A_cI [.ref 14, .int x1] [] (ct_UF_181 rfl) d_UF_frees_124 rfl rfl (by decide) (Nat.le_of_ble_eq_true rfl) (rcA_o (c := 10) rfl (vA_s (by decide)) rfl (by decide) rfl) (ok_Town_isDown (d := d + 6) H) (fun r7 h6 H => ?_)
        refine A_if_ne 133 d_UF_frees_127 (by decide) (fun z => ?_) (fun z => ?_)
        · have H := H.1 z
          refine A_iload d_UF_frees_133 rfl ?_
          refine A_if_ne 156 d_UF_frees_135 (by decide) (fun z => ?_) (fun z => ?_)
          · have H := H.1 z
            exact r_UF_frees_156  k65 _ _ _ _ _ _ _ H
          · have H := H.2 z
            refine A_bipush 10 (by decide) d_UF_frees_138 ?_
            refine A_iload d_UF_frees_140 rfl ?_
            refine A_imul d_UF_frees_142 ?_
            refine A_aload_n d_UF_frees_143 rfl ?_
            refine A_get (v := .ref 5) d_UF_frees_144 (fo_UF_34_11 rfl) (vA_s (by decide)) rfl rfl ?_
            refine A_get (v := .ref 8) d_UF_frees_147 (fo_UF_127_10 rfl) (vA_s (by decide)) rfl rfl ?_
            refine A_iload d_UF_frees_150 rfl ?_
            obtain ⟨c8, H⟩ := H
            refine A_iald (n := 7) d_UF_frees_152 (vA_s (by decide)) rfl c8 ?_
            refine A_iadd d_UF_frees_153 ?_
            refine A_istore [some (.ref 0), some (.int x1), some (.int x2), some (.int x3), some (.int ((10 * x6) + (h6.1 8 x6))), some (.int x5), some (.int x6)] d_UF_frees_154 (by decide) rfl rfl ?_
            exact r_UF_frees_156  k65 _ _ _ _ _ _ _ H
        · have H := H.2 z
          refine A_goto 159 d_UF_frees_130 (by decide) ?_
          exact r_UF_frees_159  k65 _ _ _ _ _ _ _ H
      · have H := H.2 z
        refine A_goto 159 d_UF_frees_89 (by decide) ?_
        exact r_UF_frees_159  k65 _ _ _ _ _ _ _ H
set_option maxRecDepth 20000 in
theorem r_UF_frees_0 {G : GG} {d : Nat} {Q : Int32 → AH → Prop} (x1 : Int32) (x2 : Int32) (x3 : Int32) (h : AH) (H : p_UF_frees Q x1 x2 x3 h) : Att G T1 m_UF_frees (d + 7) 0 [some (.ref 0), some (.int x1), some (.int x2), some (.int x3), none, none, none] [] h 0 0 (iQ Q) := by
  refine A_aload_n d_UF_frees_0 rfl ?_
  refine A_iload_n d_UF_frees_1 rfl ?_
  refine A_cI [.ref 0, .int x1] [] (ct_UF_107 rfl) d_UF_frees_2 rfl rfl (by decide) (Nat.le_of_ble_eq_true rfl) (rcA_o (c := 11) rfl (vA_s (by decide)) rfl (by decide) rfl) (ok_UF_isHouse (d := d + 5) H) (fun r2 h1 H => ?_)
  refine A_if_ne 11 d_UF_frees_5 (by decide) (fun z => ?_) (fun z => ?_)
  · have H := H.1 z
    refine A_iload_n d_UF_frees_11 rfl ?_
    refine A_cI [.int x2] [] (ct_UF_143 rfl) d_UF_frees_12 rfl rfl (by decide) (Nat.le_of_ble_eq_true rfl) trivial (ok_UF_isSpan (d := d + 5) H) (fun r4 h3 H => ?_)
    refine A_if_eq 27 d_UF_frees_15 (by decide) (fun z => ?_) (fun z => ?_)
    · have H := H.1 z
      refine A_bipush (-7) (by decide) d_UF_frees_27 ?_
      exact A_iret d_UF_frees_29 rfl rfl H
    · have H := H.2 z
      refine A_iload_n d_UF_frees_18 rfl ?_
      refine A_iconst 0 (by decide) d_UF_frees_19 ?_
      refine A_iconst 1 (by decide) d_UF_frees_20 ?_
      refine A_cI [.int x3, .int 0, .int 1] [] (ct_UF_95 rfl) d_UF_frees_21 rfl rfl (by decide) (Nat.le_of_ble_eq_true rfl) trivial (ok_UF_within (d := d + 6) H) (fun r6 h5 H => ?_)
      refine A_if_ne 30 d_UF_frees_24 (by decide) (fun z => ?_) (fun z => ?_)
      · have H := H.1 z
        refine A_iconst (-1) (by decide) d_UF_frees_30 ?_
        refine A_istore [some (.ref 0), some (.int x1), some (.int x2), some (.int x3), some (.int (-1)), none, none] d_UF_frees_31 (by decide) rfl rfl ?_
        refine A_iconst 0 (by decide) d_UF_frees_33 ?_
        refine A_istore [some (.ref 0), some (.int x1), some (.int x2), some (.int x3), some (.int (-1)), some (.int 0), none] d_UF_frees_34 (by decide) rfl rfl ?_
        refine A_aload_n d_UF_frees_36 rfl ?_
        refine A_cV [.ref 0] [] (ct_UF_110 rfl) d_UF_frees_37 rfl rfl (by decide) (Nat.le_of_ble_eq_true rfl) (rcA_o (c := 11) rfl (vA_s (by decide)) rfl (by decide) rfl) (ok_UF_ready (d := d + 3) H) (fun h7 H => ?_)
        refine A_aload_n d_UF_frees_40 rfl ?_
        refine A_get (v := .ref 13) d_UF_frees_41 (fo_UF_44_11 rfl) (vA_s (by decide)) rfl rfl ?_
        refine A_iload_n d_UF_frees_44 rfl ?_
        refine A_cV [.ref 13, .int x2] [] (ct_UF_146 rfl) d_UF_frees_45 rfl rfl (by decide) (Nat.le_of_ble_eq_true rfl) (rcA_o (c := 2) rfl (vA_s (by decide)) rfl (by decide) rfl) (ok_Dusk_go (d := d) H) (fun h8 H => ?_)
        refine A_aload_n d_UF_frees_48 rfl ?_
        refine A_get (v := .ref 13) d_UF_frees_49 (fo_UF_44_11 rfl) (vA_s (by decide)) rfl rfl ?_
        refine A_get (v := .ref 14) d_UF_frees_52 (fo_UF_149_2 rfl) (vA_s (by decide)) rfl rfl ?_
        refine A_iload_n d_UF_frees_55 rfl ?_
        refine A_cI [.ref 14, .int x1] [] (ct_UF_181 rfl) d_UF_frees_56 rfl rfl (by decide) (Nat.le_of_ble_eq_true rfl) (rcA_o (c := 10) rfl (vA_s (by decide)) rfl (by decide) rfl) (ok_Town_isDown (d := d + 6) H) (fun r10 h9 H => ?_)
        refine A_if_ne 165 d_UF_frees_59 (by decide) (fun z => ?_) (fun z => ?_)
        · have H := H.1 z
          refine A_sub (L' := [none, none, none, some (.int x3), some (.int (-1)), some (.int 0), none]) ⟨rfl, rfl, rfl, trivial⟩ ?_
          exact r_UF_frees_165   _ _ _ _ H
        · have H := H.2 z
          refine A_iconst 0 (by decide) d_UF_frees_62 ?_
          refine A_istore [some (.ref 0), some (.int x1), some (.int x2), some (.int x3), some (.int (-1)), some (.int 0), some (.int 0)] d_UF_frees_63 (by decide) rfl rfl ?_
          obtain ⟨n9, H⟩ := H
          exact r_UF_frees_65   n9 _ _ _ _ _ _ _ H
      · have H := H.2 z
        refine A_bipush (-7) (by decide) d_UF_frees_27 ?_
        exact A_iret d_UF_frees_29 rfl rfl H
  · have H := H.2 z
    refine A_bipush (-5) (by decide) d_UF_frees_8 ?_
    exact A_iret d_UF_frees_10 rfl rfl H
set_option maxRecDepth 20000 in
theorem ok_UF_frees {G : GG} {d : Nat} {Q : Int32 → AH → Prop} {x1 : Int32} {x2 : Int32} {x3 : Int32} {h : AH} (H : p_UF_frees Q x1 x2 x3 h) : WP G T1 m_UF_frees (d + 7) [.ref 0, .int x1, .int x2, .int x3] h 0 0 (iQ Q) := by
  exact WP.enter 3 (by decide) rfl rfl (r_UF_frees_0 x1 x2 x3 h H)
