theorem d_MO_taken_0 : decode prog_14_method_83_code 0 = .ok (.iload_n 2, 1) := by decide +kernel
theorem d_MO_taken_1 : decode prog_14_method_83_code 1 = .ok (.iconst 0, 1) := by decide +kernel
theorem d_MO_taken_2 : decode prog_14_method_83_code 2 = .ok (.bipush 6, 2) := by decide +kernel
theorem d_MO_taken_4 : decode prog_14_method_83_code 4 = .ok (.invokestatic 93, 3) := by decide +kernel
theorem d_MO_taken_7 : decode prog_14_method_83_code 7 = .ok (.ifCond .ne 6, 3) := by decide +kernel
theorem d_MO_taken_10 : decode prog_14_method_83_code 10 = .ok (.bipush (-2), 2) := by decide +kernel
theorem d_MO_taken_12 : decode prog_14_method_83_code 12 = .ok (.ireturn, 1) := by decide +kernel
theorem d_MO_taken_13 : decode prog_14_method_83_code 13 = .ok (.iload_n 1, 1) := by decide +kernel
theorem d_MO_taken_14 : decode prog_14_method_83_code 14 = .ok (.iconst 0, 1) := by decide +kernel
theorem d_MO_taken_15 : decode prog_14_method_83_code 15 = .ok (.bipush 13, 2) := by decide +kernel
theorem d_MO_taken_17 : decode prog_14_method_83_code 17 = .ok (.invokestatic 93, 3) := by decide +kernel
theorem d_MO_taken_20 : decode prog_14_method_83_code 20 = .ok (.ifCond .ne 6, 3) := by decide +kernel
theorem d_MO_taken_23 : decode prog_14_method_83_code 23 = .ok (.bipush (-12), 2) := by decide +kernel
theorem d_MO_taken_25 : decode prog_14_method_83_code 25 = .ok (.ireturn, 1) := by decide +kernel
theorem d_MO_taken_26 : decode prog_14_method_83_code 26 = .ok (.iload_n 1, 1) := by decide +kernel
theorem d_MO_taken_27 : decode prog_14_method_83_code 27 = .ok (.bipush 7, 2) := by decide +kernel
theorem d_MO_taken_29 : decode prog_14_method_83_code 29 = .ok (.if_icmp .ge 42, 3) := by decide +kernel
theorem d_MO_taken_32 : decode prog_14_method_83_code 32 = .ok (.iload_n 1, 1) := by decide +kernel
theorem d_MO_taken_33 : decode prog_14_method_83_code 33 = .ok (.aload_n 0, 1) := by decide +kernel
theorem d_MO_taken_34 : decode prog_14_method_83_code 34 = .ok (.getfield 90, 3) := by decide +kernel
theorem d_MO_taken_37 : decode prog_14_method_83_code 37 = .ok (.if_icmp .lt 8, 3) := by decide +kernel
theorem d_MO_taken_40 : decode prog_14_method_83_code 40 = .ok (.bipush (-11), 2) := by decide +kernel
theorem d_MO_taken_42 : decode prog_14_method_83_code 42 = .ok (.goto 28, 3) := by decide +kernel
theorem d_MO_taken_45 : decode prog_14_method_83_code 45 = .ok (.iload_n 2, 1) := by decide +kernel
theorem d_MO_taken_46 : decode prog_14_method_83_code 46 = .ok (.bipush 6, 2) := by decide +kernel
theorem d_MO_taken_48 : decode prog_14_method_83_code 48 = .ok (.if_icmp .ge 20, 3) := by decide +kernel
theorem d_MO_taken_51 : decode prog_14_method_83_code 51 = .ok (.aload_n 0, 1) := by decide +kernel
theorem d_MO_taken_52 : decode prog_14_method_83_code 52 = .ok (.getfield 7, 3) := by decide +kernel
theorem d_MO_taken_55 : decode prog_14_method_83_code 55 = .ok (.iload_n 1, 1) := by decide +kernel
theorem d_MO_taken_56 : decode prog_14_method_83_code 56 = .ok (.iaload, 1) := by decide +kernel
theorem d_MO_taken_57 : decode prog_14_method_83_code 57 = .ok (.iload_n 2, 1) := by decide +kernel
theorem d_MO_taken_58 : decode prog_14_method_83_code 58 = .ok (.invokestatic 299, 3) := by decide +kernel
theorem d_MO_taken_61 : decode prog_14_method_83_code 61 = .ok (.ifCond .eq 7, 3) := by decide +kernel
theorem d_MO_taken_64 : decode prog_14_method_83_code 64 = .ok (.iload_n 1, 1) := by decide +kernel
theorem d_MO_taken_65 : decode prog_14_method_83_code 65 = .ok (.goto 5, 3) := by decide +kernel
theorem d_MO_taken_68 : decode prog_14_method_83_code 68 = .ok (.bipush (-13), 2) := by decide +kernel
theorem d_MO_taken_70 : decode prog_14_method_83_code 70 = .ok (.ireturn, 1) := by decide +kernel
theorem d_MO_taken_71 : decode prog_14_method_83_code 71 = .ok (.iload_n 1, 1) := by decide +kernel
theorem d_MO_taken_72 : decode prog_14_method_83_code 72 = .ok (.bipush 7, 2) := by decide +kernel
theorem d_MO_taken_74 : decode prog_14_method_83_code 74 = .ok (.isub, 1) := by decide +kernel
theorem d_MO_taken_75 : decode prog_14_method_83_code 75 = .ok (.aload_n 0, 1) := by decide +kernel
theorem d_MO_taken_76 : decode prog_14_method_83_code 76 = .ok (.getfield 90, 3) := by decide +kernel
theorem d_MO_taken_79 : decode prog_14_method_83_code 79 = .ok (.if_icmp .ge 19, 3) := by decide +kernel
theorem d_MO_taken_82 : decode prog_14_method_83_code 82 = .ok (.aload_n 0, 1) := by decide +kernel
theorem d_MO_taken_83 : decode prog_14_method_83_code 83 = .ok (.getfield 22, 3) := by decide +kernel
theorem d_MO_taken_86 : decode prog_14_method_83_code 86 = .ok (.iload_n 1, 1) := by decide +kernel
theorem d_MO_taken_87 : decode prog_14_method_83_code 87 = .ok (.bipush 7, 2) := by decide +kernel
theorem d_MO_taken_89 : decode prog_14_method_83_code 89 = .ok (.isub, 1) := by decide +kernel
theorem d_MO_taken_90 : decode prog_14_method_83_code 90 = .ok (.iaload, 1) := by decide +kernel
theorem d_MO_taken_91 : decode prog_14_method_83_code 91 = .ok (.ifCond .le 7, 3) := by decide +kernel
theorem d_MO_taken_94 : decode prog_14_method_83_code 94 = .ok (.iconst 1, 1) := by decide +kernel
theorem d_MO_taken_95 : decode prog_14_method_83_code 95 = .ok (.goto 4, 3) := by decide +kernel
theorem d_MO_taken_98 : decode prog_14_method_83_code 98 = .ok (.iconst 0, 1) := by decide +kernel
theorem d_MO_taken_99 : decode prog_14_method_83_code 99 = .ok (.istore_n 3, 1) := by decide +kernel
theorem d_MO_taken_100 : decode prog_14_method_83_code 100 = .ok (.iload_n 3, 1) := by decide +kernel
theorem d_MO_taken_101 : decode prog_14_method_83_code 101 = .ok (.ifCond .ne 8, 3) := by decide +kernel
theorem d_MO_taken_104 : decode prog_14_method_83_code 104 = .ok (.bipush (-11), 2) := by decide +kernel
theorem d_MO_taken_106 : decode prog_14_method_83_code 106 = .ok (.goto 23, 3) := by decide +kernel
theorem d_MO_taken_109 : decode prog_14_method_83_code 109 = .ok (.iload_n 2, 1) := by decide +kernel
theorem d_MO_taken_110 : decode prog_14_method_83_code 110 = .ok (.bipush 6, 2) := by decide +kernel
theorem d_MO_taken_112 : decode prog_14_method_83_code 112 = .ok (.if_icmp .ne 15, 3) := by decide +kernel
theorem d_MO_taken_115 : decode prog_14_method_83_code 115 = .ok (.aload_n 0, 1) := by decide +kernel
theorem d_MO_taken_116 : decode prog_14_method_83_code 116 = .ok (.getfield 22, 3) := by decide +kernel
theorem d_MO_taken_119 : decode prog_14_method_83_code 119 = .ok (.iload_n 1, 1) := by decide +kernel
theorem d_MO_taken_120 : decode prog_14_method_83_code 120 = .ok (.bipush 7, 2) := by decide +kernel
theorem d_MO_taken_122 : decode prog_14_method_83_code 122 = .ok (.isub, 1) := by decide +kernel
theorem d_MO_taken_123 : decode prog_14_method_83_code 123 = .ok (.iaload, 1) := by decide +kernel
theorem d_MO_taken_124 : decode prog_14_method_83_code 124 = .ok (.goto 5, 3) := by decide +kernel
theorem d_MO_taken_127 : decode prog_14_method_83_code 127 = .ok (.bipush (-13), 2) := by decide +kernel
theorem d_MO_taken_129 : decode prog_14_method_83_code 129 = .ok (.ireturn, 1) := by decide +kernel
def p_MO_taken_99 (Q : Int32 → AH → Prop) (x1 : Int32) (x2 : Int32) (s0 : Int32) (h : AH) : Prop := ((¬ s0 = 0 → ((¬ x2 = 6 → Q (-13) h) ∧ (x2 = 6 → inb (x1 - 7) 7 ∧ Q (h.1 64 (x1 - 7)) h))) ∧ (s0 = 0 → Q (-11) h))
def p_MO_taken_98 (Q : Int32 → AH → Prop) (x1 : Int32) (x2 : Int32) (h : AH) : Prop := p_MO_taken_99 Q   x1 x2 0 h
def p_MO_taken (Q : Int32 → AH → Prop) (x1 : Int32) (x2 : Int32) (h : AH) : Prop := p_MO_in (fun r2 h1 => ((¬ r2 = 0 → p_MO_in (fun r4 h3 => ((¬ r4 = 0 → ((7 ≤ x1 → (((h3.1 59 0) ≤ (x1 - 7) → p_MO_taken_98 Q   x1 x2 h3) ∧ (¬ (h3.1 59 0) ≤ (x1 - 7) → inb (x1 - 7) 7 ∧ (((h3.1 64 (x1 - 7)) ≤ 0 → p_MO_taken_98 Q   x1 x2 h3) ∧ (¬ (h3.1 64 (x1 - 7)) ≤ 0 → p_MO_taken_99 Q   x1 x2 1 h3))))) ∧ (¬ 7 ≤ x1 → ((x1 < (h3.1 59 0) → ((6 ≤ x2 → Q (-13) h3) ∧ (¬ 6 ≤ x2 → inb x1 7 ∧ p_MO_isUnder (fun r8 h7 => ((r8 = 0 → Q (-13) h7) ∧ (¬ r8 = 0 → Q x1 h7))) (h3.1 60 x1) x2 h3))) ∧ (¬ x1 < (h3.1 59 0) → Q (-11) h3))))) ∧ (r4 = 0 → Q (-12) h3))) x1 0 13 h1) ∧ (r2 = 0 → Q (-2) h1))) x2 0 6 h
set_option maxRecDepth 20000 in
theorem r_MO_taken_99 {G : GG} {d : Nat} {Q : Int32 → AH → Prop} (x1 : Int32) (x2 : Int32) (s0 : Int32) (h : AH) (H : p_MO_taken_99 Q x1 x2 s0 h) : Att G T1 m_MO_taken (d + 1) 99 [some (.ref 59), some (.int x1), some (.int x2), none] [.int s0] h 0 0 (iQ Q) := by
  refine A_istore_n [some (.ref 59), some (.int x1), some (.int x2), some (.int s0)] d_MO_taken_99 (by decide) rfl rfl ?_
  refine A_iload_n d_MO_taken_100 rfl ?_
  refine A_if_ne 109 d_MO_taken_101 (by decide) (fun z => ?_) (fun z => ?_)
  · have H := H.1 z
    refine A_iload_n d_MO_taken_109 rfl ?_
    refine A_bipush 6 (by decide) d_MO_taken_110 ?_
    refine A_icmp_ne 127 d_MO_taken_112 (by decide) (fun z => ?_) (fun z => ?_)
    · have H := H.1 z
      refine A_bipush (-13) (by decide) d_MO_taken_127 ?_
      exact A_iret d_MO_taken_129 rfl rfl H
    · have H := H.2 z
      refine A_aload_n d_MO_taken_115 rfl ?_
      refine A_get (v := .ref 64) d_MO_taken_116 (fo_MO_22_12 rfl) (vA_s (by decide)) rfl (by first | rfl | (show Value.int _ = Value.int _; simp [wI, wL, wR, wC, up])) ?_
      refine A_iload_n d_MO_taken_119 rfl ?_
      refine A_bipush 7 (by decide) d_MO_taken_120 ?_
      refine A_isub d_MO_taken_122 ?_
      obtain ⟨c1, H⟩ := H
      refine A_ialdv (n := 7) (v := (h.1 64 (x1 - 7))) d_MO_taken_123 (vA_s (by decide)) rfl c1 rfl ?_
      refine A_goto 129 d_MO_taken_124 (by decide) ?_
      exact A_iret d_MO_taken_129 rfl rfl H
  · have H := H.2 z
    refine A_bipush (-11) (by decide) d_MO_taken_104 ?_
    refine A_goto 129 d_MO_taken_106 (by decide) ?_
    exact A_iret d_MO_taken_129 rfl rfl H
set_option maxRecDepth 20000 in
theorem r_MO_taken_98 {G : GG} {d : Nat} {Q : Int32 → AH → Prop} (x1 : Int32) (x2 : Int32) (h : AH) (H : p_MO_taken_98 Q x1 x2 h) : Att G T1 m_MO_taken (d + 1) 98 [some (.ref 59), some (.int x1), some (.int x2), none] [] h 0 0 (iQ Q) := by
  refine A_iconst 0 (by decide) d_MO_taken_98 ?_
  exact r_MO_taken_99   _ _ _ _ H
set_option maxRecDepth 20000 in
theorem r_MO_taken_0 {G : GG} {d : Nat} {Q : Int32 → AH → Prop} (x1 : Int32) (x2 : Int32) (h : AH) (H : p_MO_taken Q x1 x2 h) : Att G T1 m_MO_taken (d + 1) 0 [some (.ref 59), some (.int x1), some (.int x2), none] [] h 0 0 (iQ Q) := by
  refine A_iload_n d_MO_taken_0 rfl ?_
  refine A_iconst 0 (by decide) d_MO_taken_1 ?_
  refine A_bipush 6 (by decide) d_MO_taken_2 ?_
  refine A_cI [.int x2, .int 0, .int 6] [] (ct_MO_93 rfl) d_MO_taken_4 rfl rfl (by decide) (Nat.le_of_ble_eq_true rfl) trivial (ok_MO_in (d := d) H) (fun r2 h1 H => ?_)
  refine A_if_ne 13 d_MO_taken_7 (by decide) (fun z => ?_) (fun z => ?_)
  · have H := H.1 z
    refine A_iload_n d_MO_taken_13 rfl ?_
    refine A_iconst 0 (by decide) d_MO_taken_14 ?_
    refine A_bipush 13 (by decide) d_MO_taken_15 ?_
    refine A_cI [.int x1, .int 0, .int 13] [] (ct_MO_93 rfl) d_MO_taken_17 rfl rfl (by decide) (Nat.le_of_ble_eq_true rfl) trivial (ok_MO_in (d := d) H) (fun r4 h3 H => ?_)
    refine A_if_ne 26 d_MO_taken_20 (by decide) (fun z => ?_) (fun z => ?_)
    · have H := H.1 z
      refine A_iload_n d_MO_taken_26 rfl ?_
      refine A_bipush 7 (by decide) d_MO_taken_27 ?_
      refine A_icmp_ge 71 d_MO_taken_29 (by decide) (fun z => ?_) (fun z => ?_)
      · have H := H.1 z
        refine A_iload_n d_MO_taken_71 rfl ?_
        refine A_bipush 7 (by decide) d_MO_taken_72 ?_
        refine A_isub d_MO_taken_74 ?_
        refine A_aload_n d_MO_taken_75 rfl ?_
        refine A_get (v := .int (h3.1 59 0)) d_MO_taken_76 (fo_MO_90_12 rfl) (vA_s (by decide)) rfl (by first | rfl | (show Value.int _ = Value.int _; simp [wI, wL, wR, wC, up])) ?_
        refine A_icmp_ge 98 d_MO_taken_79 (by decide) (fun z => ?_) (fun z => ?_)
        · have H := H.1 z
          exact r_MO_taken_98   _ _ _ H
        · have H := H.2 z
          refine A_aload_n d_MO_taken_82 rfl ?_
          refine A_get (v := .ref 64) d_MO_taken_83 (fo_MO_22_12 rfl) (vA_s (by decide)) rfl (by first | rfl | (show Value.int _ = Value.int _; simp [wI, wL, wR, wC, up])) ?_
          refine A_iload_n d_MO_taken_86 rfl ?_
          refine A_bipush 7 (by decide) d_MO_taken_87 ?_
          refine A_isub d_MO_taken_89 ?_
          obtain ⟨c5, H⟩ := H
          refine A_ialdv (n := 7) (v := (h3.1 64 (x1 - 7))) d_MO_taken_90 (vA_s (by decide)) rfl c5 rfl ?_
          refine A_if_le 98 d_MO_taken_91 (by decide) (fun z => ?_) (fun z => ?_)
          · have H := H.1 z
            exact r_MO_taken_98   _ _ _ H
          · have H := H.2 z
            refine A_iconst 1 (by decide) d_MO_taken_94 ?_
            refine A_goto 99 d_MO_taken_95 (by decide) ?_
            exact r_MO_taken_99   _ _ _ _ H
      · have H := H.2 z
        refine A_iload_n d_MO_taken_32 rfl ?_
        refine A_aload_n d_MO_taken_33 rfl ?_
        refine A_get (v := .int (h3.1 59 0)) d_MO_taken_34 (fo_MO_90_12 rfl) (vA_s (by decide)) rfl (by first | rfl | (show Value.int _ = Value.int _; simp [wI, wL, wR, wC, up])) ?_
        refine A_icmp_lt 45 d_MO_taken_37 (by decide) (fun z => ?_) (fun z => ?_)
        · have H := H.1 z
          refine A_iload_n d_MO_taken_45 rfl ?_
          refine A_bipush 6 (by decide) d_MO_taken_46 ?_
          refine A_icmp_ge 68 d_MO_taken_48 (by decide) (fun z => ?_) (fun z => ?_)
          · have H := H.1 z
            refine A_bipush (-13) (by decide) d_MO_taken_68 ?_
            exact A_iret d_MO_taken_70 rfl rfl H
          · have H := H.2 z
            refine A_aload_n d_MO_taken_51 rfl ?_
            refine A_get (v := .ref 60) d_MO_taken_52 (fo_MO_7_12 rfl) (vA_s (by decide)) rfl (by first | rfl | (show Value.int _ = Value.int _; simp [wI, wL, wR, wC, up])) ?_
            refine A_iload_n d_MO_taken_55 rfl ?_
            obtain ⟨c6, H⟩ := H
            refine A_ialdv (n := 7) (v := (h3.1 60 x1)) d_MO_taken_56 (vA_s (by decide)) rfl c6 rfl ?_
            refine A_iload_n d_MO_taken_57 rfl ?_
            refine A_cI [.int (h3.1 60 x1), .int x2] [] (ct_MO_299 rfl) d_MO_taken_58 rfl rfl (by decide) (Nat.le_of_ble_eq_true rfl) trivial (ok_MO_isUnder (d := d) H) (fun r8 h7 H => ?_)
            refine A_if_eq 68 d_MO_taken_61 (by decide) (fun z => ?_) (fun z => ?_)
            · have H := H.1 z
              refine A_bipush (-13) (by decide) d_MO_taken_68 ?_
              exact A_iret d_MO_taken_70 rfl rfl H
            · have H := H.2 z
              refine A_iload_n d_MO_taken_64 rfl ?_
              refine A_goto 70 d_MO_taken_65 (by decide) ?_
              exact A_iret d_MO_taken_70 rfl rfl H
        · have H := H.2 z
          refine A_bipush (-11) (by decide) d_MO_taken_40 ?_
          refine A_goto 70 d_MO_taken_42 (by decide) ?_
          exact A_iret d_MO_taken_70 rfl rfl H
    · have H := H.2 z
      refine A_bipush (-12) (by decide) d_MO_taken_23 ?_
      exact A_iret d_MO_taken_25 rfl rfl H
  · have H := H.2 z
    refine A_bipush (-2) (by decide) d_MO_taken_10 ?_
    exact A_iret d_MO_taken_12 rfl rfl H
set_option maxRecDepth 20000 in
theorem ok_MO_taken {G : GG} {d : Nat} {Q : Int32 → AH → Prop} {x1 : Int32} {x2 : Int32} {h : AH} (H : p_MO_taken Q x1 x2 h) : WP G T1 m_MO_taken (d + 1) [.ref 59, .int x1, .int x2] h 0 0 (iQ Q) := by
  exact WP.enter 1 (by decide) rfl rfl (r_MO_taken_0 x1 x2 h H)
theorem d_Reader_number_0 : decode prog_9_method_15_code 0 = .ok (.aload_n 0, 1) := by decide +kernel
theorem d_Reader_number_1 : decode prog_9_method_15_code 1 = .ok (.iconst 0, 1) := by decide +kernel
theorem d_Reader_number_2 : decode prog_9_method_15_code 2 = .ok (.putfield 78, 3) := by decide +kernel
theorem d_Reader_number_5 : decode prog_9_method_15_code 5 = .ok (.aload_n 0, 1) := by decide +kernel
theorem d_Reader_number_6 : decode prog_9_method_15_code 6 = .ok (.getfield 34, 3) := by decide +kernel
theorem d_Reader_number_9 : decode prog_9_method_15_code 9 = .ok (.aload_n 0, 1) := by decide +kernel
theorem d_Reader_number_10 : decode prog_9_method_15_code 10 = .ok (.getfield 21, 3) := by decide +kernel
theorem d_Reader_number_13 : decode prog_9_method_15_code 13 = .ok (.if_icmp .ge 55, 3) := by decide +kernel
theorem d_Reader_number_16 : decode prog_9_method_15_code 16 = .ok (.aload_n 0, 1) := by decide +kernel
theorem d_Reader_number_17 : decode prog_9_method_15_code 17 = .ok (.getfield 9, 3) := by decide +kernel
theorem d_Reader_number_20 : decode prog_9_method_15_code 20 = .ok (.aload_n 0, 1) := by decide +kernel
theorem d_Reader_number_21 : decode prog_9_method_15_code 21 = .ok (.getfield 34, 3) := by decide +kernel
theorem d_Reader_number_24 : decode prog_9_method_15_code 24 = .ok (.iaload, 1) := by decide +kernel
theorem d_Reader_number_25 : decode prog_9_method_15_code 25 = .ok (.invokestatic 90, 3) := by decide +kernel
theorem d_Reader_number_28 : decode prog_9_method_15_code 28 = .ok (.ifCond .eq 40, 3) := by decide +kernel
theorem d_Reader_number_31 : decode prog_9_method_15_code 31 = .ok (.aload_n 0, 1) := by decide +kernel
theorem d_Reader_number_32 : decode prog_9_method_15_code 32 = .ok (.aload_n 0, 1) := by decide +kernel
theorem d_Reader_number_33 : decode prog_9_method_15_code 33 = .ok (.getfield 78, 3) := by decide +kernel
theorem d_Reader_number_36 : decode prog_9_method_15_code 36 = .ok (.bipush 10, 2) := by decide +kernel
theorem d_Reader_number_38 : decode prog_9_method_15_code 38 = .ok (.imul, 1) := by decide +kernel
theorem d_Reader_number_39 : decode prog_9_method_15_code 39 = .ok (.aload_n 0, 1) := by decide +kernel
theorem d_Reader_number_40 : decode prog_9_method_15_code 40 = .ok (.getfield 9, 3) := by decide +kernel
theorem d_Reader_number_43 : decode prog_9_method_15_code 43 = .ok (.aload_n 0, 1) := by decide +kernel
theorem d_Reader_number_44 : decode prog_9_method_15_code 44 = .ok (.getfield 34, 3) := by decide +kernel
theorem d_Reader_number_47 : decode prog_9_method_15_code 47 = .ok (.iaload, 1) := by decide +kernel
theorem d_Reader_number_48 : decode prog_9_method_15_code 48 = .ok (.iadd, 1) := by decide +kernel
theorem d_Reader_number_49 : decode prog_9_method_15_code 49 = .ok (.bipush 48, 2) := by decide +kernel
theorem d_Reader_number_51 : decode prog_9_method_15_code 51 = .ok (.isub, 1) := by decide +kernel
theorem d_Reader_number_52 : decode prog_9_method_15_code 52 = .ok (.putfield 78, 3) := by decide +kernel
theorem d_Reader_number_55 : decode prog_9_method_15_code 55 = .ok (.aload_n 0, 1) := by decide +kernel
theorem d_Reader_number_56 : decode prog_9_method_15_code 56 = .ok (.dup, 1) := by decide +kernel
theorem d_Reader_number_57 : decode prog_9_method_15_code 57 = .ok (.getfield 34, 3) := by decide +kernel
theorem d_Reader_number_60 : decode prog_9_method_15_code 60 = .ok (.iconst 1, 1) := by decide +kernel
theorem d_Reader_number_61 : decode prog_9_method_15_code 61 = .ok (.iadd, 1) := by decide +kernel
theorem d_Reader_number_62 : decode prog_9_method_15_code 62 = .ok (.putfield 34, 3) := by decide +kernel
theorem d_Reader_number_65 : decode prog_9_method_15_code 65 = .ok (.goto (-60), 3) := by decide +kernel
theorem d_Reader_number_68 : decode prog_9_method_15_code 68 = .ok (.aload_n 0, 1) := by decide +kernel
theorem d_Reader_number_69 : decode prog_9_method_15_code 69 = .ok (.aload_n 0, 1) := by decide +kernel
theorem d_Reader_number_70 : decode prog_9_method_15_code 70 = .ok (.getfield 34, 3) := by decide +kernel
theorem d_Reader_number_73 : decode prog_9_method_15_code 73 = .ok (.aload_n 0, 1) := by decide +kernel
theorem d_Reader_number_74 : decode prog_9_method_15_code 74 = .ok (.getfield 50, 3) := by decide +kernel
theorem d_Reader_number_77 : decode prog_9_method_15_code 77 = .ok (.isub, 1) := by decide +kernel
theorem d_Reader_number_78 : decode prog_9_method_15_code 78 = .ok (.iconst 4, 1) := by decide +kernel
theorem d_Reader_number_79 : decode prog_9_method_15_code 79 = .ok (.if_icmp .le 7, 3) := by decide +kernel
theorem d_Reader_number_82 : decode prog_9_method_15_code 82 = .ok (.iconst 1, 1) := by decide +kernel
theorem d_Reader_number_83 : decode prog_9_method_15_code 83 = .ok (.goto 4, 3) := by decide +kernel
theorem d_Reader_number_86 : decode prog_9_method_15_code 86 = .ok (.iconst 2, 1) := by decide +kernel
theorem d_Reader_number_87 : decode prog_9_method_15_code 87 = .ok (.putfield 53, 3) := by decide +kernel
theorem d_Reader_number_90 : decode prog_9_method_15_code 90 = .ok (.return_, 1) := by decide +kernel
def p_Reader_number_68 (Q : AH → Prop) (h : AH) : Prop := ((((h.1 25 3) - (h.1 25 4)) ≤ 4 → Q (wI h 25 5 2)) ∧ (¬ ((h.1 25 3) - (h.1 25 4)) ≤ 4 → Q (wI h 25 5 1)))
def p_Reader_number_5 (Q : AH → Prop) : Nat → AH → Prop
  | 0 => fun  _ => False
  | n + 1 => fun h => let K5 := p_Reader_number_5 Q n; (((h.1 25 1) ≤ (h.1 25 3) → p_Reader_number_68 Q   h) ∧ (¬ (h.1 25 1) ≤ (h.1 25 3) → 0 < rR T1 h 25 0 ∧ vA T1 h (rR T1 h 25 0 - 1) ∧ (rS T1 h (rR T1 h 25 0 - 1)).1 = 100 ∧ inb (h.1 25 3) ((rS T1 h (rR T1 h 25 0 - 1)).2) ∧ p_Reader_isDigit (fun r6 h5 => ((r6 = 0 → p_Reader_number_68 Q   h5) ∧ (¬ r6 = 0 → 0 < rR T1 h5 25 0 ∧ vA T1 h5 (rR T1 h5 25 0 - 1) ∧ (rS T1 h5 (rR T1 h5 25 0 - 1)).1 = 100 ∧ inb (h5.1 25 3) ((rS T1 h5 (rR T1 h5 25 0 - 1)).2) ∧ K5 (wI (wI h5 25 6 ((((h5.1 25 6) * 10) + (h5.1 (rR T1 h5 25 0 - 1) (h5.1 25 3))) - 48)) 25 3 ((h5.1 25 3) + 1))))) (h.1 (rR T1 h 25 0 - 1) (h.1 25 3)) h))
def p_Reader_number (Q : AH → Prop) (h : AH) : Prop := ∃ n, p_Reader_number_5 Q   n (wI h 25 6 0)
set_option maxRecDepth 20000 in
theorem r_Reader_number_68 {G : GG} {d : Nat} {Q : AH → Prop} (h : AH) (H : p_Reader_number_68 Q h) : Att G T1 m_Reader_number (d + 2) 68 [some (.ref 25)] [] h 0 0 (vQ Q) := by
  refine A_aload_n d_Reader_number_68 rfl ?_
  refine A_aload_n d_Reader_number_69 rfl ?_
  refine A_get (v := .int (h.1 25 3)) d_Reader_number_70 (fo_Reader_34_7 rfl) (vA_s (by decide)) rfl (by first | rfl | (show Value.int _ = Value.int _; simp [wI, wL, wR, wC, up])) ?_
  refine A_aload_n d_Reader_number_73 rfl ?_
  refine A_get (v := .int (h.1 25 4)) d_Reader_number_74 (fo_Reader_50_7 rfl) (vA_s (by decide)) rfl (by first | rfl | (show Value.int _ = Value.int _; simp [wI, wL, wR, wC, up])) ?_
  refine A_isub d_Reader_number_77 ?_
  refine A_iconst 4 (by decide) d_Reader_number_78 ?_
  refine A_icmp_le 86 d_Reader_number_79 (by decide) (fun z => ?_) (fun z => ?_)
  · have H := H.1 z
    refine A_iconst 2 (by decide) d_Reader_number_86 ?_
    refine A_putI (k := 5) d_Reader_number_87 (fo_Reader_53_7 rfl) (Or.inr ⟨rfl, _, ft_7_5⟩) (fun z => by cases z) rfl (vA_s (by decide)) rfl rfl rfl ?_
    exact A_ret d_Reader_number_90 rfl H
  · have H := H.2 z
    refine A_iconst 1 (by decide) d_Reader_number_82 ?_
    refine A_goto 87 d_Reader_number_83 (by decide) ?_
    refine A_putI (k := 5) d_Reader_number_87 (fo_Reader_53_7 rfl) (Or.inr ⟨rfl, _, ft_7_5⟩) (fun z => by cases z) rfl (vA_s (by decide)) rfl rfl rfl ?_
    exact A_ret d_Reader_number_90 rfl H
set_option maxRecDepth 20000 in
theorem r_Reader_number_5 {G : GG} {d : Nat} {Q : AH → Prop} : ∀ (n : Nat) (h : AH), p_Reader_number_5 Q n h → Att G T1 m_Reader_number (d + 2) 5 [some (.ref 25)] [] h 0 0 (vQ Q) := by
  intro n
  induction n with
  | zero => intro h H; exact H.elim
  | succ n k5 =>
    intro h H
    refine A_aload_n d_Reader_number_5 rfl ?_
    refine A_get (v := .int (h.1 25 3)) d_Reader_number_6 (fo_Reader_34_7 rfl) (vA_s (by decide)) rfl (by first | rfl | (show Value.int _ = Value.int _; simp [wI, wL, wR, wC, up])) ?_
    refine A_aload_n d_Reader_number_9 rfl ?_
    refine A_get (v := .int (h.1 25 1)) d_Reader_number_10 (fo_Reader_21_7 rfl) (vA_s (by decide)) rfl (by first | rfl | (show Value.int _ = Value.int _; simp [wI, wL, wR, wC, up])) ?_
    refine A_icmp_ge 68 d_Reader_number_13 (by decide) (fun z => ?_) (fun z => ?_)
    · have H := H.1 z
      exact r_Reader_number_68   _ H
    · have H := H.2 z
      refine A_aload_n d_Reader_number_16 rfl ?_
      obtain ⟨c1, H⟩ := H
      refine A_get (v := .ref (rR T1 h 25 0 - 1)) d_Reader_number_17 (fo_Reader_9_7 rfl) (vA_s (by decide)) rfl (vR_pos c1) ?_
      refine A_aload_n d_Reader_number_20 rfl ?_
      refine A_get (v := .int (h.1 25 3)) d_Reader_number_21 (fo_Reader_34_7 rfl) (vA_s (by decide)) rfl (by first | rfl | (show Value.int _ = Value.int _; simp [wI, wL, wR, wC, up])) ?_
      obtain ⟨c2, H⟩ := H
      obtain ⟨c3, H⟩ := H
      obtain ⟨c4, H⟩ := H
      refine A_ialdv (n := _) (v := (h.1 (rR T1 h 25 0 - 1) (h.1 25 3))) d_Reader_number_24 c2 (rS_ex c3) c4 rfl ?_
      refine A_cI [.int (h.1 (rR T1 h 25 0 - 1) (h.1 25 3))] [] (ct_Reader_90 rfl) d_Reader_number_25 rfl rfl (by decide) (Nat.le_of_ble_eq_true rfl) trivial (ok_Reader_isDigit (d := d) H) (fun r6 h5 H => ?_)
      refine A_if_eq 68 d_Reader_number_28 (by decide) (fun z => ?_) (fun z => ?_)
      · have H := H.1 z
        exact r_Reader_number_68   _ H
      · have H := H.2 z
        refine A_aload_n d_Reader_number_31 rfl ?_
        refine A_aload_n d_Reader_number_32 rfl ?_
        refine A_get (v := .int (h5.1 25 6)) d_Reader_number_33 (fo_Reader_78_7 rfl) (vA_s (by decide)) rfl (by first | rfl | (show Value.int _ = Value.int _; simp [wI, wL, wR, wC, up])) ?_
        refine A_bipush 10 (by decide) d_Reader_number_36 ?_
        refine A_imul d_Reader_number_38 ?_
        refine A_aload_n d_Reader_number_39 rfl ?_
        obtain ⟨c7, H⟩ := H
        refine A_get (v := .ref (rR T1 h5 25 0 - 1)) d_Reader_number_40 (fo_Reader_9_7 rfl) (vA_s (by decide)) rfl (vR_pos c7) ?_
        refine A_aload_n d_Reader_number_43 rfl ?_
        refine A_get (v := .int (h5.1 25 3)) d_Reader_number_44 (fo_Reader_34_7 rfl) (vA_s (by decide)) rfl (by first | rfl | (show Value.int _ = Value.int _; simp [wI, wL, wR, wC, up])) ?_
        obtain ⟨c8, H⟩ := H
        obtain ⟨c9, H⟩ := H
        obtain ⟨c10, H⟩ := H
        refine A_ialdv (n := _) (v := (h5.1 (rR T1 h5 25 0 - 1) (h5.1 25 3))) d_Reader_number_47 c8 (rS_ex c9) c10 rfl ?_
        refine A_iadd d_Reader_number_48 ?_
        refine A_bipush 48 (by decide) d_Reader_number_49 ?_
        refine A_isub d_Reader_number_51 ?_
        refine A_putI (k := 6) d_Reader_number_52 (fo_Reader_78_7 rfl) (Or.inr ⟨rfl, _, ft_7_6⟩) (fun z => by cases z) rfl (vA_s (by decide)) rfl rfl rfl ?_
        refine A_aload_n d_Reader_number_55 rfl ?_
        refine A_dup rfl d_Reader_number_56 ?_
        refine A_get (v := .int (h5.1 25 3)) d_Reader_number_57 (fo_Reader_34_7 rfl) (vA_s (by decide)) rfl (by first | rfl | (show Value.int _ = Value.int _; simp [wI, wL, wR, wC, up])) ?_
        refine A_iconst 1 (by decide) d_Reader_number_60 ?_
        refine A_iadd d_Reader_number_61 ?_
        refine A_putI (k := 3) d_Reader_number_62 (fo_Reader_34_7 rfl) (Or.inr ⟨rfl, _, ft_7_3⟩) (fun z => by cases z) rfl (vA_s (by decide)) rfl rfl rfl ?_
        refine A_goto 5 d_Reader_number_65 (by decide) ?_
        exact k5 _ H
set_option maxRecDepth 20000 in
theorem r_Reader_number_0 {G : GG} {d : Nat} {Q : AH → Prop} (h : AH) (H : p_Reader_number Q h) : Att G T1 m_Reader_number (d + 2) 0 [some (.ref 25)] [] h 0 0 (vQ Q) := by
  refine A_aload_n d_Reader_number_0 rfl ?_
  refine A_iconst 0 (by decide) d_Reader_number_1 ?_
  refine A_putI (k := 6) d_Reader_number_2 (fo_Reader_78_7 rfl) (Or.inr ⟨rfl, _, ft_7_6⟩) (fun z => by cases z) rfl (vA_s (by decide)) rfl rfl rfl ?_
  obtain ⟨n9, H⟩ := H
  exact r_Reader_number_5   n9 _ H
set_option maxRecDepth 20000 in
theorem ok_Reader_number {G : GG} {d : Nat} {Q : AH → Prop} {h : AH} (H : p_Reader_number Q h) : WP G T1 m_Reader_number (d + 2) [.ref 25] h 0 0 (vQ Q) := by
  exact WP.enter 0 (by decide) rfl rfl (r_Reader_number_0 h H)
theorem d_UF_count_0 : decode prog_1_method_2_code 0 = .ok (.iload_n 1, 1) := by decide +kernel
theorem d_UF_count_1 : decode prog_1_method_2_code 1 = .ok (.tableswitch 81 0 5 #[39, 47, 55, 63, 68, 76], 39) := by decide +kernel
theorem d_UF_count_40 : decode prog_1_method_2_code 40 = .ok (.aload_n 0, 1) := by decide +kernel
theorem d_UF_count_41 : decode prog_1_method_2_code 41 = .ok (.getfield 34, 3) := by decide +kernel
theorem d_UF_count_44 : decode prog_1_method_2_code 44 = .ok (.getfield 80, 3) := by decide +kernel
theorem d_UF_count_47 : decode prog_1_method_2_code 47 = .ok (.ireturn, 1) := by decide +kernel
theorem d_UF_count_48 : decode prog_1_method_2_code 48 = .ok (.aload_n 0, 1) := by decide +kernel
theorem d_UF_count_49 : decode prog_1_method_2_code 49 = .ok (.getfield 34, 3) := by decide +kernel
theorem d_UF_count_52 : decode prog_1_method_2_code 52 = .ok (.invokevirtual 83, 3) := by decide +kernel
theorem d_UF_count_55 : decode prog_1_method_2_code 55 = .ok (.ireturn, 1) := by decide +kernel
theorem d_UF_count_56 : decode prog_1_method_2_code 56 = .ok (.aload_n 0, 1) := by decide +kernel
theorem d_UF_count_57 : decode prog_1_method_2_code 57 = .ok (.getfield 34, 3) := by decide +kernel
theorem d_UF_count_60 : decode prog_1_method_2_code 60 = .ok (.invokevirtual 86, 3) := by decide +kernel
theorem d_UF_count_63 : decode prog_1_method_2_code 63 = .ok (.ireturn, 1) := by decide +kernel
theorem d_UF_count_64 : decode prog_1_method_2_code 64 = .ok (.aload_n 0, 1) := by decide +kernel
theorem d_UF_count_65 : decode prog_1_method_2_code 65 = .ok (.getfield 76, 3) := by decide +kernel
theorem d_UF_count_68 : decode prog_1_method_2_code 68 = .ok (.ireturn, 1) := by decide +kernel
theorem d_UF_count_69 : decode prog_1_method_2_code 69 = .ok (.aload_n 0, 1) := by decide +kernel
theorem d_UF_count_70 : decode prog_1_method_2_code 70 = .ok (.getfield 34, 3) := by decide +kernel
theorem d_UF_count_73 : decode prog_1_method_2_code 73 = .ok (.getfield 89, 3) := by decide +kernel
theorem d_UF_count_76 : decode prog_1_method_2_code 76 = .ok (.ireturn, 1) := by decide +kernel
theorem d_UF_count_77 : decode prog_1_method_2_code 77 = .ok (.aload_n 0, 1) := by decide +kernel
theorem d_UF_count_78 : decode prog_1_method_2_code 78 = .ok (.getfield 92, 3) := by decide +kernel
theorem d_UF_count_81 : decode prog_1_method_2_code 81 = .ok (.ireturn, 1) := by decide +kernel
theorem d_UF_count_82 : decode prog_1_method_2_code 82 = .ok (.bipush (-2), 2) := by decide +kernel
theorem d_UF_count_84 : decode prog_1_method_2_code 84 = .ok (.ireturn, 1) := by decide +kernel
def p_UF_count (Q : Int32 → AH → Prop) (x1 : Int32) (h : AH) : Prop := ((x1 = 0 → Q (h.1 5 3) h) ∧ (x1 = 1 → p_Town_chains (fun r2 h1 => Q r2 h1) 5 h) ∧ (x1 = 2 → p_Town_crowd (fun r4 h3 => Q r4 h3) 5 h) ∧ (x1 = 3 → Q (h.1 0 8) h) ∧ (x1 = 4 → Q (h.1 5 4) h) ∧ (x1 = 5 → Q (h.1 0 9) h) ∧ (¬ x1 = 0 → ¬ x1 = 1 → ¬ x1 = 2 → ¬ x1 = 3 → ¬ x1 = 4 → ¬ x1 = 5 → Q (-2) h))
set_option maxRecDepth 20000 in
theorem r_UF_count_0 {G : GG} {d : Nat} {Q : Int32 → AH → Prop} (x1 : Int32) (h : AH) (H : p_UF_count Q x1 h) : Att G T1 m_UF_count (d + 2) 0 [some (.ref 0), some (.int x1)] [] h 0 0 (iQ Q) := by
  refine A_iload_n d_UF_count_0 rfl ?_
  by_cases z0 : x1 = 0
  · have H := H.1 z0
    refine A_tsI 40 d_UF_count_1 (by rw [z0]; decide) (by rw [z0]; decide) (by rw [z0]; rfl) (by decide) ?_
    refine A_aload_n d_UF_count_40 rfl ?_
    refine A_get (v := .ref 5) d_UF_count_41 (fo_UF_34_11 rfl) (vA_s (by decide)) rfl (by first | rfl | (show Value.int _ = Value.int _; simp [wI, wL, wR, wC, up])) ?_
    refine A_get (v := .int (h.1 5 3)) d_UF_count_44 (fo_UF_80_10 rfl) (vA_s (by decide)) rfl (by first | rfl | (show Value.int _ = Value.int _; simp [wI, wL, wR, wC, up])) ?_
    exact A_iret d_UF_count_47 rfl rfl H
  · have H := H.2
    by_cases z1 : x1 = 1
    · have H := H.1 z1
      refine A_tsI 48 d_UF_count_1 (by rw [z1]; decide) (by rw [z1]; decide) (by rw [z1]; rfl) (by decide) ?_
      refine A_aload_n d_UF_count_48 rfl ?_
      refine A_get (v := .ref 5) d_UF_count_49 (fo_UF_34_11 rfl) (vA_s (by decide)) rfl (by first | rfl | (show Value.int _ = Value.int _; simp [wI, wL, wR, wC, up])) ?_
      refine A_cI [.ref 5] [] (ct_UF_83 rfl) d_UF_count_52 rfl rfl (by decide) (Nat.le_of_ble_eq_true rfl) (rcA_o (c := 10) rfl (vA_s (by decide)) rfl (by decide) rfl) (ok_Town_chains (d := d) H) (fun r2 h1 H => ?_)
      exact A_iret d_UF_count_55 rfl rfl H
    · have H := H.2
      by_cases z2 : x1 = 2
      · have H := H.1 z2
        refine A_tsI 56 d_UF_count_1 (by rw [z2]; decide) (by rw [z2]; decide) (by rw [z2]; rfl) (by decide) ?_
        refine A_aload_n d_UF_count_56 rfl ?_
        refine A_get (v := .ref 5) d_UF_count_57 (fo_UF_34_11 rfl) (vA_s (by decide)) rfl (by first | rfl | (show Value.int _ = Value.int _; simp [wI, wL, wR, wC, up])) ?_
        refine A_cI [.ref 5] [] (ct_UF_86 rfl) d_UF_count_60 rfl rfl (by decide) (Nat.le_of_ble_eq_true rfl) (rcA_o (c := 10) rfl (vA_s (by decide)) rfl (by decide) rfl) (ok_Town_crowd (d := d + 1) H) (fun r4 h3 H => ?_)
        exact A_iret d_UF_count_63 rfl rfl H
      · have H := H.2
        by_cases z3 : x1 = 3
        · have H := H.1 z3
          refine A_tsI 64 d_UF_count_1 (by rw [z3]; decide) (by rw [z3]; decide) (by rw [z3]; rfl) (by decide) ?_
          refine A_aload_n d_UF_count_64 rfl ?_
          refine A_get (v := .int (h.1 0 8)) d_UF_count_65 (fo_UF_76_11 rfl) (vA_s (by decide)) rfl (by first | rfl | (show Value.int _ = Value.int _; simp [wI, wL, wR, wC, up])) ?_
          exact A_iret d_UF_count_68 rfl rfl H
        · have H := H.2
          by_cases z4 : x1 = 4
          · have H := H.1 z4
            refine A_tsI 69 d_UF_count_1 (by rw [z4]; decide) (by rw [z4]; decide) (by rw [z4]; rfl) (by decide) ?_
            refine A_aload_n d_UF_count_69 rfl ?_
            refine A_get (v := .ref 5) d_UF_count_70 (fo_UF_34_11 rfl) (vA_s (by decide)) rfl (by first | rfl | (show Value.int _ = Value.int _; simp [wI, wL, wR, wC, up])) ?_
            refine A_get (v := .int (h.1 5 4)) d_UF_count_73 (fo_UF_89_10 rfl) (vA_s (by decide)) rfl (by first | rfl | (show Value.int _ = Value.int _; simp [wI, wL, wR, wC, up])) ?_
            exact A_iret d_UF_count_76 rfl rfl H
          · have H := H.2
            by_cases z5 : x1 = 5
            · have H := H.1 z5
              refine A_tsI 77 d_UF_count_1 (by rw [z5]; decide) (by rw [z5]; decide) (by rw [z5]; rfl) (by decide) ?_
              refine A_aload_n d_UF_count_77 rfl ?_
              refine A_get (v := .int (h.1 0 9)) d_UF_count_78 (fo_UF_92_11 rfl) (vA_s (by decide)) rfl (by first | rfl | (show Value.int _ = Value.int _; simp [wI, wL, wR, wC, up])) ?_
              exact A_iret d_UF_count_81 rfl rfl H
            · have H := H.2
              have H := H z0 z1 z2 z3 z4 z5
              refine A_tsO 82 d_UF_count_1 (by have t0 := lv_neT z0 (a := 0) (by decide); have t1 := lv_neT z1 (a := 1) (by decide); have t2 := lv_neT z2 (a := 2) (by decide); have t3 := lv_neT z3 (a := 3) (by decide); have t4 := lv_neT z4 (a := 4) (by decide); have t5 := lv_neT z5 (a := 5) (by decide); omega) (by decide) ?_
              refine A_bipush (-2) (by decide) d_UF_count_82 ?_
              exact A_iret d_UF_count_84 rfl rfl H
set_option maxRecDepth 20000 in
theorem ok_UF_count {G : GG} {d : Nat} {Q : Int32 → AH → Prop} {x1 : Int32} {h : AH} (H : p_UF_count Q x1 h) : WP G T1 m_UF_count (d + 2) [.ref 0, .int x1] h 0 0 (iQ Q) := by
  exact WP.enter 0 (by decide) rfl rfl (r_UF_count_0 x1 h H)
theorem d_UF_feed_0 : decode prog_1_method_3_code 0 = .ok (.iload_n 1, 1) := by decide +kernel
theorem d_UF_feed_1 : decode prog_1_method_3_code 1 = .ok (.iconst 1, 1) := by decide +kernel
theorem d_UF_feed_2 : decode prog_1_method_3_code 2 = .ok (.iconst 5, 1) := by decide +kernel
theorem d_UF_feed_3 : decode prog_1_method_3_code 3 = .ok (.invokestatic 95, 3) := by decide +kernel
theorem d_UF_feed_6 : decode prog_1_method_3_code 6 = .ok (.ifCond .ne 6, 3) := by decide +kernel
theorem d_UF_feed_9 : decode prog_1_method_3_code 9 = .ok (.bipush (-2), 2) := by decide +kernel
theorem d_UF_feed_11 : decode prog_1_method_3_code 11 = .ok (.ireturn, 1) := by decide +kernel
theorem d_UF_feed_12 : decode prog_1_method_3_code 12 = .ok (.iload_n 2, 1) := by decide +kernel
theorem d_UF_feed_13 : decode prog_1_method_3_code 13 = .ok (.invokestatic 99, 3) := by decide +kernel
theorem d_UF_feed_16 : decode prog_1_method_3_code 16 = .ok (.ifCond .eq 34, 3) := by decide +kernel
theorem d_UF_feed_19 : decode prog_1_method_3_code 19 = .ok (.iload_n 3, 1) := by decide +kernel
theorem d_UF_feed_20 : decode prog_1_method_3_code 20 = .ok (.invokestatic 99, 3) := by decide +kernel
theorem d_UF_feed_23 : decode prog_1_method_3_code 23 = .ok (.ifCond .eq 27, 3) := by decide +kernel
theorem d_UF_feed_26 : decode prog_1_method_3_code 26 = .ok (.iload 4, 2) := by decide +kernel
theorem d_UF_feed_28 : decode prog_1_method_3_code 28 = .ok (.invokestatic 99, 3) := by decide +kernel
theorem d_UF_feed_31 : decode prog_1_method_3_code 31 = .ok (.ifCond .eq 19, 3) := by decide +kernel
theorem d_UF_feed_34 : decode prog_1_method_3_code 34 = .ok (.iload 5, 2) := by decide +kernel
theorem d_UF_feed_36 : decode prog_1_method_3_code 36 = .ok (.invokestatic 99, 3) := by decide +kernel
theorem d_UF_feed_39 : decode prog_1_method_3_code 39 = .ok (.ifCond .eq 11, 3) := by decide +kernel
theorem d_UF_feed_42 : decode prog_1_method_3_code 42 = .ok (.iload 6, 2) := by decide +kernel
theorem d_UF_feed_44 : decode prog_1_method_3_code 44 = .ok (.invokestatic 99, 3) := by decide +kernel
theorem d_UF_feed_47 : decode prog_1_method_3_code 47 = .ok (.ifCond .ne 6, 3) := by decide +kernel
theorem d_UF_feed_50 : decode prog_1_method_3_code 50 = .ok (.bipush (-2), 2) := by decide +kernel
theorem d_UF_feed_52 : decode prog_1_method_3_code 52 = .ok (.ireturn, 1) := by decide +kernel
theorem d_UF_feed_53 : decode prog_1_method_3_code 53 = .ok (.aload_n 0, 1) := by decide +kernel
theorem d_UF_feed_54 : decode prog_1_method_3_code 54 = .ok (.getfield 92, 3) := by decide +kernel
theorem d_UF_feed_57 : decode prog_1_method_3_code 57 = .ok (.iload_n 1, 1) := by decide +kernel
theorem d_UF_feed_58 : decode prog_1_method_3_code 58 = .ok (.iadd, 1) := by decide +kernel
theorem d_UF_feed_59 : decode prog_1_method_3_code 59 = .ok (.sipush 160, 3) := by decide +kernel
theorem d_UF_feed_62 : decode prog_1_method_3_code 62 = .ok (.if_icmp .le 6, 3) := by decide +kernel
theorem d_UF_feed_65 : decode prog_1_method_3_code 65 = .ok (.bipush (-4), 2) := by decide +kernel
theorem d_UF_feed_67 : decode prog_1_method_3_code 67 = .ok (.ireturn, 1) := by decide +kernel
theorem d_UF_feed_68 : decode prog_1_method_3_code 68 = .ok (.aload_n 0, 1) := by decide +kernel
theorem d_UF_feed_69 : decode prog_1_method_3_code 69 = .ok (.iload_n 2, 1) := by decide +kernel
theorem d_UF_feed_70 : decode prog_1_method_3_code 70 = .ok (.invokevirtual 103, 3) := by decide +kernel
theorem d_UF_feed_73 : decode prog_1_method_3_code 73 = .ok (.iload_n 1, 1) := by decide +kernel
theorem d_UF_feed_74 : decode prog_1_method_3_code 74 = .ok (.iconst 1, 1) := by decide +kernel
theorem d_UF_feed_75 : decode prog_1_method_3_code 75 = .ok (.if_icmp .le 8, 3) := by decide +kernel
theorem d_UF_feed_78 : decode prog_1_method_3_code 78 = .ok (.aload_n 0, 1) := by decide +kernel
theorem d_UF_feed_79 : decode prog_1_method_3_code 79 = .ok (.iload_n 3, 1) := by decide +kernel
theorem d_UF_feed_80 : decode prog_1_method_3_code 80 = .ok (.invokevirtual 103, 3) := by decide +kernel
theorem d_UF_feed_83 : decode prog_1_method_3_code 83 = .ok (.iload_n 1, 1) := by decide +kernel
theorem d_UF_feed_84 : decode prog_1_method_3_code 84 = .ok (.iconst 2, 1) := by decide +kernel
theorem d_UF_feed_85 : decode prog_1_method_3_code 85 = .ok (.if_icmp .le 9, 3) := by decide +kernel
theorem d_UF_feed_88 : decode prog_1_method_3_code 88 = .ok (.aload_n 0, 1) := by decide +kernel
theorem d_UF_feed_89 : decode prog_1_method_3_code 89 = .ok (.iload 4, 2) := by decide +kernel
theorem d_UF_feed_91 : decode prog_1_method_3_code 91 = .ok (.invokevirtual 103, 3) := by decide +kernel
theorem d_UF_feed_94 : decode prog_1_method_3_code 94 = .ok (.iload_n 1, 1) := by decide +kernel
theorem d_UF_feed_95 : decode prog_1_method_3_code 95 = .ok (.iconst 3, 1) := by decide +kernel
theorem d_UF_feed_96 : decode prog_1_method_3_code 96 = .ok (.if_icmp .le 9, 3) := by decide +kernel
theorem d_UF_feed_99 : decode prog_1_method_3_code 99 = .ok (.aload_n 0, 1) := by decide +kernel
theorem d_UF_feed_100 : decode prog_1_method_3_code 100 = .ok (.iload 5, 2) := by decide +kernel
theorem d_UF_feed_102 : decode prog_1_method_3_code 102 = .ok (.invokevirtual 103, 3) := by decide +kernel
theorem d_UF_feed_105 : decode prog_1_method_3_code 105 = .ok (.iload_n 1, 1) := by decide +kernel
theorem d_UF_feed_106 : decode prog_1_method_3_code 106 = .ok (.iconst 4, 1) := by decide +kernel
theorem d_UF_feed_107 : decode prog_1_method_3_code 107 = .ok (.if_icmp .le 9, 3) := by decide +kernel
theorem d_UF_feed_110 : decode prog_1_method_3_code 110 = .ok (.aload_n 0, 1) := by decide +kernel
theorem d_UF_feed_111 : decode prog_1_method_3_code 111 = .ok (.iload 6, 2) := by decide +kernel
theorem d_UF_feed_113 : decode prog_1_method_3_code 113 = .ok (.invokevirtual 103, 3) := by decide +kernel
theorem d_UF_feed_116 : decode prog_1_method_3_code 116 = .ok (.aload_n 0, 1) := by decide +kernel
theorem d_UF_feed_117 : decode prog_1_method_3_code 117 = .ok (.getfield 92, 3) := by decide +kernel
theorem d_UF_feed_120 : decode prog_1_method_3_code 120 = .ok (.ireturn, 1) := by decide +kernel
def p_UF_feed_105 (Q : Int32 → AH → Prop) (x1 : Int32) (x6 : Int32) (h : AH) : Prop := ((x1 ≤ 4 → Q (h.1 0 9) h) ∧ (¬ x1 ≤ 4 → p_UF_put (fun h1 => Q (h1.1 0 9) h1) x6 h))
def p_UF_feed_94 (Q : Int32 → AH → Prop) (x1 : Int32) (x5 : Int32) (x6 : Int32) (h : AH) : Prop := ((x1 ≤ 3 → p_UF_feed_105 Q   x1 x6 h) ∧ (¬ x1 ≤ 3 → p_UF_put (fun h1 => p_UF_feed_105 Q   x1 x6 h1) x5 h))
def p_UF_feed_83 (Q : Int32 → AH → Prop) (x1 : Int32) (x4 : Int32) (x5 : Int32) (x6 : Int32) (h : AH) : Prop := ((x1 ≤ 2 → p_UF_feed_94 Q   x1 x5 x6 h) ∧ (¬ x1 ≤ 2 → p_UF_put (fun h1 => p_UF_feed_94 Q   x1 x5 x6 h1) x4 h))
def p_UF_feed (Q : Int32 → AH → Prop) (x1 : Int32) (x2 : Int32) (x3 : Int32) (x4 : Int32) (x5 : Int32) (x6 : Int32) (h : AH) : Prop := p_UF_within (fun r2 h1 => ((¬ r2 = 0 → p_UF_isByte (fun r4 h3 => ((r4 = 0 → Q (-2) h3) ∧ (¬ r4 = 0 → p_UF_isByte (fun r6 h5 => ((r6 = 0 → Q (-2) h5) ∧ (¬ r6 = 0 → p_UF_isByte (fun r8 h7 => ((r8 = 0 → Q (-2) h7) ∧ (¬ r8 = 0 → p_UF_isByte (fun r10 h9 => ((r10 = 0 → Q (-2) h9) ∧ (¬ r10 = 0 → p_UF_isByte (fun r12 h11 => ((¬ r12 = 0 → ((((h11.1 0 9) + x1) ≤ 160 → p_UF_put (fun h13 => ((x1 ≤ 1 → p_UF_feed_83 Q   x1 x4 x5 x6 h13) ∧ (¬ x1 ≤ 1 → p_UF_put (fun h14 => p_UF_feed_83 Q   x1 x4 x5 x6 h14) x3 h13))) x2 h11) ∧ (¬ ((h11.1 0 9) + x1) ≤ 160 → Q (-4) h11))) ∧ (r12 = 0 → Q (-2) h11))) x6 h9))) x5 h7))) x4 h5))) x3 h3))) x2 h1) ∧ (r2 = 0 → Q (-2) h1))) x1 1 5 h
set_option maxRecDepth 20000 in
theorem r_UF_feed_105 {G : GG} {d : Nat} {Q : Int32 → AH → Prop} (x1 : Int32) (x6 : Int32) (h : AH) (H : p_UF_feed_105 Q x1 x6 h) : Att G T1 m_UF_feed (d + 2) 105 [some (.ref 0), some (.int x1), none, none, none, none, some (.int x6)] [] h 0 0 (iQ Q) := by
  refine A_iload_n d_UF_feed_105 rfl ?_
  refine A_iconst 4 (by decide) d_UF_feed_106 ?_
  refine A_icmp_le 116 d_UF_feed_107 (by decide) (fun z => ?_) (fun z => ?_)
  · have H := H.1 z
    refine A_aload_n d_UF_feed_116 rfl ?_
    refine A_get (v := .int (h.1 0 9)) d_UF_feed_117 (fo_UF_92_11 rfl) (vA_s (by decide)) rfl (by first | rfl | (show Value.int _ = Value.int _; simp [wI, wL, wR, wC, up])) ?_
    exact A_iret d_UF_feed_120 rfl rfl H
  · have H := H.2 z
    refine A_aload_n d_UF_feed_110 rfl ?_
    refine A_iload d_UF_feed_111 rfl ?_
    refine A_cV [.ref 0, .int x6] [] (ct_UF_103 rfl) d_UF_feed_113 rfl rfl (by decide) (Nat.le_of_ble_eq_true rfl) (rcA_o (c := 11) rfl (vA_s (by decide)) rfl (by decide) rfl) (ok_UF_put (d := d + 1) H) (fun h1 H => ?_)
    refine A_aload_n d_UF_feed_116 rfl ?_
    refine A_get (v := .int (h1.1 0 9)) d_UF_feed_117 (fo_UF_92_11 rfl) (vA_s (by decide)) rfl (by first | rfl | (show Value.int _ = Value.int _; simp [wI, wL, wR, wC, up])) ?_
    exact A_iret d_UF_feed_120 rfl rfl H
set_option maxRecDepth 20000 in
theorem r_UF_feed_94 {G : GG} {d : Nat} {Q : Int32 → AH → Prop} (x1 : Int32) (x5 : Int32) (x6 : Int32) (h : AH) (H : p_UF_feed_94 Q x1 x5 x6 h) : Att G T1 m_UF_feed (d + 2) 94 [some (.ref 0), some (.int x1), none, none, none, some (.int x5), some (.int x6)] [] h 0 0 (iQ Q) := by
  refine A_iload_n d_UF_feed_94 rfl ?_
  refine A_iconst 3 (by decide) d_UF_feed_95 ?_
  refine A_icmp_le 105 d_UF_feed_96 (by decide) (fun z => ?_) (fun z => ?_)
  · have H := H.1 z
    refine A_sub (L' := [some (.ref 0), some (.int x1), none, none, none, none, some (.int x6)]) ⟨rfl, rfl, rfl, trivial⟩ ?_
    exact r_UF_feed_105   _ _ _ H
  · have H := H.2 z
    refine A_aload_n d_UF_feed_99 rfl ?_
    refine A_iload d_UF_feed_100 rfl ?_
    refine A_cV [.ref 0, .int x5] [] (ct_UF_103 rfl) d_UF_feed_102 rfl rfl (by decide) (Nat.le_of_ble_eq_true rfl) (rcA_o (c := 11) rfl (vA_s (by decide)) rfl (by decide) rfl) (ok_UF_put (d := d + 1) H) (fun h1 H => ?_)
    refine A_sub (L' := [some (.ref 0), some (.int x1), none, none, none, none, some (.int x6)]) ⟨rfl, rfl, rfl, trivial⟩ ?_
    exact r_UF_feed_105   _ _ _ H
set_option maxRecDepth 20000 in
theorem r_UF_feed_83 {G : GG} {d : Nat} {Q : Int32 → AH → Prop} (x1 : Int32) (x4 : Int32) (x5 : Int32) (x6 : Int32) (h : AH) (H : p_UF_feed_83 Q x1 x4 x5 x6 h) : Att G T1 m_UF_feed (d + 2) 83 [some (.ref 0), some (.int x1), none, none, some (.int x4), some (.int x5), some (.int x6)] [] h 0 0 (iQ Q) := by
  refine A_iload_n d_UF_feed_83 rfl ?_
  refine A_iconst 2 (by decide) d_UF_feed_84 ?_
  refine A_icmp_le 94 d_UF_feed_85 (by decide) (fun z => ?_) (fun z => ?_)
  · have H := H.1 z
    refine A_sub (L' := [some (.ref 0), some (.int x1), none, none, none, some (.int x5), some (.int x6)]) ⟨rfl, rfl, rfl, rfl, trivial⟩ ?_
    exact r_UF_feed_94   _ _ _ _ H
  · have H := H.2 z
    refine A_aload_n d_UF_feed_88 rfl ?_
    refine A_iload d_UF_feed_89 rfl ?_
    refine A_cV [.ref 0, .int x4] [] (ct_UF_103 rfl) d_UF_feed_91 rfl rfl (by decide) (Nat.le_of_ble_eq_true rfl) (rcA_o (c := 11) rfl (vA_s (by decide)) rfl (by decide) rfl) (ok_UF_put (d := d + 1) H) (fun h1 H => ?_)
    refine A_sub (L' := [some (.ref 0), some (.int x1), none, none, none, some (.int x5), some (.int x6)]) ⟨rfl, rfl, rfl, rfl, trivial⟩ ?_
    exact r_UF_feed_94   _ _ _ _ H
set_option maxRecDepth 20000 in
theorem r_UF_feed_0 {G : GG} {d : Nat} {Q : Int32 → AH → Prop} (x1 : Int32) (x2 : Int32) (x3 : Int32) (x4 : Int32) (x5 : Int32) (x6 : Int32) (h : AH) (H : p_UF_feed Q x1 x2 x3 x4 x5 x6 h) : Att G T1 m_UF_feed (d + 2) 0 [some (.ref 0), some (.int x1), some (.int x2), some (.int x3), some (.int x4), some (.int x5), some (.int x6)] [] h 0 0 (iQ Q) := by
  refine A_iload_n d_UF_feed_0 rfl ?_
  refine A_iconst 1 (by decide) d_UF_feed_1 ?_
  refine A_iconst 5 (by decide) d_UF_feed_2 ?_
  refine A_cI [.int x1, .int 1, .int 5] [] (ct_UF_95 rfl) d_UF_feed_3 rfl rfl (by decide) (Nat.le_of_ble_eq_true rfl) trivial (ok_UF_within (d := d + 1) H) (fun r2 h1 H => ?_)
  refine A_if_ne 12 d_UF_feed_6 (by decide) (fun z => ?_) (fun z => ?_)
  · have H := H.1 z
    refine A_iload_n d_UF_feed_12 rfl ?_
    refine A_cI [.int x2] [] (ct_UF_99 rfl) d_UF_feed_13 rfl rfl (by decide) (Nat.le_of_ble_eq_true rfl) trivial (ok_UF_isByte (d := d) H) (fun r4 h3 H => ?_)
    refine A_if_eq 50 d_UF_feed_16 (by decide) (fun z => ?_) (fun z => ?_)
    · have H := H.1 z
      refine A_bipush (-2) (by decide) d_UF_feed_50 ?_
      exact A_iret d_UF_feed_52 rfl rfl H
    · have H := H.2 z
      refine A_iload_n d_UF_feed_19 rfl ?_
      refine A_cI [.int x3] [] (ct_UF_99 rfl) d_UF_feed_20 rfl rfl (by decide) (Nat.le_of_ble_eq_true rfl) trivial (ok_UF_isByte (d := d) H) (fun r6 h5 H => ?_)
      refine A_if_eq 50 d_UF_feed_23 (by decide) (fun z => ?_) (fun z => ?_)
      · have H := H.1 z
        refine A_bipush (-2) (by decide) d_UF_feed_50 ?_
        exact A_iret d_UF_feed_52 rfl rfl H
      · have H := H.2 z
        refine A_iload d_UF_feed_26 rfl ?_
        refine A_cI [.int x4] [] (ct_UF_99 rfl) d_UF_feed_28 rfl rfl (by decide) (Nat.le_of_ble_eq_true rfl) trivial (ok_UF_isByte (d := d) H) (fun r8 h7 H => ?_)
        refine A_if_eq 50 d_UF_feed_31 (by decide) (fun z => ?_) (fun z => ?_)
        · have H := H.1 z
          refine A_bipush (-2) (by decide) d_UF_feed_50 ?_
          exact A_iret d_UF_feed_52 rfl rfl H
        · have H := H.2 z
          refine A_iload d_UF_feed_34 rfl ?_
          refine A_cI [.int x5] [] (ct_UF_99 rfl) d_UF_feed_36 rfl rfl (by decide) (Nat.le_of_ble_eq_true rfl) trivial (ok_UF_isByte (d := d) H) (fun r10 h9 H => ?_)
          refine A_if_eq 50 d_UF_feed_39 (by decide) (fun z => ?_) (fun z => ?_)
          · have H := H.1 z
            refine A_bipush (-2) (by decide) d_UF_feed_50 ?_
            exact A_iret d_UF_feed_52 rfl rfl H
          · have H := H.2 z
            refine A_iload d_UF_feed_42 rfl ?_
            refine A_cI [.int x6] [] (ct_UF_99 rfl) d_UF_feed_44 rfl rfl (by decide) (Nat.le_of_ble_eq_true rfl) trivial (ok_UF_isByte (d := d) H) (fun r12 h11 H => ?_)
            refine A_if_ne 53 d_UF_feed_47 (by decide) (fun z => ?_) (fun z => ?_)
            · have H := H.1 z
              refine A_aload_n d_UF_feed_53 rfl ?_
              refine A_get (v := .int (h11.1 0 9)) d_UF_feed_54 (fo_UF_92_11 rfl) (vA_s (by decide)) rfl (by first | rfl | (show Value.int _ = Value.int _; simp [wI, wL, wR, wC, up])) ?_
              refine A_iload_n d_UF_feed_57 rfl ?_
              refine A_iadd d_UF_feed_58 ?_
              refine A_sipush 160 (by decide) d_UF_feed_59 ?_
              refine A_icmp_le 68 d_UF_feed_62 (by decide) (fun z => ?_) (fun z => ?_)
              · have H := H.1 z
                refine A_aload_n d_UF_feed_68 rfl ?_
                refine A_iload_n d_UF_feed_69 rfl ?_
                refine A_cV [.ref 0, .int x2] [] (ct_UF_103 rfl) d_UF_feed_70 rfl rfl (by decide) (Nat.le_of_ble_eq_true rfl) (rcA_o (c := 11) rfl (vA_s (by decide)) rfl (by decide) rfl) (ok_UF_put (d := d + 1) H) (fun h13 H => ?_)
                refine A_iload_n d_UF_feed_73 rfl ?_
                refine A_iconst 1 (by decide) d_UF_feed_74 ?_
                refine A_icmp_le 83 d_UF_feed_75 (by decide) (fun z => ?_) (fun z => ?_)
                · have H := H.1 z
                  refine A_sub (L' := [some (.ref 0), some (.int x1), none, none, some (.int x4), some (.int x5), some (.int x6)]) ⟨rfl, rfl, rfl, rfl, rfl, trivial⟩ ?_
                  exact r_UF_feed_83   _ _ _ _ _ H
                · have H := H.2 z
                  refine A_aload_n d_UF_feed_78 rfl ?_
                  refine A_iload_n d_UF_feed_79 rfl ?_
                  refine A_cV [.ref 0, .int x3] [] (ct_UF_103 rfl) d_UF_feed_80 rfl rfl (by decide) (Nat.le_of_ble_eq_true rfl) (rcA_o (c := 11) rfl (vA_s (by decide)) rfl (by decide) rfl) (ok_UF_put (d := d + 1) H) (fun h14 H => ?_)
                  refine A_sub (L' := [some (.ref 0), some (.int x1), none, none, some (.int x4), some (.int x5), some (.int x6)]) ⟨rfl, rfl, rfl, rfl, rfl, trivial⟩ ?_
                  exact r_UF_feed_83   _ _ _ _ _ H
              · have H := H.2 z
                refine A_bipush (-4) (by decide) d_UF_feed_65 ?_
                exact A_iret d_UF_feed_67 rfl rfl H
            · have H := H.2 z
              refine A_bipush (-2) (by decide) d_UF_feed_50 ?_
              exact A_iret d_UF_feed_52 rfl rfl H
  · have H := H.2 z
    refine A_bipush (-2) (by decide) d_UF_feed_9 ?_
    exact A_iret d_UF_feed_11 rfl rfl H
set_option maxRecDepth 20000 in
theorem ok_UF_feed {G : GG} {d : Nat} {Q : Int32 → AH → Prop} {x1 : Int32} {x2 : Int32} {x3 : Int32} {x4 : Int32} {x5 : Int32} {x6 : Int32} {h : AH} (H : p_UF_feed Q x1 x2 x3 x4 x5 x6 h) : WP G T1 m_UF_feed (d + 2) [.ref 0, .int x1, .int x2, .int x3, .int x4, .int x5, .int x6] h 0 0 (iQ Q) := by
  exact WP.enter 0 (by decide) rfl rfl (r_UF_feed_0 x1 x2 x3 x4 x5 x6 h H)
theorem d_Dusk_begin_0 : decode prog_4_method_2_code 0 = .ok (.aload_n 0, 1) := by decide +kernel
theorem d_Dusk_begin_1 : decode prog_4_method_2_code 1 = .ok (.getfield 12, 3) := by decide +kernel
theorem d_Dusk_begin_4 : decode prog_4_method_2_code 4 = .ok (.aload_n 1, 1) := by decide +kernel
theorem d_Dusk_begin_5 : decode prog_4_method_2_code 5 = .ok (.invokevirtual 45, 3) := by decide +kernel
theorem d_Dusk_begin_8 : decode prog_4_method_2_code 8 = .ok (.aload_n 0, 1) := by decide +kernel
theorem d_Dusk_begin_9 : decode prog_4_method_2_code 9 = .ok (.aload_n 3, 1) := by decide +kernel
theorem d_Dusk_begin_10 : decode prog_4_method_2_code 10 = .ok (.putfield 49, 3) := by decide +kernel
theorem d_Dusk_begin_13 : decode prog_4_method_2_code 13 = .ok (.iconst 0, 1) := by decide +kernel
theorem d_Dusk_begin_14 : decode prog_4_method_2_code 14 = .ok (.istore 4, 2) := by decide +kernel
theorem d_Dusk_begin_16 : decode prog_4_method_2_code 16 = .ok (.iload 4, 2) := by decide +kernel
theorem d_Dusk_begin_18 : decode prog_4_method_2_code 18 = .ok (.bipush 7, 2) := by decide +kernel
theorem d_Dusk_begin_20 : decode prog_4_method_2_code 20 = .ok (.if_icmp .ge 59, 3) := by decide +kernel
theorem d_Dusk_begin_23 : decode prog_4_method_2_code 23 = .ok (.iload 4, 2) := by decide +kernel
theorem d_Dusk_begin_25 : decode prog_4_method_2_code 25 = .ok (.aload_n 2, 1) := by decide +kernel
theorem d_Dusk_begin_26 : decode prog_4_method_2_code 26 = .ok (.arraylength, 1) := by decide +kernel
theorem d_Dusk_begin_27 : decode prog_4_method_2_code 27 = .ok (.if_icmp .ge 52, 3) := by decide +kernel
theorem d_Dusk_begin_30 : decode prog_4_method_2_code 30 = .ok (.aload_n 0, 1) := by decide +kernel
theorem d_Dusk_begin_31 : decode prog_4_method_2_code 31 = .ok (.getfield 20, 3) := by decide +kernel
theorem d_Dusk_begin_34 : decode prog_4_method_2_code 34 = .ok (.iload 4, 2) := by decide +kernel
theorem d_Dusk_begin_36 : decode prog_4_method_2_code 36 = .ok (.aload_n 2, 1) := by decide +kernel
theorem d_Dusk_begin_37 : decode prog_4_method_2_code 37 = .ok (.iload 4, 2) := by decide +kernel
theorem d_Dusk_begin_39 : decode prog_4_method_2_code 39 = .ok (.aaload, 1) := by decide +kernel
theorem d_Dusk_begin_40 : decode prog_4_method_2_code 40 = .ok (.aastore, 1) := by decide +kernel
theorem d_Dusk_begin_41 : decode prog_4_method_2_code 41 = .ok (.aload_n 0, 1) := by decide +kernel
theorem d_Dusk_begin_42 : decode prog_4_method_2_code 42 = .ok (.getfield 24, 3) := by decide +kernel
theorem d_Dusk_begin_45 : decode prog_4_method_2_code 45 = .ok (.iload 4, 2) := by decide +kernel
theorem d_Dusk_begin_47 : decode prog_4_method_2_code 47 = .ok (.iconst 0, 1) := by decide +kernel
theorem d_Dusk_begin_48 : decode prog_4_method_2_code 48 = .ok (.iastore, 1) := by decide +kernel
theorem d_Dusk_begin_49 : decode prog_4_method_2_code 49 = .ok (.aload_n 0, 1) := by decide +kernel
theorem d_Dusk_begin_50 : decode prog_4_method_2_code 50 = .ok (.getfield 28, 3) := by decide +kernel
theorem d_Dusk_begin_53 : decode prog_4_method_2_code 53 = .ok (.iload 4, 2) := by decide +kernel
theorem d_Dusk_begin_55 : decode prog_4_method_2_code 55 = .ok (.iconst 0, 1) := by decide +kernel
theorem d_Dusk_begin_56 : decode prog_4_method_2_code 56 = .ok (.iastore, 1) := by decide +kernel
theorem d_Dusk_begin_57 : decode prog_4_method_2_code 57 = .ok (.aload_n 0, 1) := by decide +kernel
theorem d_Dusk_begin_58 : decode prog_4_method_2_code 58 = .ok (.getfield 31, 3) := by decide +kernel
theorem d_Dusk_begin_61 : decode prog_4_method_2_code 61 = .ok (.iload 4, 2) := by decide +kernel
theorem d_Dusk_begin_63 : decode prog_4_method_2_code 63 = .ok (.iconst 0, 1) := by decide +kernel
theorem d_Dusk_begin_64 : decode prog_4_method_2_code 64 = .ok (.iastore, 1) := by decide +kernel
theorem d_Dusk_begin_65 : decode prog_4_method_2_code 65 = .ok (.aload_n 0, 1) := by decide +kernel
theorem d_Dusk_begin_66 : decode prog_4_method_2_code 66 = .ok (.getfield 34, 3) := by decide +kernel
theorem d_Dusk_begin_69 : decode prog_4_method_2_code 69 = .ok (.iload 4, 2) := by decide +kernel
theorem d_Dusk_begin_71 : decode prog_4_method_2_code 71 = .ok (.iconst (-1), 1) := by decide +kernel
theorem d_Dusk_begin_72 : decode prog_4_method_2_code 72 = .ok (.iastore, 1) := by decide +kernel
theorem d_Dusk_begin_73 : decode prog_4_method_2_code 73 = .ok (.iinc 4 1, 3) := by decide +kernel
theorem d_Dusk_begin_76 : decode prog_4_method_2_code 76 = .ok (.goto (-60), 3) := by decide +kernel
theorem d_Dusk_begin_79 : decode prog_4_method_2_code 79 = .ok (.return_, 1) := by decide +kernel
def p_Dusk_begin_16 (Q : AH → Prop) : Nat → Nat → Int32 → AH → Prop
  | 0 => fun _ _ _ => False
  | n + 1 => fun a2 x4 h => let K16 := p_Dusk_begin_16 Q n; ((7 ≤ x4 → Q h) ∧ (¬ 7 ≤ x4 → vA T1 h a2 ∧ (rS T1 h a2).1 = 101 ∧ (((Int32.ofNat (rS T1 h a2).2) ≤ x4 → Q h) ∧ (¬ (Int32.ofNat (rS T1 h a2).2) ≤ x4 → inb x4 ((rS T1 h a2).2) ∧ 0 < rR T1 h a2 x4.toNatClampNeg ∧ famA T1 h (rR T1 h a2 x4.toNatClampNeg - 1) ∧ inb x4 7 ∧ inb x4 7 ∧ K16 a2 (x4 + 1) (wI (wI (wI (wI (wR h 18 x4.toNatClampNeg ((rR T1 h a2 x4.toNatClampNeg - 1) + 1)) 19 x4 0) 20 x4 0) 21 x4 0) 22 x4 (-1))))))
def p_Dusk_begin (Q : AH → Prop) (a1 : Nat) (a2 : Nat) (a3 : Nat) (h : AH) : Prop := p_Town_become (fun h1 => ∃ n, p_Dusk_begin_16 Q   n a2 0 (wR h1 13 8 (a3 + 1))) 14 a1 h
set_option maxRecDepth 20000 in
theorem r_Dusk_begin_16 {G : GG} {d : Nat} {Q : AH → Prop} : ∀ (n : Nat) (a2 : Nat) (x4 : Int32) (h : AH), p_Dusk_begin_16 Q n a2 x4 h → Att G T1 m_Dusk_begin (d + 2) 16 [some (.ref 13), none, some (.ref a2), none, some (.int x4)] [] h 0 0 (vQ Q) := by
  intro n
  induction n with
  | zero => intro a2 x4 h H; exact H.elim
  | succ n k16 =>
    intro a2 x4 h H
    refine A_iload d_Dusk_begin_16 rfl ?_
    refine A_bipush 7 (by decide) d_Dusk_begin_18 ?_
    refine A_icmp_ge 79 d_Dusk_begin_20 (by decide) (fun z => ?_) (fun z => ?_)
    · have H := H.1 z
      exact A_ret d_Dusk_begin_79 rfl H
    · have H := H.2 z
      refine A_iload d_Dusk_begin_23 rfl ?_
      refine A_aload_n d_Dusk_begin_25 rfl ?_
      obtain ⟨c1, H⟩ := H
      obtain ⟨c2, H⟩ := H
      refine A_alenR (t := 0) d_Dusk_begin_26 (by decide) c1 (rS_ex c2) ?_
      refine A_icmp_ge 79 d_Dusk_begin_27 (by decide) (fun z => ?_) (fun z => ?_)
      · have H := H.1 z
        exact A_ret d_Dusk_begin_79 rfl H
      · have H := H.2 z
        refine A_aload_n d_Dusk_begin_30 rfl ?_
        refine A_get (v := .ref 18) d_Dusk_begin_31 (fo_Dusk_20_2 rfl) (vA_s (by decide)) rfl (by first | rfl | (show Value.int _ = Value.int _; simp [wI, wL, wR, wC, up])) ?_
        refine A_iload d_Dusk_begin_34 rfl ?_
        refine A_aload_n d_Dusk_begin_36 rfl ?_
        refine A_iload d_Dusk_begin_37 rfl ?_
        obtain ⟨c3, H⟩ := H
        obtain ⟨c4, H⟩ := H
        refine A_aald (t := 0) (n := _) d_Dusk_begin_39 (by decide) c1 (rS_ex c2) c3 (pos_sub c4) ?_
        obtain ⟨c5, H⟩ := H
        obtain ⟨c6, H⟩ := H
        refine A_aastH (n := 7) d_Dusk_begin_40 (vA_s (by decide)) rfl c6 c5 rfl ?_
        refine A_aload_n d_Dusk_begin_41 rfl ?_
        refine A_get (v := .ref 19) d_Dusk_begin_42 (fo_Dusk_24_2 rfl) (vA_s (by decide)) rfl (by first | rfl | (show Value.int _ = Value.int _; simp [wI, wL, wR, wC, up])) ?_
        refine A_iload d_Dusk_begin_45 rfl ?_
        refine A_iconst 0 (by decide) d_Dusk_begin_47 ?_
        obtain ⟨c7, H⟩ := H
        refine A_iast (n := 7) d_Dusk_begin_48 (vA_s (by decide)) rfl c7 ?_
        refine A_aload_n d_Dusk_begin_49 rfl ?_
        refine A_get (v := .ref 20) d_Dusk_begin_50 (fo_Dusk_28_2 rfl) (vA_s (by decide)) rfl (by first | rfl | (show Value.int _ = Value.int _; simp [wI, wL, wR, wC, up])) ?_
        refine A_iload d_Dusk_begin_53 rfl ?_
        refine A_iconst 0 (by decide) d_Dusk_begin_55 ?_
        refine A_iast (n := 7) d_Dusk_begin_56 (vA_s (by decide)) rfl c7 ?_
        refine A_aload_n d_Dusk_begin_57 rfl ?_
        refine A_get (v := .ref 21) d_Dusk_begin_58 (fo_Dusk_31_2 rfl) (vA_s (by decide)) rfl (by first | rfl | (show Value.int _ = Value.int _; simp [wI, wL, wR, wC, up])) ?_
        refine A_iload d_Dusk_begin_61 rfl ?_
        refine A_iconst 0 (by decide) d_Dusk_begin_63 ?_
        refine A_iast (n := 7) d_Dusk_begin_64 (vA_s (by decide)) rfl c7 ?_
        refine A_aload_n d_Dusk_begin_65 rfl ?_
        refine A_get (v := .ref 22) d_Dusk_begin_66 (fo_Dusk_34_2 rfl) (vA_s (by decide)) rfl (by first | rfl | (show Value.int _ = Value.int _; simp [wI, wL, wR, wC, up])) ?_
        refine A_iload d_Dusk_begin_69 rfl ?_
        refine A_iconst (-1) (by decide) d_Dusk_begin_71 ?_
        refine A_iast (n := 7) d_Dusk_begin_72 (vA_s (by decide)) rfl c7 ?_
        refine A_iinc 1 [some (.ref 13), none, some (.ref a2), none, some (.int (x4 + 1))] d_Dusk_begin_73 rfl (by decide) (by decide) rfl rfl ?_
        refine A_goto 16 d_Dusk_begin_76 (by decide) ?_
        exact k16 _ _ _ H
set_option maxRecDepth 20000 in
theorem r_Dusk_begin_0 {G : GG} {d : Nat} {Q : AH → Prop} (a1 : Nat) (a2 : Nat) (a3 : Nat) (h : AH) (H : p_Dusk_begin Q a1 a2 a3 h) : Att G T1 m_Dusk_begin (d + 2) 0 [some (.ref 13), some (.ref a1), some (.ref a2), some (.ref a3), none] [] h 0 0 (vQ Q) := by
  refine A_aload_n d_Dusk_begin_0 rfl ?_
  refine A_get (v := .ref 14) d_Dusk_begin_1 (fo_Dusk_12_2 rfl) (vA_s (by decide)) rfl (by first | rfl | (show Value.int _ = Value.int _; simp [wI, wL, wR, wC, up])) ?_
  refine A_aload_n d_Dusk_begin_4 rfl ?_
  refine A_cV [.ref 14, .ref a1] [] (ct_Dusk_45 rfl) d_Dusk_begin_5 rfl rfl (by decide) (Nat.le_of_ble_eq_true rfl) (rcA_o (c := 10) rfl (vA_s (by decide)) rfl (by decide) rfl) (ok_Town_become (d := d) H) (fun h1 H => ?_)
  refine A_aload_n d_Dusk_begin_8 rfl ?_
  refine A_aload_n d_Dusk_begin_9 rfl ?_
  refine A_putR (k := 8) d_Dusk_begin_10 (fo_Dusk_49_2 rfl) (Or.inr ⟨rfl, _, ft_2_8⟩) (fun z => by cases z) rfl (vA_s (by decide)) rfl rfl (fun _ => rfl) (fun _ => rfl) ?_
  refine A_iconst 0 (by decide) d_Dusk_begin_13 ?_
  refine A_istore [some (.ref 13), some (.ref a1), some (.ref a2), some (.ref a3), some (.int 0)] d_Dusk_begin_14 (by decide) rfl rfl ?_
  refine A_sub (L' := [some (.ref 13), none, some (.ref a2), none, some (.int 0)]) ⟨rfl, rfl, rfl, trivial⟩ ?_
  obtain ⟨n9, H⟩ := H
  exact r_Dusk_begin_16   n9 _ _ _ H
set_option maxRecDepth 20000 in
theorem ok_Dusk_begin {G : GG} {d : Nat} {Q : AH → Prop} {a1 : Nat} {a2 : Nat} {a3 : Nat} {h : AH} (H : p_Dusk_begin Q a1 a2 a3 h) : WP G T1 m_Dusk_begin (d + 2) [.ref 13, .ref a1, .ref a2, .ref a3] h 0 0 (vQ Q) := by
  exact WP.enter 1 (by decide) rfl rfl (r_Dusk_begin_0 a1 a2 a3 h H)
theorem d_Dusk_says_0 : decode prog_4_method_12_code 0 = .ok (.aload_n 0, 1) := by decide +kernel
theorem d_Dusk_says_1 : decode prog_4_method_12_code 1 = .ok (.getfield 39, 3) := by decide +kernel
theorem d_Dusk_says_4 : decode prog_4_method_12_code 4 = .ok (.iconst 0, 1) := by decide +kernel
theorem d_Dusk_says_5 : decode prog_4_method_12_code 5 = .ok (.aload_n 0, 1) := by decide +kernel
theorem d_Dusk_says_6 : decode prog_4_method_12_code 6 = .ok (.getfield 20, 3) := by decide +kernel
theorem d_Dusk_says_9 : decode prog_4_method_12_code 9 = .ok (.iload_n 2, 1) := by decide +kernel
theorem d_Dusk_says_10 : decode prog_4_method_12_code 10 = .ok (.aaload, 1) := by decide +kernel
theorem d_Dusk_says_11 : decode prog_4_method_12_code 11 = .ok (.getfield 115, 3) := by decide +kernel
theorem d_Dusk_says_14 : decode prog_4_method_12_code 14 = .ok (.iastore, 1) := by decide +kernel
theorem d_Dusk_says_15 : decode prog_4_method_12_code 15 = .ok (.aload_n 0, 1) := by decide +kernel
theorem d_Dusk_says_16 : decode prog_4_method_12_code 16 = .ok (.getfield 39, 3) := by decide +kernel
theorem d_Dusk_says_19 : decode prog_4_method_12_code 19 = .ok (.iconst 1, 1) := by decide +kernel
theorem d_Dusk_says_20 : decode prog_4_method_12_code 20 = .ok (.aload_n 0, 1) := by decide +kernel
theorem d_Dusk_says_21 : decode prog_4_method_12_code 21 = .ok (.getfield 12, 3) := by decide +kernel
theorem d_Dusk_says_24 : decode prog_4_method_12_code 24 = .ok (.getfield 118, 3) := by decide +kernel
theorem d_Dusk_says_27 : decode prog_4_method_12_code 27 = .ok (.iload_n 2, 1) := by decide +kernel
theorem d_Dusk_says_28 : decode prog_4_method_12_code 28 = .ok (.iaload, 1) := by decide +kernel
theorem d_Dusk_says_29 : decode prog_4_method_12_code 29 = .ok (.iastore, 1) := by decide +kernel
theorem d_Dusk_says_30 : decode prog_4_method_12_code 30 = .ok (.aload_n 0, 1) := by decide +kernel
theorem d_Dusk_says_31 : decode prog_4_method_12_code 31 = .ok (.getfield 39, 3) := by decide +kernel
theorem d_Dusk_says_34 : decode prog_4_method_12_code 34 = .ok (.iconst 2, 1) := by decide +kernel
theorem d_Dusk_says_35 : decode prog_4_method_12_code 35 = .ok (.aload_n 0, 1) := by decide +kernel
theorem d_Dusk_says_36 : decode prog_4_method_12_code 36 = .ok (.getfield 20, 3) := by decide +kernel
theorem d_Dusk_says_39 : decode prog_4_method_12_code 39 = .ok (.iload_n 2, 1) := by decide +kernel
theorem d_Dusk_says_40 : decode prog_4_method_12_code 40 = .ok (.aaload, 1) := by decide +kernel
theorem d_Dusk_says_41 : decode prog_4_method_12_code 41 = .ok (.getfield 121, 3) := by decide +kernel
theorem d_Dusk_says_44 : decode prog_4_method_12_code 44 = .ok (.iastore, 1) := by decide +kernel
theorem d_Dusk_says_45 : decode prog_4_method_12_code 45 = .ok (.aload_n 0, 1) := by decide +kernel
theorem d_Dusk_says_46 : decode prog_4_method_12_code 46 = .ok (.getfield 39, 3) := by decide +kernel
theorem d_Dusk_says_49 : decode prog_4_method_12_code 49 = .ok (.iconst 3, 1) := by decide +kernel
theorem d_Dusk_says_50 : decode prog_4_method_12_code 50 = .ok (.aload_n 0, 1) := by decide +kernel
theorem d_Dusk_says_51 : decode prog_4_method_12_code 51 = .ok (.getfield 12, 3) := by decide +kernel
theorem d_Dusk_says_54 : decode prog_4_method_12_code 54 = .ok (.getfield 78, 3) := by decide +kernel
theorem d_Dusk_says_57 : decode prog_4_method_12_code 57 = .ok (.iload_n 2, 1) := by decide +kernel
theorem d_Dusk_says_58 : decode prog_4_method_12_code 58 = .ok (.iaload, 1) := by decide +kernel
theorem d_Dusk_says_59 : decode prog_4_method_12_code 59 = .ok (.iastore, 1) := by decide +kernel
theorem d_Dusk_says_60 : decode prog_4_method_12_code 60 = .ok (.aload_n 0, 1) := by decide +kernel
theorem d_Dusk_says_61 : decode prog_4_method_12_code 61 = .ok (.getfield 39, 3) := by decide +kernel
theorem d_Dusk_says_64 : decode prog_4_method_12_code 64 = .ok (.iconst 4, 1) := by decide +kernel
theorem d_Dusk_says_65 : decode prog_4_method_12_code 65 = .ok (.iload_n 3, 1) := by decide +kernel
theorem d_Dusk_says_66 : decode prog_4_method_12_code 66 = .ok (.iastore, 1) := by decide +kernel
theorem d_Dusk_says_67 : decode prog_4_method_12_code 67 = .ok (.aload_n 0, 1) := by decide +kernel
theorem d_Dusk_says_68 : decode prog_4_method_12_code 68 = .ok (.getfield 39, 3) := by decide +kernel
theorem d_Dusk_says_71 : decode prog_4_method_12_code 71 = .ok (.iconst 5, 1) := by decide +kernel
theorem d_Dusk_says_72 : decode prog_4_method_12_code 72 = .ok (.iload 4, 2) := by decide +kernel
theorem d_Dusk_says_74 : decode prog_4_method_12_code 74 = .ok (.iastore, 1) := by decide +kernel
theorem d_Dusk_says_75 : decode prog_4_method_12_code 75 = .ok (.aload_n 0, 1) := by decide +kernel
theorem d_Dusk_says_76 : decode prog_4_method_12_code 76 = .ok (.getfield 49, 3) := by decide +kernel
theorem d_Dusk_says_79 : decode prog_4_method_12_code 79 = .ok (.iload_n 1, 1) := by decide +kernel
theorem d_Dusk_says_80 : decode prog_4_method_12_code 80 = .ok (.aload_n 0, 1) := by decide +kernel
theorem d_Dusk_says_81 : decode prog_4_method_12_code 81 = .ok (.getfield 39, 3) := by decide +kernel
theorem d_Dusk_says_84 : decode prog_4_method_12_code 84 = .ok (.aload_n 0, 1) := by decide +kernel
theorem d_Dusk_says_85 : decode prog_4_method_12_code 85 = .ok (.getfield 42, 3) := by decide +kernel
theorem d_Dusk_says_88 : decode prog_4_method_12_code 88 = .ok (.invokevirtual 124, 3) := by decide +kernel
theorem d_Dusk_says_91 : decode prog_4_method_12_code 91 = .ok (.ireturn, 1) := by decide +kernel
def p_Dusk_says (Q : Int32 → AH → Prop) (x1 : Int32) (x2 : Int32) (x3 : Int32) (x4 : Int32) (h : AH) : Prop := inb x2 7 ∧ 0 < rR T1 h 18 x2.toNatClampNeg ∧ famA T1 h (rR T1 h 18 x2.toNatClampNeg - 1) ∧ 0 < rR T1 h 13 8 ∧ vA T1 h (rR T1 h 13 8 - 1) ∧ (rS T1 h (rR T1 h 13 8 - 1)).1 = 6 ∧ p_Law_answer (fun r8 h7 => Q r8 h7) (rR T1 h 13 8 - 1) x1 23 24 (wI (wI (wI (wI (wI (wI h 23 0 (h.1 (rR T1 h 18 x2.toNatClampNeg - 1) 1)) 23 1 (h.1 16 x2)) 23 2 ((wI (wI h 23 0 (h.1 (rR T1 h 18 x2.toNatClampNeg - 1) 1)) 23 1 (h.1 16 x2)).1 (rR T1 h 18 x2.toNatClampNeg - 1) 2)) 23 3 (h.1 15 x2)) 23 4 x3) 23 5 x4)
set_option maxRecDepth 20000 in
theorem r_Dusk_says_0 {G : GG} {d : Nat} {Q : Int32 → AH → Prop} (x1 : Int32) (x2 : Int32) (x3 : Int32) (x4 : Int32) (h : AH) (H : p_Dusk_says Q x1 x2 x3 x4 h) : Att G T1 m_Dusk_says (d + 2) 0 [some (.ref 13), some (.int x1), some (.int x2), some (.int x3), some (.int x4)] [] h 0 0 (iQ Q) := by
  refine A_aload_n d_Dusk_says_0 rfl ?_
  refine A_get (v := .ref 23) d_Dusk_says_1 (fo_Dusk_39_2 rfl) (vA_s (by decide)) rfl (by first | rfl | (show Value.int _ = Value.int _; simp [wI, wL, wR, wC, up])) ?_
  refine A_iconst 0 (by decide) d_Dusk_says_4 ?_
  refine A_aload_n d_Dusk_says_5 rfl ?_
  refine A_get (v := .ref 18) d_Dusk_says_6 (fo_Dusk_20_2 rfl) (vA_s (by decide)) rfl (by first | rfl | (show Value.int _ = Value.int _; simp [wI, wL, wR, wC, up])) ?_
  refine A_iload_n d_Dusk_says_9 rfl ?_
  obtain ⟨c1, H⟩ := H
  obtain ⟨c2, H⟩ := H
  refine A_aald (t := 0) (n := 7) d_Dusk_says_10 (by decide) (vA_s (by decide)) rfl c1 (pos_sub c2) ?_
  obtain ⟨c3, H⟩ := H
  refine A_getHv (k := 1) (v := (h.1 (rR T1 h 18 x2.toNatClampNeg - 1) 1)) d_Dusk_says_11 (foh_Dusk_115 rfl) c3 (by first | rfl | simp [wI, wL, wR, wC, up]) ?_
  refine A_iast (n := 6) d_Dusk_says_14 (vA_s (by decide)) rfl (by decide) ?_
  refine A_aload_n d_Dusk_says_15 rfl ?_
  refine A_get (v := .ref 23) d_Dusk_says_16 (fo_Dusk_39_2 rfl) (vA_s (by decide)) rfl (by first | rfl | (show Value.int _ = Value.int _; simp [wI, wL, wR, wC, up])) ?_
  refine A_iconst 1 (by decide) d_Dusk_says_19 ?_
  refine A_aload_n d_Dusk_says_20 rfl ?_
  refine A_get (v := .ref 14) d_Dusk_says_21 (fo_Dusk_12_2 rfl) (vA_s (by decide)) rfl (by first | rfl | (show Value.int _ = Value.int _; simp [wI, wL, wR, wC, up])) ?_
  refine A_get (v := .ref 16) d_Dusk_says_24 (fo_Dusk_118_10 rfl) (vA_s (by decide)) rfl (by first | rfl | (show Value.int _ = Value.int _; simp [wI, wL, wR, wC, up])) ?_
  refine A_iload_n d_Dusk_says_27 rfl ?_
  refine A_ialdv (n := 7) (v := (h.1 16 x2)) d_Dusk_says_28 (vA_s (by decide)) rfl c1 (by first | rfl | simp [wI, wL, wR, wC, up]) ?_
  refine A_iast (n := 6) d_Dusk_says_29 (vA_s (by decide)) rfl (by decide) ?_
  refine A_aload_n d_Dusk_says_30 rfl ?_
  refine A_get (v := .ref 23) d_Dusk_says_31 (fo_Dusk_39_2 rfl) (vA_s (by decide)) rfl (by first | rfl | (show Value.int _ = Value.int _; simp [wI, wL, wR, wC, up])) ?_
  refine A_iconst 2 (by decide) d_Dusk_says_34 ?_
  refine A_aload_n d_Dusk_says_35 rfl ?_
  refine A_get (v := .ref 18) d_Dusk_says_36 (fo_Dusk_20_2 rfl) (vA_s (by decide)) rfl (by first | rfl | (show Value.int _ = Value.int _; simp [wI, wL, wR, wC, up])) ?_
  refine A_iload_n d_Dusk_says_39 rfl ?_
  refine A_aald (t := 0) (n := 7) d_Dusk_says_40 (by decide) (vA_s (by decide)) rfl c1 (pos_sub c2) ?_
  refine A_getHv (k := 2) (v := ((wI (wI h 23 0 (h.1 (rR T1 h 18 x2.toNatClampNeg - 1) 1)) 23 1 (h.1 16 x2)).1 (rR T1 h 18 x2.toNatClampNeg - 1) 2)) d_Dusk_says_41 (foh_Dusk_121 rfl) c3 (by first | rfl | simp [wI, wL, wR, wC, up]) ?_
  refine A_iast (n := 6) d_Dusk_says_44 (vA_s (by decide)) rfl (by decide) ?_
  refine A_aload_n d_Dusk_says_45 rfl ?_
  refine A_get (v := .ref 23) d_Dusk_says_46 (fo_Dusk_39_2 rfl) (vA_s (by decide)) rfl (by first | rfl | (show Value.int _ = Value.int _; simp [wI, wL, wR, wC, up])) ?_
  refine A_iconst 3 (by decide) d_Dusk_says_49 ?_
  refine A_aload_n d_Dusk_says_50 rfl ?_
  refine A_get (v := .ref 14) d_Dusk_says_51 (fo_Dusk_12_2 rfl) (vA_s (by decide)) rfl (by first | rfl | (show Value.int _ = Value.int _; simp [wI, wL, wR, wC, up])) ?_
  refine A_get (v := .ref 15) d_Dusk_says_54 (fo_Dusk_78_10 rfl) (vA_s (by decide)) rfl (by first | rfl | (show Value.int _ = Value.int _; simp [wI, wL, wR, wC, up])) ?_
  refine A_iload_n d_Dusk_says_57 rfl ?_
  refine A_ialdv (n := 7) (v := (h.1 15 x2)) d_Dusk_says_58 (vA_s (by decide)) rfl c1 (by first | rfl | simp [wI, wL, wR, wC, up]) ?_
  refine A_iast (n := 6) d_Dusk_says_59 (vA_s (by decide)) rfl (by decide) ?_
  refine A_aload_n d_Dusk_says_60 rfl ?_
  refine A_get (v := .ref 23) d_Dusk_says_61 (fo_Dusk_39_2 rfl) (vA_s (by decide)) rfl (by first | rfl | (show Value.int _ = Value.int _; simp [wI, wL, wR, wC, up])) ?_
  refine A_iconst 4 (by decide) d_Dusk_says_64 ?_
  refine A_iload_n d_Dusk_says_65 rfl ?_
  refine A_iast (n := 6) d_Dusk_says_66 (vA_s (by decide)) rfl (by decide) ?_
  refine A_aload_n d_Dusk_says_67 rfl ?_
  refine A_get (v := .ref 23) d_Dusk_says_68 (fo_Dusk_39_2 rfl) (vA_s (by decide)) rfl (by first | rfl | (show Value.int _ = Value.int _; simp [wI, wL, wR, wC, up])) ?_
  refine A_iconst 5 (by decide) d_Dusk_says_71 ?_
  refine A_iload d_Dusk_says_72 rfl ?_
  refine A_iast (n := 6) d_Dusk_says_74 (vA_s (by decide)) rfl (by decide) ?_
  refine A_aload_n d_Dusk_says_75 rfl ?_
  obtain ⟨c4, H⟩ := H
  refine A_get (v := .ref (rR T1 h 13 8 - 1)) d_Dusk_says_76 (fo_Dusk_49_2 rfl) (vA_s (by decide)) rfl (vR_pos c4) ?_
  refine A_iload_n d_Dusk_says_79 rfl ?_
  refine A_aload_n d_Dusk_says_80 rfl ?_
  refine A_get (v := .ref 23) d_Dusk_says_81 (fo_Dusk_39_2 rfl) (vA_s (by decide)) rfl (by first | rfl | (show Value.int _ = Value.int _; simp [wI, wL, wR, wC, up])) ?_
  refine A_aload_n d_Dusk_says_84 rfl ?_
  refine A_get (v := .ref 24) d_Dusk_says_85 (fo_Dusk_42_2 rfl) (vA_s (by decide)) rfl (by first | rfl | (show Value.int _ = Value.int _; simp [wI, wL, wR, wC, up])) ?_
  obtain ⟨c5, H⟩ := H
  obtain ⟨c6, H⟩ := H
  refine A_cI [.ref (rR T1 h 13 8 - 1), .int x1, .ref 23, .ref 24] [] (ct_Dusk_124 rfl) d_Dusk_says_88 rfl rfl (by decide) (Nat.le_of_ble_eq_true rfl) (rcA_o (c := 6) rfl c5 c6 (by decide) rfl) (ok_Law_answer (d := d) H) (fun r8 h7 H => ?_)
  exact A_iret d_Dusk_says_91 rfl rfl H
set_option maxRecDepth 20000 in
theorem ok_Dusk_says {G : GG} {d : Nat} {Q : Int32 → AH → Prop} {x1 : Int32} {x2 : Int32} {x3 : Int32} {x4 : Int32} {h : AH} (H : p_Dusk_says Q x1 x2 x3 x4 h) : WP G T1 m_Dusk_says (d + 2) [.ref 13, .int x1, .int x2, .int x3, .int x4] h 0 0 (iQ Q) := by
  exact WP.enter 0 (by decide) rfl rfl (r_Dusk_says_0 x1 x2 x3 x4 h H)
theorem d_UF_set_0 : decode prog_1_method_8_code 0 = .ok (.aload_n 0, 1) := by decide +kernel
theorem d_UF_set_1 : decode prog_1_method_8_code 1 = .ok (.iload_n 1, 1) := by decide +kernel
theorem d_UF_set_2 : decode prog_1_method_8_code 2 = .ok (.invokevirtual 107, 3) := by decide +kernel
theorem d_UF_set_5 : decode prog_1_method_8_code 5 = .ok (.ifCond .ne 6, 3) := by decide +kernel
theorem d_UF_set_8 : decode prog_1_method_8_code 8 = .ok (.bipush (-5), 2) := by decide +kernel
theorem d_UF_set_10 : decode prog_1_method_8_code 10 = .ok (.ireturn, 1) := by decide +kernel
theorem d_UF_set_11 : decode prog_1_method_8_code 11 = .ok (.iload_n 2, 1) := by decide +kernel
theorem d_UF_set_12 : decode prog_1_method_8_code 12 = .ok (.ifCond .ne 37, 3) := by decide +kernel
theorem d_UF_set_15 : decode prog_1_method_8_code 15 = .ok (.iload_n 3, 1) := by decide +kernel
theorem d_UF_set_16 : decode prog_1_method_8_code 16 = .ok (.iconst 0, 1) := by decide +kernel
theorem d_UF_set_17 : decode prog_1_method_8_code 17 = .ok (.bipush 9, 2) := by decide +kernel
theorem d_UF_set_19 : decode prog_1_method_8_code 19 = .ok (.invokestatic 95, 3) := by decide +kernel
theorem d_UF_set_22 : decode prog_1_method_8_code 22 = .ok (.ifCond .eq 27, 3) := by decide +kernel
theorem d_UF_set_25 : decode prog_1_method_8_code 25 = .ok (.aload_n 0, 1) := by decide +kernel
theorem d_UF_set_26 : decode prog_1_method_8_code 26 = .ok (.getfield 34, 3) := by decide +kernel
theorem d_UF_set_29 : decode prog_1_method_8_code 29 = .ok (.getfield 121, 3) := by decide +kernel
theorem d_UF_set_32 : decode prog_1_method_8_code 32 = .ok (.iload_n 1, 1) := by decide +kernel
theorem d_UF_set_33 : decode prog_1_method_8_code 33 = .ok (.iaload, 1) := by decide +kernel
theorem d_UF_set_34 : decode prog_1_method_8_code 34 = .ok (.istore 4, 2) := by decide +kernel
theorem d_UF_set_36 : decode prog_1_method_8_code 36 = .ok (.aload_n 0, 1) := by decide +kernel
theorem d_UF_set_37 : decode prog_1_method_8_code 37 = .ok (.getfield 34, 3) := by decide +kernel
theorem d_UF_set_40 : decode prog_1_method_8_code 40 = .ok (.getfield 121, 3) := by decide +kernel
theorem d_UF_set_43 : decode prog_1_method_8_code 43 = .ok (.iload_n 1, 1) := by decide +kernel
theorem d_UF_set_44 : decode prog_1_method_8_code 44 = .ok (.iload_n 3, 1) := by decide +kernel
theorem d_UF_set_45 : decode prog_1_method_8_code 45 = .ok (.iastore, 1) := by decide +kernel
theorem d_UF_set_46 : decode prog_1_method_8_code 46 = .ok (.iload 4, 2) := by decide +kernel
theorem d_UF_set_48 : decode prog_1_method_8_code 48 = .ok (.ireturn, 1) := by decide +kernel
theorem d_UF_set_49 : decode prog_1_method_8_code 49 = .ok (.iload_n 2, 1) := by decide +kernel
theorem d_UF_set_50 : decode prog_1_method_8_code 50 = .ok (.iconst 1, 1) := by decide +kernel
theorem d_UF_set_51 : decode prog_1_method_8_code 51 = .ok (.if_icmp .ne 37, 3) := by decide +kernel
theorem d_UF_set_54 : decode prog_1_method_8_code 54 = .ok (.iload_n 3, 1) := by decide +kernel
theorem d_UF_set_55 : decode prog_1_method_8_code 55 = .ok (.iconst 0, 1) := by decide +kernel
theorem d_UF_set_56 : decode prog_1_method_8_code 56 = .ok (.bipush 20, 2) := by decide +kernel
theorem d_UF_set_58 : decode prog_1_method_8_code 58 = .ok (.invokestatic 95, 3) := by decide +kernel
theorem d_UF_set_61 : decode prog_1_method_8_code 61 = .ok (.ifCond .eq 27, 3) := by decide +kernel
theorem d_UF_set_64 : decode prog_1_method_8_code 64 = .ok (.aload_n 0, 1) := by decide +kernel
theorem d_UF_set_65 : decode prog_1_method_8_code 65 = .ok (.getfield 34, 3) := by decide +kernel
theorem d_UF_set_68 : decode prog_1_method_8_code 68 = .ok (.getfield 124, 3) := by decide +kernel
theorem d_UF_set_71 : decode prog_1_method_8_code 71 = .ok (.iload_n 1, 1) := by decide +kernel
theorem d_UF_set_72 : decode prog_1_method_8_code 72 = .ok (.iaload, 1) := by decide +kernel
theorem d_UF_set_73 : decode prog_1_method_8_code 73 = .ok (.istore 4, 2) := by decide +kernel
theorem d_UF_set_75 : decode prog_1_method_8_code 75 = .ok (.aload_n 0, 1) := by decide +kernel
theorem d_UF_set_76 : decode prog_1_method_8_code 76 = .ok (.getfield 34, 3) := by decide +kernel
theorem d_UF_set_79 : decode prog_1_method_8_code 79 = .ok (.getfield 124, 3) := by decide +kernel
theorem d_UF_set_82 : decode prog_1_method_8_code 82 = .ok (.iload_n 1, 1) := by decide +kernel
theorem d_UF_set_83 : decode prog_1_method_8_code 83 = .ok (.iload_n 3, 1) := by decide +kernel
theorem d_UF_set_84 : decode prog_1_method_8_code 84 = .ok (.iastore, 1) := by decide +kernel
theorem d_UF_set_85 : decode prog_1_method_8_code 85 = .ok (.iload 4, 2) := by decide +kernel
theorem d_UF_set_87 : decode prog_1_method_8_code 87 = .ok (.ireturn, 1) := by decide +kernel
theorem d_UF_set_88 : decode prog_1_method_8_code 88 = .ok (.bipush (-7), 2) := by decide +kernel
theorem d_UF_set_90 : decode prog_1_method_8_code 90 = .ok (.ireturn, 1) := by decide +kernel
def p_UF_set_49 (Q : Int32 → AH → Prop) (x1 : Int32) (x2 : Int32) (x3 : Int32) (h : AH) : Prop := ((¬ x2 = 1 → Q (-7) h) ∧ (x2 = 1 → p_UF_within (fun r2 h1 => ((r2 = 0 → Q (-7) h1) ∧ (¬ r2 = 0 → inb x1 7 ∧ Q (h1.1 7 x1) (wI h1 7 x1 x3)))) x3 0 20 h))
def p_UF_set (Q : Int32 → AH → Prop) (x1 : Int32) (x2 : Int32) (x3 : Int32) (h : AH) : Prop := p_UF_isHouse (fun r2 h1 => ((¬ r2 = 0 → ((¬ x2 = 0 → p_UF_set_49 Q   x1 x2 x3 h1) ∧ (x2 = 0 → p_UF_within (fun r4 h3 => ((r4 = 0 → p_UF_set_49 Q   x1 x2 x3 h3) ∧ (¬ r4 = 0 → inb x1 7 ∧ Q (h3.1 6 x1) (wI h3 6 x1 x3)))) x3 0 9 h1))) ∧ (r2 = 0 → Q (-5) h1))) x1 h
set_option maxRecDepth 20000 in
theorem r_UF_set_49 {G : GG} {d : Nat} {Q : Int32 → AH → Prop} (x1 : Int32) (x2 : Int32) (x3 : Int32) (h : AH) (H : p_UF_set_49 Q x1 x2 x3 h) : Att G T1 m_UF_set (d + 2) 49 [some (.ref 0), some (.int x1), some (.int x2), some (.int x3), none] [] h 0 0 (iQ Q) := by
  refine A_iload_n d_UF_set_49 rfl ?_
  refine A_iconst 1 (by decide) d_UF_set_50 ?_
  refine A_icmp_ne 88 d_UF_set_51 (by decide) (fun z => ?_) (fun z => ?_)
  · have H := H.1 z
    refine A_bipush (-7) (by decide) d_UF_set_88 ?_
    exact A_iret d_UF_set_90 rfl rfl H
  · have H := H.2 z
    refine A_iload_n d_UF_set_54 rfl ?_
    refine A_iconst 0 (by decide) d_UF_set_55 ?_
    refine A_bipush 20 (by decide) d_UF_set_56 ?_
    refine A_cI [.int x3, .int 0, .int 20] [] (ct_UF_95 rfl) d_UF_set_58 rfl rfl (by decide) (Nat.le_of_ble_eq_true rfl) trivial (ok_UF_within (d := d + 1) H) (fun r2 h1 H => ?_)
    refine A_if_eq 88 d_UF_set_61 (by decide) (fun z => ?_) (fun z => ?_)
    · have H := H.1 z
      refine A_bipush (-7) (by decide) d_UF_set_88 ?_
      exact A_iret d_UF_set_90 rfl rfl H
    · have H := H.2 z
      refine A_aload_n d_UF_set_64 rfl ?_
      refine A_get (v := .ref 5) d_UF_set_65 (fo_UF_34_11 rfl) (vA_s (by decide)) rfl (by first | rfl | (show Value.int _ = Value.int _; simp [wI, wL, wR, wC, up])) ?_
      refine A_get (v := .ref 7) d_UF_set_68 (fo_UF_124_10 rfl) (vA_s (by decide)) rfl (by first | rfl | (show Value.int _ = Value.int _; simp [wI, wL, wR, wC, up])) ?_
      refine A_iload_n d_UF_set_71 rfl ?_
      obtain ⟨c3, H⟩ := H
      refine A_ialdv (n := 7) (v := (h1.1 7 x1)) d_UF_set_72 (vA_s (by decide)) rfl c3 rfl ?_
      refine A_istore [some (.ref 0), some (.int x1), some (.int x2), some (.int x3), some (.int (h1.1 7 x1))] d_UF_set_73 (by decide) rfl rfl ?_
      refine A_aload_n d_UF_set_75 rfl ?_
      refine A_get (v := .ref 5) d_UF_set_76 (fo_UF_34_11 rfl) (vA_s (by decide)) rfl (by first | rfl | (show Value.int _ = Value.int _; simp [wI, wL, wR, wC, up])) ?_
      refine A_get (v := .ref 7) d_UF_set_79 (fo_UF_124_10 rfl) (vA_s (by decide)) rfl (by first | rfl | (show Value.int _ = Value.int _; simp [wI, wL, wR, wC, up])) ?_
      refine A_iload_n d_UF_set_82 rfl ?_
      refine A_iload_n d_UF_set_83 rfl ?_
      refine A_iast (n := 7) d_UF_set_84 (vA_s (by decide)) rfl c3 ?_
      refine A_iload d_UF_set_85 rfl ?_
      exact A_iret d_UF_set_87 rfl rfl H
set_option maxRecDepth 20000 in
theorem r_UF_set_0 {G : GG} {d : Nat} {Q : Int32 → AH → Prop} (x1 : Int32) (x2 : Int32) (x3 : Int32) (h : AH) (H : p_UF_set Q x1 x2 x3 h) : Att G T1 m_UF_set (d + 2) 0 [some (.ref 0), some (.int x1), some (.int x2), some (.int x3), none] [] h 0 0 (iQ Q) := by
  refine A_aload_n d_UF_set_0 rfl ?_
  refine A_iload_n d_UF_set_1 rfl ?_
  refine A_cI [.ref 0, .int x1] [] (ct_UF_107 rfl) d_UF_set_2 rfl rfl (by decide) (Nat.le_of_ble_eq_true rfl) (rcA_o (c := 11) rfl (vA_s (by decide)) rfl (by decide) rfl) (ok_UF_isHouse (d := d) H) (fun r2 h1 H => ?_)
  refine A_if_ne 11 d_UF_set_5 (by decide) (fun z => ?_) (fun z => ?_)
  · have H := H.1 z
    refine A_iload_n d_UF_set_11 rfl ?_
    refine A_if_ne 49 d_UF_set_12 (by decide) (fun z => ?_) (fun z => ?_)
    · have H := H.1 z
      exact r_UF_set_49   _ _ _ _ H
    · have H := H.2 z
      refine A_iload_n d_UF_set_15 rfl ?_
      refine A_iconst 0 (by decide) d_UF_set_16 ?_
      refine A_bipush 9 (by decide) d_UF_set_17 ?_
      refine A_cI [.int x3, .int 0, .int 9] [] (ct_UF_95 rfl) d_UF_set_19 rfl rfl (by decide) (Nat.le_of_ble_eq_true rfl) trivial (ok_UF_within (d := d + 1) H) (fun r4 h3 H => ?_)
      refine A_if_eq 49 d_UF_set_22 (by decide) (fun z => ?_) (fun z => ?_)
      · have H := H.1 z
        exact r_UF_set_49   _ _ _ _ H
      · have H := H.2 z
        refine A_aload_n d_UF_set_25 rfl ?_
        refine A_get (v := .ref 5) d_UF_set_26 (fo_UF_34_11 rfl) (vA_s (by decide)) rfl (by first | rfl | (show Value.int _ = Value.int _; simp [wI, wL, wR, wC, up])) ?_
        refine A_get (v := .ref 6) d_UF_set_29 (fo_UF_121_10 rfl) (vA_s (by decide)) rfl (by first | rfl | (show Value.int _ = Value.int _; simp [wI, wL, wR, wC, up])) ?_
        refine A_iload_n d_UF_set_32 rfl ?_
        obtain ⟨c5, H⟩ := H
        refine A_ialdv (n := 7) (v := (h3.1 6 x1)) d_UF_set_33 (vA_s (by decide)) rfl c5 rfl ?_
        refine A_istore [some (.ref 0), some (.int x1), some (.int x2), some (.int x3), some (.int (h3.1 6 x1))] d_UF_set_34 (by decide) rfl rfl ?_
        refine A_aload_n d_UF_set_36 rfl ?_
        refine A_get (v := .ref 5) d_UF_set_37 (fo_UF_34_11 rfl) (vA_s (by decide)) rfl (by first | rfl | (show Value.int _ = Value.int _; simp [wI, wL, wR, wC, up])) ?_
        refine A_get (v := .ref 6) d_UF_set_40 (fo_UF_121_10 rfl) (vA_s (by decide)) rfl (by first | rfl | (show Value.int _ = Value.int _; simp [wI, wL, wR, wC, up])) ?_
        refine A_iload_n d_UF_set_43 rfl ?_
        refine A_iload_n d_UF_set_44 rfl ?_
        refine A_iast (n := 7) d_UF_set_45 (vA_s (by decide)) rfl c5 ?_
        refine A_iload d_UF_set_46 rfl ?_
        exact A_iret d_UF_set_48 rfl rfl H
  · have H := H.2 z
    refine A_bipush (-5) (by decide) d_UF_set_8 ?_
    exact A_iret d_UF_set_10 rfl rfl H
set_option maxRecDepth 20000 in
theorem ok_UF_set {G : GG} {d : Nat} {Q : Int32 → AH → Prop} {x1 : Int32} {x2 : Int32} {x3 : Int32} {h : AH} (H : p_UF_set Q x1 x2 x3 h) : WP G T1 m_UF_set (d + 2) [.ref 0, .int x1, .int x2, .int x3] h 0 0 (iQ Q) := by
  exact WP.enter 1 (by decide) rfl rfl (r_UF_set_0 x1 x2 x3 h H)
theorem d_Town_join_0 : decode prog_12_method_5_code 0 = .ok (.aload_n 0, 1) := by decide +kernel
theorem d_Town_join_1 : decode prog_12_method_5_code 1 = .ok (.iload_n 1, 1) := by decide +kernel
theorem d_Town_join_2 : decode prog_12_method_5_code 2 = .ok (.invokevirtual 38, 3) := by decide +kernel
theorem d_Town_join_5 : decode prog_12_method_5_code 5 = .ok (.aload_n 0, 1) := by decide +kernel
theorem d_Town_join_6 : decode prog_12_method_5_code 6 = .ok (.iload_n 2, 1) := by decide +kernel
theorem d_Town_join_7 : decode prog_12_method_5_code 7 = .ok (.invokevirtual 38, 3) := by decide +kernel
theorem d_Town_join_10 : decode prog_12_method_5_code 10 = .ok (.iload_n 1, 1) := by decide +kernel
theorem d_Town_join_11 : decode prog_12_method_5_code 11 = .ok (.iload_n 2, 1) := by decide +kernel
theorem d_Town_join_12 : decode prog_12_method_5_code 12 = .ok (.if_icmp .ne 4, 3) := by decide +kernel
theorem d_Town_join_15 : decode prog_12_method_5_code 15 = .ok (.return_, 1) := by decide +kernel
theorem d_Town_join_16 : decode prog_12_method_5_code 16 = .ok (.aload_n 0, 1) := by decide +kernel
theorem d_Town_join_17 : decode prog_12_method_5_code 17 = .ok (.getfield 18, 3) := by decide +kernel
theorem d_Town_join_20 : decode prog_12_method_5_code 20 = .ok (.iload_n 1, 1) := by decide +kernel
theorem d_Town_join_21 : decode prog_12_method_5_code 21 = .ok (.iload_n 2, 1) := by decide +kernel
theorem d_Town_join_22 : decode prog_12_method_5_code 22 = .ok (.iastore, 1) := by decide +kernel
theorem d_Town_join_23 : decode prog_12_method_5_code 23 = .ok (.aload_n 0, 1) := by decide +kernel
theorem d_Town_join_24 : decode prog_12_method_5_code 24 = .ok (.getfield 18, 3) := by decide +kernel
theorem d_Town_join_27 : decode prog_12_method_5_code 27 = .ok (.iload_n 2, 1) := by decide +kernel
theorem d_Town_join_28 : decode prog_12_method_5_code 28 = .ok (.iload_n 1, 1) := by decide +kernel
theorem d_Town_join_29 : decode prog_12_method_5_code 29 = .ok (.iastore, 1) := by decide +kernel
theorem d_Town_join_30 : decode prog_12_method_5_code 30 = .ok (.return_, 1) := by decide +kernel
def p_Town_join (Q : AH → Prop) (a0 : Nat) (x1 : Int32) (x2 : Int32) (h : AH) : Prop := vA T1 h a0 ∧ (rS T1 h a0).1 = 10 ∧ p_Town_loosen (fun h3 => vA T1 h3 a0 ∧ (rS T1 h3 a0).1 = 10 ∧ p_Town_loosen (fun h6 => ((¬ x1 = x2 → vA T1 h6 a0 ∧ (rS T1 h6 a0).1 = 10 ∧ 0 < rR T1 h6 a0 2 ∧ vA T1 h6 (rR T1 h6 a0 2 - 1) ∧ (rS T1 h6 (rR T1 h6 a0 2 - 1)).1 = 100 ∧ inb x1 ((rS T1 h6 (rR T1 h6 a0 2 - 1)).2) ∧ inb x2 ((rS T1 h6 (rR T1 h6 a0 2 - 1)).2) ∧ Q (wI (wI h6 (rR T1 h6 a0 2 - 1) x1 x2) (rR T1 h6 a0 2 - 1) x2 x1)) ∧ (x1 = x2 → Q h6))) a0 x2 h3) a0 x1 h
set_option maxRecDepth 20000 in
theorem r_Town_join_0 {G : GG} {d : Nat} {Q : AH → Prop} (a0 : Nat) (x1 : Int32) (x2 : Int32) (h : AH) (H : p_Town_join Q a0 x1 x2 h) : Att G T1 m_Town_join (d + 2) 0 [some (.ref a0), some (.int x1), some (.int x2)] [] h 0 0 (vQ Q) := by
  refine A_aload_n d_Town_join_0 rfl ?_
  refine A_iload_n d_Town_join_1 rfl ?_
  obtain ⟨c1, H⟩ := H
  obtain ⟨c2, H⟩ := H
  refine A_cV [.ref a0, .int x1] [] (ct_Town_38 rfl) d_Town_join_2 rfl rfl (by decide) (Nat.le_of_ble_eq_true rfl) (rcA_o (c := 10) rfl c1 c2 (by decide) rfl) (ok_Town_loosen (d := d) H) (fun h3 H => ?_)
  refine A_aload_n d_Town_join_5 rfl ?_
  refine A_iload_n d_Town_join_6 rfl ?_
  obtain ⟨c4, H⟩ := H
  obtain ⟨c5, H⟩ := H
  refine A_cV [.ref a0, .int x2] [] (ct_Town_38 rfl) d_Town_join_7 rfl rfl (by decide) (Nat.le_of_ble_eq_true rfl) (rcA_o (c := 10) rfl c4 c5 (by decide) rfl) (ok_Town_loosen (d := d) H) (fun h6 H => ?_)
  refine A_iload_n d_Town_join_10 rfl ?_
  refine A_iload_n d_Town_join_11 rfl ?_
  refine A_icmp_ne 16 d_Town_join_12 (by decide) (fun z => ?_) (fun z => ?_)
  · have H := H.1 z
    refine A_aload_n d_Town_join_16 rfl ?_
    obtain ⟨c7, H⟩ := H
    obtain ⟨c8, H⟩ := H
    obtain ⟨c9, H⟩ := H
    refine A_get (v := .ref (rR T1 h6 a0 2 - 1)) d_Town_join_17 (fo_Town_18_10 rfl) c7 c8 (vR_pos c9) ?_
    refine A_iload_n d_Town_join_20 rfl ?_
    refine A_iload_n d_Town_join_21 rfl ?_
    obtain ⟨c10, H⟩ := H
    obtain ⟨c11, H⟩ := H
    obtain ⟨c12, H⟩ := H
    refine A_iast (n := _) d_Town_join_22 c10 (rS_ex c11) c12 ?_
    refine A_aload_n d_Town_join_23 rfl ?_
    refine A_get (v := .ref (rR T1 h6 a0 2 - 1)) d_Town_join_24 (fo_Town_18_10 rfl) c7 c8 (vR_pos c9) ?_
    refine A_iload_n d_Town_join_27 rfl ?_
    refine A_iload_n d_Town_join_28 rfl ?_
    obtain ⟨c13, H⟩ := H
    refine A_iast (n := _) d_Town_join_29 c10 (rS_ex c11) c13 ?_
    exact A_ret d_Town_join_30 rfl H
  · have H := H.2 z
    exact A_ret d_Town_join_15 rfl H
set_option maxRecDepth 20000 in
theorem ok_Town_join {G : GG} {d : Nat} {Q : AH → Prop} {a0 : Nat} {x1 : Int32} {x2 : Int32} {h : AH} (H : p_Town_join Q a0 x1 x2 h) : WP G T1 m_Town_join (d + 2) [.ref a0, .int x1, .int x2] h 0 0 (vQ Q) := by
  exact WP.enter 0 (by decide) rfl rfl (r_Town_join_0 a0 x1 x2 h H)
theorem d_UF_told_0 : decode prog_1_method_10_code 0 = .ok (.aload_n 0, 1) := by decide +kernel
theorem d_UF_told_1 : decode prog_1_method_10_code 1 = .ok (.iload_n 1, 1) := by decide +kernel
theorem d_UF_told_2 : decode prog_1_method_10_code 2 = .ok (.invokevirtual 107, 3) := by decide +kernel
theorem d_UF_told_5 : decode prog_1_method_10_code 5 = .ok (.ifCond .ne 6, 3) := by decide +kernel
theorem d_UF_told_8 : decode prog_1_method_10_code 8 = .ok (.bipush (-5), 2) := by decide +kernel
theorem d_UF_told_10 : decode prog_1_method_10_code 10 = .ok (.ireturn, 1) := by decide +kernel
theorem d_UF_told_11 : decode prog_1_method_10_code 11 = .ok (.iload_n 2, 1) := by decide +kernel
theorem d_UF_told_12 : decode prog_1_method_10_code 12 = .ok (.tableswitch 100 0 5 #[40, 50, 60, 70, 80, 90], 40) := by decide +kernel
theorem d_UF_told_52 : decode prog_1_method_10_code 52 = .ok (.aload_n 0, 1) := by decide +kernel
theorem d_UF_told_53 : decode prog_1_method_10_code 53 = .ok (.getfield 34, 3) := by decide +kernel
theorem d_UF_told_56 : decode prog_1_method_10_code 56 = .ok (.getfield 121, 3) := by decide +kernel
theorem d_UF_told_59 : decode prog_1_method_10_code 59 = .ok (.iload_n 1, 1) := by decide +kernel
theorem d_UF_told_60 : decode prog_1_method_10_code 60 = .ok (.iaload, 1) := by decide +kernel
theorem d_UF_told_61 : decode prog_1_method_10_code 61 = .ok (.ireturn, 1) := by decide +kernel
theorem d_UF_told_62 : decode prog_1_method_10_code 62 = .ok (.aload_n 0, 1) := by decide +kernel
theorem d_UF_told_63 : decode prog_1_method_10_code 63 = .ok (.getfield 34, 3) := by decide +kernel
theorem d_UF_told_66 : decode prog_1_method_10_code 66 = .ok (.getfield 124, 3) := by decide +kernel
theorem d_UF_told_69 : decode prog_1_method_10_code 69 = .ok (.iload_n 1, 1) := by decide +kernel
theorem d_UF_told_70 : decode prog_1_method_10_code 70 = .ok (.iaload, 1) := by decide +kernel
theorem d_UF_told_71 : decode prog_1_method_10_code 71 = .ok (.ireturn, 1) := by decide +kernel
theorem d_UF_told_72 : decode prog_1_method_10_code 72 = .ok (.aload_n 0, 1) := by decide +kernel
theorem d_UF_told_73 : decode prog_1_method_10_code 73 = .ok (.getfield 34, 3) := by decide +kernel
theorem d_UF_told_76 : decode prog_1_method_10_code 76 = .ok (.getfield 127, 3) := by decide +kernel
theorem d_UF_told_79 : decode prog_1_method_10_code 79 = .ok (.iload_n 1, 1) := by decide +kernel
theorem d_UF_told_80 : decode prog_1_method_10_code 80 = .ok (.iaload, 1) := by decide +kernel
theorem d_UF_told_81 : decode prog_1_method_10_code 81 = .ok (.ireturn, 1) := by decide +kernel
theorem d_UF_told_82 : decode prog_1_method_10_code 82 = .ok (.aload_n 0, 1) := by decide +kernel
theorem d_UF_told_83 : decode prog_1_method_10_code 83 = .ok (.getfield 11, 3) := by decide +kernel
theorem d_UF_told_86 : decode prog_1_method_10_code 86 = .ok (.iload_n 1, 1) := by decide +kernel
theorem d_UF_told_87 : decode prog_1_method_10_code 87 = .ok (.aaload, 1) := by decide +kernel
theorem d_UF_told_88 : decode prog_1_method_10_code 88 = .ok (.getfield 134, 3) := by decide +kernel
theorem d_UF_told_91 : decode prog_1_method_10_code 91 = .ok (.ireturn, 1) := by decide +kernel
theorem d_UF_told_92 : decode prog_1_method_10_code 92 = .ok (.aload_n 0, 1) := by decide +kernel
theorem d_UF_told_93 : decode prog_1_method_10_code 93 = .ok (.getfield 11, 3) := by decide +kernel
theorem d_UF_told_96 : decode prog_1_method_10_code 96 = .ok (.iload_n 1, 1) := by decide +kernel
theorem d_UF_told_97 : decode prog_1_method_10_code 97 = .ok (.aaload, 1) := by decide +kernel
theorem d_UF_told_98 : decode prog_1_method_10_code 98 = .ok (.getfield 137, 3) := by decide +kernel
theorem d_UF_told_101 : decode prog_1_method_10_code 101 = .ok (.ireturn, 1) := by decide +kernel
theorem d_UF_told_102 : decode prog_1_method_10_code 102 = .ok (.aload_n 0, 1) := by decide +kernel
theorem d_UF_told_103 : decode prog_1_method_10_code 103 = .ok (.getfield 11, 3) := by decide +kernel
theorem d_UF_told_106 : decode prog_1_method_10_code 106 = .ok (.iload_n 1, 1) := by decide +kernel
theorem d_UF_told_107 : decode prog_1_method_10_code 107 = .ok (.aaload, 1) := by decide +kernel
theorem d_UF_told_108 : decode prog_1_method_10_code 108 = .ok (.getfield 140, 3) := by decide +kernel
theorem d_UF_told_111 : decode prog_1_method_10_code 111 = .ok (.ireturn, 1) := by decide +kernel
theorem d_UF_told_112 : decode prog_1_method_10_code 112 = .ok (.bipush (-7), 2) := by decide +kernel
theorem d_UF_told_114 : decode prog_1_method_10_code 114 = .ok (.ireturn, 1) := by decide +kernel
def p_UF_told (Q : Int32 → AH → Prop) (x1 : Int32) (x2 : Int32) (h : AH) : Prop := p_UF_isHouse (fun r2 h1 => ((¬ r2 = 0 → ((x2 = 0 → inb x1 7 ∧ Q (h1.1 6 x1) h1) ∧ (x2 = 1 → inb x1 7 ∧ Q (h1.1 7 x1) h1) ∧ (x2 = 2 → inb x1 7 ∧ Q (h1.1 8 x1) h1) ∧ (x2 = 3 → inb x1 7 ∧ 0 < rR T1 h1 1 x1.toNatClampNeg ∧ famA T1 h1 (rR T1 h1 1 x1.toNatClampNeg - 1) ∧ Q (h1.1 (rR T1 h1 1 x1.toNatClampNeg - 1) 0) h1) ∧ (x2 = 4 → inb x1 7 ∧ 0 < rR T1 h1 1 x1.toNatClampNeg ∧ famA T1 h1 (rR T1 h1 1 x1.toNatClampNeg - 1) ∧ Q (h1.1 (rR T1 h1 1 x1.toNatClampNeg - 1) 1) h1) ∧ (x2 = 5 → inb x1 7 ∧ 0 < rR T1 h1 1 x1.toNatClampNeg ∧ famA T1 h1 (rR T1 h1 1 x1.toNatClampNeg - 1) ∧ Q (h1.1 (rR T1 h1 1 x1.toNatClampNeg - 1) 2) h1) ∧ (¬ x2 = 0 → ¬ x2 = 1 → ¬ x2 = 2 → ¬ x2 = 3 → ¬ x2 = 4 → ¬ x2 = 5 → Q (-7) h1))) ∧ (r2 = 0 → Q (-5) h1))) x1 h
set_option maxRecDepth 20000 in
theorem r_UF_told_0 {G : GG} {d : Nat} {Q : Int32 → AH → Prop} (x1 : Int32) (x2 : Int32) (h : AH) (H : p_UF_told Q x1 x2 h) : Att G T1 m_UF_told (d + 2) 0 [some (.ref 0), some (.int x1), some (.int x2)] [] h 0 0 (iQ Q) := by
  refine A_aload_n d_UF_told_0 rfl ?_
  refine A_iload_n d_UF_told_1 rfl ?_
  refine A_cI [.ref 0, .int x1] [] (ct_UF_107 rfl) d_UF_told_2 rfl rfl (by decide) (Nat.le_of_ble_eq_true rfl) (rcA_o (c := 11) rfl (vA_s (by decide)) rfl (by decide) rfl) (ok_UF_isHouse (d := d) H) (fun r2 h1 H => ?_)
  refine A_if_ne 11 d_UF_told_5 (by decide) (fun z => ?_) (fun z => ?_)
  · have H := H.1 z
    refine A_iload_n d_UF_told_11 rfl ?_
    by_cases z0 : x2 = 0
    · have H := H.1 z0
      refine A_tsI 52 d_UF_told_12 (by rw [z0]; decide) (by rw [z0]; decide) (by rw [z0]; rfl) (by decide) ?_
      refine A_aload_n d_UF_told_52 rfl ?_
      refine A_get (v := .ref 5) d_UF_told_53 (fo_UF_34_11 rfl) (vA_s (by decide)) rfl (by first | rfl | (show Value.int _ = Value.int _; simp [wI, wL, wR, wC, up])) ?_
      refine A_get (v := .ref 6) d_UF_told_56 (fo_UF_121_10 rfl) (vA_s (by decide)) rfl (by first | rfl | (show Value.int _ = Value.int _; simp [wI, wL, wR, wC, up])) ?_
      refine A_iload_n d_UF_told_59 rfl ?_
      obtain ⟨c3, H⟩ := H
      refine A_ialdv (n := 7) (v := (h1.1 6 x1)) d_UF_told_60 (vA_s (by decide)) rfl c3 rfl ?_
      exact A_iret d_UF_told_61 rfl rfl H
    · have H := H.2
      by_cases z1 : x2 = 1
      · have H := H.1 z1
        refine A_tsI 62 d_UF_told_12 (by rw [z1]; decide) (by rw [z1]; decide) (by rw [z1]; rfl) (by decide) ?_
        refine A_aload_n d_UF_told_62 rfl ?_
        refine A_get (v := .ref 5) d_UF_told_63 (fo_UF_34_11 rfl) (vA_s (by decide)) rfl (by first | rfl | (show Value.int _ = Value.int _; simp [wI, wL, wR, wC, up])) ?_
        refine A_get (v := .ref 7) d_UF_told_66 (fo_UF_124_10 rfl) (vA_s (by decide)) rfl (by first | rfl | (show Value.int _ = Value.int _; simp [wI, wL, wR, wC, up])) ?_
        refine A_iload_n d_UF_told_69 rfl ?_
        obtain ⟨c4, H⟩ := H
        refine A_ialdv (n := 7) (v := (h1.1 7 x1)) d_UF_told_70 (vA_s (by decide)) rfl c4 rfl ?_
        exact A_iret d_UF_told_71 rfl rfl H
      · have H := H.2
        by_cases z2 : x2 = 2
        · have H := H.1 z2
          refine A_tsI 72 d_UF_told_12 (by rw [z2]; decide) (by rw [z2]; decide) (by rw [z2]; rfl) (by decide) ?_
          refine A_aload_n d_UF_told_72 rfl ?_
          refine A_get (v := .ref 5) d_UF_told_73 (fo_UF_34_11 rfl) (vA_s (by decide)) rfl (by first | rfl | (show Value.int _ = Value.int _; simp [wI, wL, wR, wC, up])) ?_
          refine A_get (v := .ref 8) d_UF_told_76 (fo_UF_127_10 rfl) (vA_s (by decide)) rfl (by first | rfl | (show Value.int _ = Value.int _; simp [wI, wL, wR, wC, up])) ?_
          refine A_iload_n d_UF_told_79 rfl ?_
          obtain ⟨c5, H⟩ := H
          refine A_ialdv (n := 7) (v := (h1.1 8 x1)) d_UF_told_80 (vA_s (by decide)) rfl c5 rfl ?_
          exact A_iret d_UF_told_81 rfl rfl H
        · have H := H.2
          by_cases z3 : x2 = 3
          · have H := H.1 z3
            refine A_tsI 82 d_UF_told_12 (by rw [z3]; decide) (by rw [z3]; decide) (by rw [z3]; rfl) (by decide) ?_
            refine A_aload_n d_UF_told_82 rfl ?_
            refine A_get (v := .ref 1) d_UF_told_83 (fo_UF_11_11 rfl) (vA_s (by decide)) rfl (by first | rfl | (show Value.int _ = Value.int _; simp [wI, wL, wR, wC, up])) ?_
            refine A_iload_n d_UF_told_86 rfl ?_
            obtain ⟨c6, H⟩ := H
            obtain ⟨c7, H⟩ := H
            refine A_aald (t := 0) (n := 7) d_UF_told_87 (by decide) (vA_s (by decide)) rfl c6 (pos_sub c7) ?_
            obtain ⟨c8, H⟩ := H
            refine A_getHv (k := 0) (v := (h1.1 (rR T1 h1 1 x1.toNatClampNeg - 1) 0)) d_UF_told_88 (foh_UF_134 rfl) c8 (by first | rfl | simp [wI, wL, wR, wC, up]) ?_
            exact A_iret d_UF_told_91 rfl rfl H
          · have H := H.2
            by_cases z4 : x2 = 4
            · have H := H.1 z4
              refine A_tsI 92 d_UF_told_12 (by rw [z4]; decide) (by rw [z4]; decide) (by rw [z4]; rfl) (by decide) ?_
              refine A_aload_n d_UF_told_92 rfl ?_
              refine A_get (v := .ref 1) d_UF_told_93 (fo_UF_11_11 rfl) (vA_s (by decide)) rfl (by first | rfl | (show Value.int _ = Value.int _; simp [wI, wL, wR, wC, up])) ?_
              refine A_iload_n d_UF_told_96 rfl ?_
              obtain ⟨c9, H⟩ := H
              obtain ⟨c10, H⟩ := H
              refine A_aald (t := 0) (n := 7) d_UF_told_97 (by decide) (vA_s (by decide)) rfl c9 (pos_sub c10) ?_
              obtain ⟨c11, H⟩ := H
              refine A_getHv (k := 1) (v := (h1.1 (rR T1 h1 1 x1.toNatClampNeg - 1) 1)) d_UF_told_98 (foh_UF_137 rfl) c11 (by first | rfl | simp [wI, wL, wR, wC, up]) ?_
              exact A_iret d_UF_told_101 rfl rfl H
            · have H := H.2
              by_cases z5 : x2 = 5
              · have H := H.1 z5
                refine A_tsI 102 d_UF_told_12 (by rw [z5]; decide) (by rw [z5]; decide) (by rw [z5]; rfl) (by decide) ?_
                refine A_aload_n d_UF_told_102 rfl ?_
                refine A_get (v := .ref 1) d_UF_told_103 (fo_UF_11_11 rfl) (vA_s (by decide)) rfl (by first | rfl | (show Value.int _ = Value.int _; simp [wI, wL, wR, wC, up])) ?_
                refine A_iload_n d_UF_told_106 rfl ?_
                obtain ⟨c12, H⟩ := H
                obtain ⟨c13, H⟩ := H
                refine A_aald (t := 0) (n := 7) d_UF_told_107 (by decide) (vA_s (by decide)) rfl c12 (pos_sub c13) ?_
                obtain ⟨c14, H⟩ := H
                refine A_getHv (k := 2) (v := (h1.1 (rR T1 h1 1 x1.toNatClampNeg - 1) 2)) d_UF_told_108 (foh_UF_140 rfl) c14 (by first | rfl | simp [wI, wL, wR, wC, up]) ?_
                exact A_iret d_UF_told_111 rfl rfl H
              · have H := H.2
                have H := H z0 z1 z2 z3 z4 z5
                refine A_tsO 112 d_UF_told_12 (by have t0 := lv_neT z0 (a := 0) (by decide); have t1 := lv_neT z1 (a := 1) (by decide); have t2 := lv_neT z2 (a := 2) (by decide); have t3 := lv_neT z3 (a := 3) (by decide); have t4 := lv_neT z4 (a := 4) (by decide); have t5 := lv_neT z5 (a := 5) (by decide); omega) (by decide) ?_
                refine A_bipush (-7) (by decide) d_UF_told_112 ?_
                exact A_iret d_UF_told_114 rfl rfl H
  · have H := H.2 z
    refine A_bipush (-5) (by decide) d_UF_told_8 ?_
    exact A_iret d_UF_told_10 rfl rfl H
set_option maxRecDepth 20000 in
theorem ok_UF_told {G : GG} {d : Nat} {Q : Int32 → AH → Prop} {x1 : Int32} {x2 : Int32} {h : AH} (H : p_UF_told Q x1 x2 h) : WP G T1 m_UF_told (d + 2) [.ref 0, .int x1, .int x2] h 0 0 (iQ Q) := by
  exact WP.enter 0 (by decide) rfl rfl (r_UF_told_0 x1 x2 h H)
theorem d_Town_downCount_0 : decode prog_12_method_12_code 0 = .ok (.aload_n 0, 1) := by decide +kernel
theorem d_Town_downCount_1 : decode prog_12_method_12_code 1 = .ok (.invokevirtual 49, 3) := by decide +kernel
theorem d_Town_downCount_4 : decode prog_12_method_12_code 4 = .ok (.invokestatic 53, 3) := by decide +kernel
theorem d_Town_downCount_7 : decode prog_12_method_12_code 7 = .ok (.ireturn, 1) := by decide +kernel
def p_Town_downCount (Q : Int32 → AH → Prop) (a0 : Nat) (h : AH) : Prop := vA T1 h a0 ∧ (rS T1 h a0).1 = 10 ∧ p_Town_downBits (fun r4 h3 => p_Integer_bitCount (fun r6 h5 => Q r6 h5) r4 h3) a0 h
set_option maxRecDepth 20000 in
theorem r_Town_downCount_0 {G : GG} {d : Nat} {Q : Int32 → AH → Prop} (a0 : Nat) (h : AH) (H : p_Town_downCount Q a0 h) : Att G T1 m_Town_downCount (d + 2) 0 [some (.ref a0)] [] h 0 0 (iQ Q) := by
  refine A_aload_n d_Town_downCount_0 rfl ?_
  obtain ⟨c1, H⟩ := H
  obtain ⟨c2, H⟩ := H
  refine A_cI [.ref a0] [] (ct_Town_49 rfl) d_Town_downCount_1 rfl rfl (by decide) (Nat.le_of_ble_eq_true rfl) (rcA_o (c := 10) rfl c1 c2 (by decide) rfl) (ok_Town_downBits (d := d) H) (fun r4 h3 H => ?_)
  refine A_cI [.int r4] [] (ct_Town_53 rfl) d_Town_downCount_4 rfl rfl (by decide) (Nat.le_of_ble_eq_true rfl) trivial (ok_Integer_bitCount (d := d + 1) H) (fun r6 h5 H => ?_)
  exact A_iret d_Town_downCount_7 rfl rfl H
set_option maxRecDepth 20000 in
theorem ok_Town_downCount {G : GG} {d : Nat} {Q : Int32 → AH → Prop} {a0 : Nat} {h : AH} (H : p_Town_downCount Q a0 h) : WP G T1 m_Town_downCount (d + 2) [.ref a0] h 0 0 (iQ Q) := by
  exact WP.enter 0 (by decide) rfl rfl (r_Town_downCount_0 a0 h H)
theorem d_UF_tellingRefusal_0 : decode prog_1_method_46_code 0 = .ok (.iload_n 1, 1) := by decide +kernel
theorem d_UF_tellingRefusal_1 : decode prog_1_method_46_code 1 = .ok (.invokestatic 211, 3) := by decide +kernel
theorem d_UF_tellingRefusal_4 : decode prog_1_method_46_code 4 = .ok (.ifCond .ne 6, 3) := by decide +kernel
theorem d_UF_tellingRefusal_7 : decode prog_1_method_46_code 7 = .ok (.bipush (-2), 2) := by decide +kernel
theorem d_UF_tellingRefusal_9 : decode prog_1_method_46_code 9 = .ok (.ireturn, 1) := by decide +kernel
theorem d_UF_tellingRefusal_10 : decode prog_1_method_46_code 10 = .ok (.aload_n 0, 1) := by decide +kernel
theorem d_UF_tellingRefusal_11 : decode prog_1_method_46_code 11 = .ok (.getfield 23, 3) := by decide +kernel
theorem d_UF_tellingRefusal_14 : decode prog_1_method_46_code 14 = .ok (.iload_n 1, 1) := by decide +kernel
theorem d_UF_tellingRefusal_15 : decode prog_1_method_46_code 15 = .ok (.aaload, 1) := by decide +kernel
theorem d_UF_tellingRefusal_16 : decode prog_1_method_46_code 16 = .ok (.getfield 236, 3) := by decide +kernel
theorem d_UF_tellingRefusal_19 : decode prog_1_method_46_code 19 = .ok (.iconst (-1), 1) := by decide +kernel
theorem d_UF_tellingRefusal_20 : decode prog_1_method_46_code 20 = .ok (.if_icmp .ne 6, 3) := by decide +kernel
theorem d_UF_tellingRefusal_23 : decode prog_1_method_46_code 23 = .ok (.bipush (-11), 2) := by decide +kernel
theorem d_UF_tellingRefusal_25 : decode prog_1_method_46_code 25 = .ok (.ireturn, 1) := by decide +kernel
theorem d_UF_tellingRefusal_26 : decode prog_1_method_46_code 26 = .ok (.aload_n 0, 1) := by decide +kernel
theorem d_UF_tellingRefusal_27 : decode prog_1_method_46_code 27 = .ok (.getfield 23, 3) := by decide +kernel
theorem d_UF_tellingRefusal_30 : decode prog_1_method_46_code 30 = .ok (.iload_n 1, 1) := by decide +kernel
theorem d_UF_tellingRefusal_31 : decode prog_1_method_46_code 31 = .ok (.aaload, 1) := by decide +kernel
theorem d_UF_tellingRefusal_32 : decode prog_1_method_46_code 32 = .ok (.getfield 242, 3) := by decide +kernel
theorem d_UF_tellingRefusal_35 : decode prog_1_method_46_code 35 = .ok (.aload_n 0, 1) := by decide +kernel
theorem d_UF_tellingRefusal_36 : decode prog_1_method_46_code 36 = .ok (.getfield 34, 3) := by decide +kernel
theorem d_UF_tellingRefusal_39 : decode prog_1_method_46_code 39 = .ok (.getfield 80, 3) := by decide +kernel
theorem d_UF_tellingRefusal_42 : decode prog_1_method_46_code 42 = .ok (.if_icmp .ne 7, 3) := by decide +kernel
theorem d_UF_tellingRefusal_45 : decode prog_1_method_46_code 45 = .ok (.iconst 0, 1) := by decide +kernel
theorem d_UF_tellingRefusal_46 : decode prog_1_method_46_code 46 = .ok (.goto 5, 3) := by decide +kernel
theorem d_UF_tellingRefusal_49 : decode prog_1_method_46_code 49 = .ok (.bipush (-2), 2) := by decide +kernel
theorem d_UF_tellingRefusal_51 : decode prog_1_method_46_code 51 = .ok (.ireturn, 1) := by decide +kernel
def p_UF_tellingRefusal (Q : Int32 → AH → Prop) (x1 : Int32) (h : AH) : Prop := p_UF_isSheet (fun r2 h1 => ((¬ r2 = 0 → inb x1 4 ∧ 0 < rR T1 h1 3 x1.toNatClampNeg ∧ vA T1 h1 (rR T1 h1 3 x1.toNatClampNeg - 1) ∧ (rS T1 h1 (rR T1 h1 3 x1.toNatClampNeg - 1)).1 = 8 ∧ ((¬ (h1.1 (rR T1 h1 3 x1.toNatClampNeg - 1) 1) = (-1) → ((¬ (h1.1 (rR T1 h1 3 x1.toNatClampNeg - 1) 2) = (h1.1 5 3) → Q (-2) h1) ∧ ((h1.1 (rR T1 h1 3 x1.toNatClampNeg - 1) 2) = (h1.1 5 3) → Q 0 h1))) ∧ ((h1.1 (rR T1 h1 3 x1.toNatClampNeg - 1) 1) = (-1) → Q (-11) h1))) ∧ (r2 = 0 → Q (-2) h1))) x1 h
set_option maxRecDepth 20000 in
theorem r_UF_tellingRefusal_0 {G : GG} {d : Nat} {Q : Int32 → AH → Prop} (x1 : Int32) (h : AH) (H : p_UF_tellingRefusal Q x1 h) : Att G T1 m_UF_tellingRefusal (d + 2) 0 [some (.ref 0), some (.int x1)] [] h 0 0 (iQ Q) := by
  refine A_iload_n d_UF_tellingRefusal_0 rfl ?_
  refine A_cI [.int x1] [] (ct_UF_211 rfl) d_UF_tellingRefusal_1 rfl rfl (by decide) (Nat.le_of_ble_eq_true rfl) trivial (ok_UF_isSheet (d := d) H) (fun r2 h1 H => ?_)
  refine A_if_ne 10 d_UF_tellingRefusal_4 (by decide) (fun z => ?_) (fun z => ?_)
  · have H := H.1 z
    refine A_aload_n d_UF_tellingRefusal_10 rfl ?_
    refine A_get (v := .ref 3) d_UF_tellingRefusal_11 (fo_UF_23_11 rfl) (vA_s (by decide)) rfl (by first | rfl | (show Value.int _ = Value.int _; simp [wI, wL, wR, wC, up])) ?_
    refine A_iload_n d_UF_tellingRefusal_14 rfl ?_
    obtain ⟨c3, H⟩ := H
    obtain ⟨c4, H⟩ := H
    refine A_aald (t := 2) (n := 4) d_UF_tellingRefusal_15 (by decide) (vA_s (by decide)) rfl c3 (pos_sub c4) ?_
    obtain ⟨c5, H⟩ := H
    obtain ⟨c6, H⟩ := H
    refine A_get (v := .int (h1.1 (rR T1 h1 3 x1.toNatClampNeg - 1) 1)) d_UF_tellingRefusal_16 (fo_UF_236_8 rfl) c5 c6 (by first | rfl | (show Value.int _ = Value.int _; simp [wI, wL, wR, wC, up])) ?_
    refine A_iconst (-1) (by decide) d_UF_tellingRefusal_19 ?_
    refine A_icmp_ne 26 d_UF_tellingRefusal_20 (by decide) (fun z => ?_) (fun z => ?_)
    · have H := H.1 z
      refine A_aload_n d_UF_tellingRefusal_26 rfl ?_
      refine A_get (v := .ref 3) d_UF_tellingRefusal_27 (fo_UF_23_11 rfl) (vA_s (by decide)) rfl (by first | rfl | (show Value.int _ = Value.int _; simp [wI, wL, wR, wC, up])) ?_
      refine A_iload_n d_UF_tellingRefusal_30 rfl ?_
      refine A_aald (t := 2) (n := 4) d_UF_tellingRefusal_31 (by decide) (vA_s (by decide)) rfl c3 (pos_sub c4) ?_
      refine A_get (v := .int (h1.1 (rR T1 h1 3 x1.toNatClampNeg - 1) 2)) d_UF_tellingRefusal_32 (fo_UF_242_8 rfl) c5 c6 (by first | rfl | (show Value.int _ = Value.int _; simp [wI, wL, wR, wC, up])) ?_
      refine A_aload_n d_UF_tellingRefusal_35 rfl ?_
      refine A_get (v := .ref 5) d_UF_tellingRefusal_36 (fo_UF_34_11 rfl) (vA_s (by decide)) rfl (by first | rfl | (show Value.int _ = Value.int _; simp [wI, wL, wR, wC, up])) ?_
      refine A_get (v := .int (h1.1 5 3)) d_UF_tellingRefusal_39 (fo_UF_80_10 rfl) (vA_s (by decide)) rfl (by first | rfl | (show Value.int _ = Value.int _; simp [wI, wL, wR, wC, up])) ?_
      refine A_icmp_ne 49 d_UF_tellingRefusal_42 (by decide) (fun z => ?_) (fun z => ?_)
      · have H := H.1 z
        refine A_bipush (-2) (by decide) d_UF_tellingRefusal_49 ?_
        exact A_iret d_UF_tellingRefusal_51 rfl rfl H
      · have H := H.2 z
        refine A_iconst 0 (by decide) d_UF_tellingRefusal_45 ?_
        refine A_goto 51 d_UF_tellingRefusal_46 (by decide) ?_
        exact A_iret d_UF_tellingRefusal_51 rfl rfl H
    · have H := H.2 z
      refine A_bipush (-11) (by decide) d_UF_tellingRefusal_23 ?_
      exact A_iret d_UF_tellingRefusal_25 rfl rfl H
  · have H := H.2 z
    refine A_bipush (-2) (by decide) d_UF_tellingRefusal_7 ?_
    exact A_iret d_UF_tellingRefusal_9 rfl rfl H
set_option maxRecDepth 20000 in
theorem ok_UF_tellingRefusal {G : GG} {d : Nat} {Q : Int32 → AH → Prop} {x1 : Int32} {h : AH} (H : p_UF_tellingRefusal Q x1 h) : WP G T1 m_UF_tellingRefusal (d + 2) [.ref 0, .int x1] h 0 0 (iQ Q) := by
  exact WP.enter 0 (by decide) rfl rfl (r_UF_tellingRefusal_0 x1 h H)
theorem d_UF_isDraw_0 : decode prog_1_method_41_code 0 = .ok (.iload_n 0, 1) := by decide +kernel
theorem d_UF_isDraw_1 : decode prog_1_method_41_code 1 = .ok (.iconst 0, 1) := by decide +kernel
theorem d_UF_isDraw_2 : decode prog_1_method_41_code 2 = .ok (.ldc 255, 2) := by decide +kernel
theorem d_UF_isDraw_4 : decode prog_1_method_41_code 4 = .ok (.invokestatic 95, 3) := by decide +kernel
theorem d_UF_isDraw_7 : decode prog_1_method_41_code 7 = .ok (.ifCond .eq 24, 3) := by decide +kernel
theorem d_UF_isDraw_10 : decode prog_1_method_41_code 10 = .ok (.iload_n 1, 1) := by decide +kernel
theorem d_UF_isDraw_11 : decode prog_1_method_41_code 11 = .ok (.invokestatic 143, 3) := by decide +kernel
theorem d_UF_isDraw_14 : decode prog_1_method_41_code 14 = .ok (.ifCond .eq 17, 3) := by decide +kernel
theorem d_UF_isDraw_17 : decode prog_1_method_41_code 17 = .ok (.iload_n 2, 1) := by decide +kernel
theorem d_UF_isDraw_18 : decode prog_1_method_41_code 18 = .ok (.iconst 0, 1) := by decide +kernel
theorem d_UF_isDraw_19 : decode prog_1_method_41_code 19 = .ok (.bipush 100, 2) := by decide +kernel
theorem d_UF_isDraw_21 : decode prog_1_method_41_code 21 = .ok (.invokestatic 95, 3) := by decide +kernel
theorem d_UF_isDraw_24 : decode prog_1_method_41_code 24 = .ok (.ifCond .eq 7, 3) := by decide +kernel
theorem d_UF_isDraw_27 : decode prog_1_method_41_code 27 = .ok (.iconst 1, 1) := by decide +kernel
theorem d_UF_isDraw_28 : decode prog_1_method_41_code 28 = .ok (.goto 4, 3) := by decide +kernel
theorem d_UF_isDraw_31 : decode prog_1_method_41_code 31 = .ok (.iconst 0, 1) := by decide +kernel
theorem d_UF_isDraw_32 : decode prog_1_method_41_code 32 = .ok (.ireturn, 1) := by decide +kernel
def p_UF_isDraw (Q : Int32 → AH → Prop) (x0 : Int32) (x1 : Int32) (x2 : Int32) (h : AH) : Prop := p_UF_within (fun r2 h1 => ((r2 = 0 → Q 0 h1) ∧ (¬ r2 = 0 → p_UF_isSpan (fun r4 h3 => ((r4 = 0 → Q 0 h3) ∧ (¬ r4 = 0 → p_UF_within (fun r6 h5 => ((r6 = 0 → Q 0 h5) ∧ (¬ r6 = 0 → Q 1 h5))) x2 0 100 h3))) x1 h1))) x0 0 99999 h
set_option maxRecDepth 20000 in
theorem r_UF_isDraw_0 {G : GG} {d : Nat} {Q : Int32 → AH → Prop} (x0 : Int32) (x1 : Int32) (x2 : Int32) (h : AH) (H : p_UF_isDraw Q x0 x1 x2 h) : Att G T1 m_UF_isDraw (d + 2) 0 [some (.int x0), some (.int x1), some (.int x2)] [] h 0 0 (iQ Q) := by
  refine A_iload_n d_UF_isDraw_0 rfl ?_
  refine A_iconst 0 (by decide) d_UF_isDraw_1 ?_
  refine A_ldc 99999 d_UF_isDraw_2 (tG 771 (by decide +kernel) (by decide +kernel)) ?_
  refine A_cI [.int x0, .int 0, .int 99999] [] (ct_UF_95 rfl) d_UF_isDraw_4 rfl rfl (by decide) (Nat.le_of_ble_eq_true rfl) trivial (ok_UF_within (d := d + 1) H) (fun r2 h1 H => ?_)
  refine A_if_eq 31 d_UF_isDraw_7 (by decide) (fun z => ?_) (fun z => ?_)
  · have H := H.1 z
    refine A_iconst 0 (by decide) d_UF_isDraw_31 ?_
    exact A_iret d_UF_isDraw_32 rfl rfl H
  · have H := H.2 z
    refine A_iload_n d_UF_isDraw_10 rfl ?_
    refine A_cI [.int x1] [] (ct_UF_143 rfl) d_UF_isDraw_11 rfl rfl (by decide) (Nat.le_of_ble_eq_true rfl) trivial (ok_UF_isSpan (d := d) H) (fun r4 h3 H => ?_)
    refine A_if_eq 31 d_UF_isDraw_14 (by decide) (fun z => ?_) (fun z => ?_)
    · have H := H.1 z
      refine A_iconst 0 (by decide) d_UF_isDraw_31 ?_
      exact A_iret d_UF_isDraw_32 rfl rfl H
    · have H := H.2 z
      refine A_iload_n d_UF_isDraw_17 rfl ?_
      refine A_iconst 0 (by decide) d_UF_isDraw_18 ?_
      refine A_bipush 100 (by decide) d_UF_isDraw_19 ?_
      refine A_cI [.int x2, .int 0, .int 100] [] (ct_UF_95 rfl) d_UF_isDraw_21 rfl rfl (by decide) (Nat.le_of_ble_eq_true rfl) trivial (ok_UF_within (d := d + 1) H) (fun r6 h5 H => ?_)
      refine A_if_eq 31 d_UF_isDraw_24 (by decide) (fun z => ?_) (fun z => ?_)
      · have H := H.1 z
        refine A_iconst 0 (by decide) d_UF_isDraw_31 ?_
        exact A_iret d_UF_isDraw_32 rfl rfl H
      · have H := H.2 z
        refine A_iconst 1 (by decide) d_UF_isDraw_27 ?_
        refine A_goto 32 d_UF_isDraw_28 (by decide) ?_
        exact A_iret d_UF_isDraw_32 rfl rfl H
set_option maxRecDepth 20000 in
theorem ok_UF_isDraw {G : GG} {d : Nat} {Q : Int32 → AH → Prop} {x0 : Int32} {x1 : Int32} {x2 : Int32} {h : AH} (H : p_UF_isDraw Q x0 x1 x2 h) : WP G T1 m_UF_isDraw (d + 2) [.int x0, .int x1, .int x2] h 0 0 (iQ Q) := by
  exact WP.enter 0 (by decide) rfl rfl (r_UF_isDraw_0 x0 x1 x2 h H)
theorem d_UF_image_0 : decode prog_1_method_30_code 0 = .ok (.aload_n 0, 1) := by decide +kernel
theorem d_UF_image_1 : decode prog_1_method_30_code 1 = .ok (.getfield 38, 3) := by decide +kernel
theorem d_UF_image_4 : decode prog_1_method_30_code 4 = .ok (.aload_n 0, 1) := by decide +kernel
theorem d_UF_image_5 : decode prog_1_method_30_code 5 = .ok (.getfield 34, 3) := by decide +kernel
theorem d_UF_image_8 : decode prog_1_method_30_code 8 = .ok (.invokevirtual 228, 3) := by decide +kernel
theorem d_UF_image_11 : decode prog_1_method_30_code 11 = .ok (.aload_n 0, 1) := by decide +kernel
theorem d_UF_image_12 : decode prog_1_method_30_code 12 = .ok (.iconst 1, 1) := by decide +kernel
theorem d_UF_image_13 : decode prog_1_method_30_code 13 = .ok (.putfield 232, 3) := by decide +kernel
theorem d_UF_image_16 : decode prog_1_method_30_code 16 = .ok (.aload_n 0, 1) := by decide +kernel
theorem d_UF_image_17 : decode prog_1_method_30_code 17 = .ok (.getfield 34, 3) := by decide +kernel
theorem d_UF_image_20 : decode prog_1_method_30_code 20 = .ok (.getfield 80, 3) := by decide +kernel
theorem d_UF_image_23 : decode prog_1_method_30_code 23 = .ok (.ireturn, 1) := by decide +kernel
def p_UF_image (Q : Int32 → AH → Prop) (h : AH) : Prop := p_Town_become (fun h1 => Q (h1.1 5 3) (wI h1 0 10 1)) 9 5 h
set_option maxRecDepth 20000 in
theorem r_UF_image_0 {G : GG} {d : Nat} {Q : Int32 → AH → Prop} (h : AH) (H : p_UF_image Q h) : Att G T1 m_UF_image (d + 2) 0 [some (.ref 0)] [] h 0 0 (iQ Q) := by
  refine A_aload_n d_UF_image_0 rfl ?_
  refine A_get (v := .ref 9) d_UF_image_1 (fo_UF_38_11 rfl) (vA_s (by decide)) rfl (by first | rfl | (show Value.int _ = Value.int _; simp [wI, wL, wR, wC, up])) ?_
  refine A_aload_n d_UF_image_4 rfl ?_
  refine A_get (v := .ref 5) d_UF_image_5 (fo_UF_34_11 rfl) (vA_s (by decide)) rfl (by first | rfl | (show Value.int _ = Value.int _; simp [wI, wL, wR, wC, up])) ?_
  refine A_cV [.ref 9, .ref 5] [] (ct_UF_228 rfl) d_UF_image_8 rfl rfl (by decide) (Nat.le_of_ble_eq_true rfl) (rcA_o (c := 10) rfl (vA_s (by decide)) rfl (by decide) rfl) (ok_Town_become (d := d) H) (fun h1 H => ?_)
  refine A_aload_n d_UF_image_11 rfl ?_
  refine A_iconst 1 (by decide) d_UF_image_12 ?_
  refine A_putI (k := 10) d_UF_image_13 (fo_UF_232_11 rfl) (Or.inr ⟨rfl, _, ft_11_10⟩) (fun z => by cases z) rfl (vA_s (by decide)) rfl rfl rfl ?_
  refine A_aload_n d_UF_image_16 rfl ?_
  refine A_get (v := .ref 5) d_UF_image_17 (fo_UF_34_11 rfl) (vA_s (by decide)) rfl (by first | rfl | (show Value.int _ = Value.int _; simp [wI, wL, wR, wC, up])) ?_
  refine A_get (v := .int (h1.1 5 3)) d_UF_image_20 (fo_UF_80_10 rfl) (vA_s (by decide)) rfl (by first | rfl | (show Value.int _ = Value.int _; simp [wI, wL, wR, wC, up])) ?_
  exact A_iret d_UF_image_23 rfl rfl H
set_option maxRecDepth 20000 in
theorem ok_UF_image {G : GG} {d : Nat} {Q : Int32 → AH → Prop} {h : AH} (H : p_UF_image Q h) : WP G T1 m_UF_image (d + 2) [.ref 0] h 0 0 (iQ Q) := by
  exact WP.enter 0 (by decide) rfl rfl (r_UF_image_0 h H)
theorem d_UF_back_0 : decode prog_1_method_31_code 0 = .ok (.aload_n 0, 1) := by decide +kernel
theorem d_UF_back_1 : decode prog_1_method_31_code 1 = .ok (.getfield 232, 3) := by decide +kernel
theorem d_UF_back_4 : decode prog_1_method_31_code 4 = .ok (.ifCond .ne 6, 3) := by decide +kernel
theorem d_UF_back_7 : decode prog_1_method_31_code 7 = .ok (.bipush (-3), 2) := by decide +kernel
theorem d_UF_back_9 : decode prog_1_method_31_code 9 = .ok (.ireturn, 1) := by decide +kernel
theorem d_UF_back_10 : decode prog_1_method_31_code 10 = .ok (.aload_n 0, 1) := by decide +kernel
theorem d_UF_back_11 : decode prog_1_method_31_code 11 = .ok (.getfield 34, 3) := by decide +kernel
theorem d_UF_back_14 : decode prog_1_method_31_code 14 = .ok (.aload_n 0, 1) := by decide +kernel
theorem d_UF_back_15 : decode prog_1_method_31_code 15 = .ok (.getfield 38, 3) := by decide +kernel
theorem d_UF_back_18 : decode prog_1_method_31_code 18 = .ok (.invokevirtual 228, 3) := by decide +kernel
theorem d_UF_back_21 : decode prog_1_method_31_code 21 = .ok (.aload_n 0, 1) := by decide +kernel
theorem d_UF_back_22 : decode prog_1_method_31_code 22 = .ok (.getfield 34, 3) := by decide +kernel
theorem d_UF_back_25 : decode prog_1_method_31_code 25 = .ok (.getfield 80, 3) := by decide +kernel
theorem d_UF_back_28 : decode prog_1_method_31_code 28 = .ok (.ireturn, 1) := by decide +kernel
def p_UF_back (Q : Int32 → AH → Prop) (h : AH) : Prop := ((¬ (h.1 0 10) = 0 → p_Town_become (fun h1 => Q (h1.1 5 3) h1) 5 9 h) ∧ ((h.1 0 10) = 0 → Q (-3) h))
set_option maxRecDepth 20000 in
theorem r_UF_back_0 {G : GG} {d : Nat} {Q : Int32 → AH → Prop} (h : AH) (H : p_UF_back Q h) : Att G T1 m_UF_back (d + 2) 0 [some (.ref 0)] [] h 0 0 (iQ Q) := by
  refine A_aload_n d_UF_back_0 rfl ?_
  refine A_get (v := .int (h.1 0 10)) d_UF_back_1 (fo_UF_232_11 rfl) (vA_s (by decide)) rfl (by first | rfl | (show Value.int _ = Value.int _; simp [wI, wL, wR, wC, up])) ?_
  refine A_if_ne 10 d_UF_back_4 (by decide) (fun z => ?_) (fun z => ?_)
  · have H := H.1 z
    refine A_aload_n d_UF_back_10 rfl ?_
    refine A_get (v := .ref 5) d_UF_back_11 (fo_UF_34_11 rfl) (vA_s (by decide)) rfl (by first | rfl | (show Value.int _ = Value.int _; simp [wI, wL, wR, wC, up])) ?_
    refine A_aload_n d_UF_back_14 rfl ?_
    refine A_get (v := .ref 9) d_UF_back_15 (fo_UF_38_11 rfl) (vA_s (by decide)) rfl (by first | rfl | (show Value.int _ = Value.int _; simp [wI, wL, wR, wC, up])) ?_
    refine A_cV [.ref 5, .ref 9] [] (ct_UF_228 rfl) d_UF_back_18 rfl rfl (by decide) (Nat.le_of_ble_eq_true rfl) (rcA_o (c := 10) rfl (vA_s (by decide)) rfl (by decide) rfl) (ok_Town_become (d := d) H) (fun h1 H => ?_)
    refine A_aload_n d_UF_back_21 rfl ?_
    refine A_get (v := .ref 5) d_UF_back_22 (fo_UF_34_11 rfl) (vA_s (by decide)) rfl (by first | rfl | (show Value.int _ = Value.int _; simp [wI, wL, wR, wC, up])) ?_
    refine A_get (v := .int (h1.1 5 3)) d_UF_back_25 (fo_UF_80_10 rfl) (vA_s (by decide)) rfl (by first | rfl | (show Value.int _ = Value.int _; simp [wI, wL, wR, wC, up])) ?_
    exact A_iret d_UF_back_28 rfl rfl H
  · have H := H.2 z
    refine A_bipush (-3) (by decide) d_UF_back_7 ?_
    exact A_iret d_UF_back_9 rfl rfl H
set_option maxRecDepth 20000 in
theorem ok_UF_back {G : GG} {d : Nat} {Q : Int32 → AH → Prop} {h : AH} (H : p_UF_back Q h) : WP G T1 m_UF_back (d + 2) [.ref 0] h 0 0 (iQ Q) := by
  exact WP.enter 0 (by decide) rfl rfl (r_UF_back_0 h H)
theorem d_UF_sheet_0 : decode prog_1_method_32_code 0 = .ok (.iload_n 1, 1) := by decide +kernel
theorem d_UF_sheet_1 : decode prog_1_method_32_code 1 = .ok (.invokestatic 211, 3) := by decide +kernel
theorem d_UF_sheet_4 : decode prog_1_method_32_code 4 = .ok (.ifCond .eq 12, 3) := by decide +kernel
theorem d_UF_sheet_7 : decode prog_1_method_32_code 7 = .ok (.iload_n 2, 1) := by decide +kernel
theorem d_UF_sheet_8 : decode prog_1_method_32_code 8 = .ok (.iconst (-1), 1) := by decide +kernel
theorem d_UF_sheet_9 : decode prog_1_method_32_code 9 = .ok (.iconst 2, 1) := by decide +kernel
theorem d_UF_sheet_10 : decode prog_1_method_32_code 10 = .ok (.invokestatic 95, 3) := by decide +kernel
theorem d_UF_sheet_13 : decode prog_1_method_32_code 13 = .ok (.ifCond .ne 6, 3) := by decide +kernel
theorem d_UF_sheet_16 : decode prog_1_method_32_code 16 = .ok (.bipush (-2), 2) := by decide +kernel
theorem d_UF_sheet_18 : decode prog_1_method_32_code 18 = .ok (.ireturn, 1) := by decide +kernel
theorem d_UF_sheet_19 : decode prog_1_method_32_code 19 = .ok (.iload_n 2, 1) := by decide +kernel
theorem d_UF_sheet_20 : decode prog_1_method_32_code 20 = .ok (.iconst (-1), 1) := by decide +kernel
theorem d_UF_sheet_21 : decode prog_1_method_32_code 21 = .ok (.if_icmp .ne 16, 3) := by decide +kernel
theorem d_UF_sheet_24 : decode prog_1_method_32_code 24 = .ok (.aload_n 0, 1) := by decide +kernel
theorem d_UF_sheet_25 : decode prog_1_method_32_code 25 = .ok (.getfield 23, 3) := by decide +kernel
theorem d_UF_sheet_28 : decode prog_1_method_32_code 28 = .ok (.iload_n 1, 1) := by decide +kernel
theorem d_UF_sheet_29 : decode prog_1_method_32_code 29 = .ok (.aaload, 1) := by decide +kernel
theorem d_UF_sheet_30 : decode prog_1_method_32_code 30 = .ok (.iconst (-1), 1) := by decide +kernel
theorem d_UF_sheet_31 : decode prog_1_method_32_code 31 = .ok (.iconst 0, 1) := by decide +kernel
theorem d_UF_sheet_32 : decode prog_1_method_32_code 32 = .ok (.invokevirtual 214, 3) := by decide +kernel
theorem d_UF_sheet_35 : decode prog_1_method_32_code 35 = .ok (.iconst 1, 1) := by decide +kernel
theorem d_UF_sheet_36 : decode prog_1_method_32_code 36 = .ok (.ireturn, 1) := by decide +kernel
theorem d_UF_sheet_37 : decode prog_1_method_32_code 37 = .ok (.iload_n 3, 1) := by decide +kernel
theorem d_UF_sheet_38 : decode prog_1_method_32_code 38 = .ok (.bipush 40, 2) := by decide +kernel
theorem d_UF_sheet_40 : decode prog_1_method_32_code 40 = .ok (.if_icmp .le 6, 3) := by decide +kernel
theorem d_UF_sheet_43 : decode prog_1_method_32_code 43 = .ok (.bipush (-2), 2) := by decide +kernel
theorem d_UF_sheet_45 : decode prog_1_method_32_code 45 = .ok (.ireturn, 1) := by decide +kernel
theorem d_UF_sheet_46 : decode prog_1_method_32_code 46 = .ok (.iload_n 3, 1) := by decide +kernel
theorem d_UF_sheet_47 : decode prog_1_method_32_code 47 = .ok (.ifCond .ge 6, 3) := by decide +kernel
theorem d_UF_sheet_50 : decode prog_1_method_32_code 50 = .ok (.bipush (-14), 2) := by decide +kernel
theorem d_UF_sheet_52 : decode prog_1_method_32_code 52 = .ok (.ireturn, 1) := by decide +kernel
theorem d_UF_sheet_53 : decode prog_1_method_32_code 53 = .ok (.aload_n 0, 1) := by decide +kernel
theorem d_UF_sheet_54 : decode prog_1_method_32_code 54 = .ok (.getfield 23, 3) := by decide +kernel
theorem d_UF_sheet_57 : decode prog_1_method_32_code 57 = .ok (.iload_n 1, 1) := by decide +kernel
theorem d_UF_sheet_58 : decode prog_1_method_32_code 58 = .ok (.aaload, 1) := by decide +kernel
theorem d_UF_sheet_59 : decode prog_1_method_32_code 59 = .ok (.iload_n 2, 1) := by decide +kernel
theorem d_UF_sheet_60 : decode prog_1_method_32_code 60 = .ok (.iload_n 3, 1) := by decide +kernel
theorem d_UF_sheet_61 : decode prog_1_method_32_code 61 = .ok (.invokevirtual 214, 3) := by decide +kernel
theorem d_UF_sheet_64 : decode prog_1_method_32_code 64 = .ok (.iconst 1, 1) := by decide +kernel
theorem d_UF_sheet_65 : decode prog_1_method_32_code 65 = .ok (.ireturn, 1) := by decide +kernel
def p_UF_sheet (Q : Int32 → AH → Prop) (x1 : Int32) (x2 : Int32) (x3 : Int32) (h : AH) : Prop := p_UF_isSheet (fun r2 h1 => ((r2 = 0 → Q (-2) h1) ∧ (¬ r2 = 0 → p_UF_within (fun r4 h3 => ((¬ r4 = 0 → ((¬ x2 = (-1) → ((x3 ≤ 40 → ((0 ≤ x3 → inb x1 4 ∧ 0 < rR T1 h3 3 x1.toNatClampNeg ∧ vA T1 h3 (rR T1 h3 3 x1.toNatClampNeg - 1) ∧ (rS T1 h3 (rR T1 h3 3 x1.toNatClampNeg - 1)).1 = 8 ∧ p_Sheet_renew (fun h9 => Q 1 h9) (rR T1 h3 3 x1.toNatClampNeg - 1) x2 x3 h3) ∧ (¬ 0 ≤ x3 → Q (-14) h3))) ∧ (¬ x3 ≤ 40 → Q (-2) h3))) ∧ (x2 = (-1) → inb x1 4 ∧ 0 < rR T1 h3 3 x1.toNatClampNeg ∧ vA T1 h3 (rR T1 h3 3 x1.toNatClampNeg - 1) ∧ (rS T1 h3 (rR T1 h3 3 x1.toNatClampNeg - 1)).1 = 8 ∧ p_Sheet_renew (fun h14 => Q 1 h14) (rR T1 h3 3 x1.toNatClampNeg - 1) (-1) 0 h3))) ∧ (r4 = 0 → Q (-2) h3))) x2 (-1) 2 h1))) x1 h
set_option maxRecDepth 20000 in
theorem r_UF_sheet_0 {G : GG} {d : Nat} {Q : Int32 → AH → Prop} (x1 : Int32) (x2 : Int32) (x3 : Int32) (h : AH) (H : p_UF_sheet Q x1 x2 x3 h) : Att G T1 m_UF_sheet (d + 2) 0 [some (.ref 0), some (.int x1), some (.int x2), some (.int x3)] [] h 0 0 (iQ Q) := by
  refine A_iload_n d_UF_sheet_0 rfl ?_
  refine A_cI [.int x1] [] (ct_UF_211 rfl) d_UF_sheet_1 rfl rfl (by decide) (Nat.le_of_ble_eq_true rfl) trivial (ok_UF_isSheet (d := d) H) (fun r2 h1 H => ?_)
  refine A_if_eq 16 d_UF_sheet_4 (by decide) (fun z => ?_) (fun z => ?_)
  · have H := H.1 z
    refine A_bipush (-2) (by decide) d_UF_sheet_16 ?_
    exact A_iret d_UF_sheet_18 rfl rfl H
  · have H := H.2 z
    refine A_iload_n d_UF_sheet_7 rfl ?_
    refine A_iconst (-1) (by decide) d_UF_sheet_8 ?_
    refine A_iconst 2 (by decide) d_UF_sheet_9 ?_
    refine A_cI [.int x2, .int (-1), .int 2] [] (ct_UF_95 rfl) d_UF_sheet_10 rfl rfl (by decide) (Nat.le_of_ble_eq_true rfl) trivial (ok_UF_within (d := d + 1) H) (fun r4 h3 H => ?_)
    refine A_if_ne 19 d_UF_sheet_13 (by decide) (fun z => ?_) (fun z => ?_)
    · have H := H.1 z
      refine A_iload_n d_UF_sheet_19 rfl ?_
      refine A_iconst (-1) (by decide) d_UF_sheet_20 ?_
      refine A_icmp_ne 37 d_UF_sheet_21 (by decide) (fun z => ?_) (fun z => ?_)
      · have H := H.1 z
        refine A_iload_n d_UF_sheet_37 rfl ?_
        refine A_bipush 40 (by decide) d_UF_sheet_38 ?_
        refine A_icmp_le 46 d_UF_sheet_40 (by decide) (fun z => ?_) (fun z => ?_)
        · have H := H.1 z
          refine A_iload_n d_UF_sheet_46 rfl ?_
          refine A_if_ge 53 d_UF_sheet_47 (by decide) (fun z => ?_) (fun z => ?_)
          · have H := H.1 z
            refine A_aload_n d_UF_sheet_53 rfl ?_
            refine A_get (v := .ref 3) d_UF_sheet_54 (fo_UF_23_11 rfl) (vA_s (by decide)) rfl (by first | rfl | (show Value.int _ = Value.int _; simp [wI, wL, wR, wC, up])) ?_
            refine A_iload_n d_UF_sheet_57 rfl ?_
            obtain ⟨c5, H⟩ := H
            obtain ⟨c6, H⟩ := H
            refine A_aald (t := 2) (n := 4) d_UF_sheet_58 (by decide) (vA_s (by decide)) rfl c5 (pos_sub c6) ?_
            refine A_iload_n d_UF_sheet_59 rfl ?_
            refine A_iload_n d_UF_sheet_60 rfl ?_
            obtain ⟨c7, H⟩ := H
            obtain ⟨c8, H⟩ := H
            refine A_cV [.ref (rR T1 h3 3 x1.toNatClampNeg - 1), .int x2, .int x3] [] (ct_UF_214 rfl) d_UF_sheet_61 rfl rfl (by decide) (Nat.le_of_ble_eq_true rfl) (rcA_o (c := 8) rfl c7 c8 (by decide) rfl) (ok_Sheet_renew (d := d + 1) H) (fun h9 H => ?_)
            refine A_iconst 1 (by decide) d_UF_sheet_64 ?_
            exact A_iret d_UF_sheet_65 rfl rfl H
          · have H := H.2 z
            refine A_bipush (-14) (by decide) d_UF_sheet_50 ?_
            exact A_iret d_UF_sheet_52 rfl rfl H
        · have H := H.2 z
          refine A_bipush (-2) (by decide) d_UF_sheet_43 ?_
          exact A_iret d_UF_sheet_45 rfl rfl H
      · have H := H.2 z
        refine A_aload_n d_UF_sheet_24 rfl ?_
        refine A_get (v := .ref 3) d_UF_sheet_25 (fo_UF_23_11 rfl) (vA_s (by decide)) rfl (by first | rfl | (show Value.int _ = Value.int _; simp [wI, wL, wR, wC, up])) ?_
        refine A_iload_n d_UF_sheet_28 rfl ?_
        obtain ⟨c10, H⟩ := H
        obtain ⟨c11, H⟩ := H
        refine A_aald (t := 2) (n := 4) d_UF_sheet_29 (by decide) (vA_s (by decide)) rfl c10 (pos_sub c11) ?_
        refine A_iconst (-1) (by decide) d_UF_sheet_30 ?_
        refine A_iconst 0 (by decide) d_UF_sheet_31 ?_
        obtain ⟨c12, H⟩ := H
        obtain ⟨c13, H⟩ := H
        refine A_cV [.ref (rR T1 h3 3 x1.toNatClampNeg - 1), .int (-1), .int 0] [] (ct_UF_214 rfl) d_UF_sheet_32 rfl rfl (by decide) (Nat.le_of_ble_eq_true rfl) (rcA_o (c := 8) rfl c12 c13 (by decide) rfl) (ok_Sheet_renew (d := d + 1) H) (fun h14 H => ?_)
        refine A_iconst 1 (by decide) d_UF_sheet_35 ?_
        exact A_iret d_UF_sheet_36 rfl rfl H
    · have H := H.2 z
      refine A_bipush (-2) (by decide) d_UF_sheet_16 ?_
      exact A_iret d_UF_sheet_18 rfl rfl H
set_option maxRecDepth 20000 in
theorem ok_UF_sheet {G : GG} {d : Nat} {Q : Int32 → AH → Prop} {x1 : Int32} {x2 : Int32} {x3 : Int32} {h : AH} (H : p_UF_sheet Q x1 x2 x3 h) : WP G T1 m_UF_sheet (d + 2) [.ref 0, .int x1, .int x2, .int x3] h 0 0 (iQ Q) := by
  exact WP.enter 0 (by decide) rfl rfl (r_UF_sheet_0 x1 x2 x3 h H)
theorem d_UF_cell_0 : decode prog_1_method_33_code 0 = .ok (.iload_n 1, 1) := by decide +kernel
theorem d_UF_cell_1 : decode prog_1_method_33_code 1 = .ok (.invokestatic 211, 3) := by decide +kernel
theorem d_UF_cell_4 : decode prog_1_method_33_code 4 = .ok (.ifCond .ne 6, 3) := by decide +kernel
theorem d_UF_cell_7 : decode prog_1_method_33_code 7 = .ok (.bipush (-2), 2) := by decide +kernel
theorem d_UF_cell_9 : decode prog_1_method_33_code 9 = .ok (.ireturn, 1) := by decide +kernel
theorem d_UF_cell_10 : decode prog_1_method_33_code 10 = .ok (.aload_n 0, 1) := by decide +kernel
theorem d_UF_cell_11 : decode prog_1_method_33_code 11 = .ok (.getfield 23, 3) := by decide +kernel
theorem d_UF_cell_14 : decode prog_1_method_33_code 14 = .ok (.iload_n 1, 1) := by decide +kernel
theorem d_UF_cell_15 : decode prog_1_method_33_code 15 = .ok (.aaload, 1) := by decide +kernel
theorem d_UF_cell_16 : decode prog_1_method_33_code 16 = .ok (.getfield 236, 3) := by decide +kernel
theorem d_UF_cell_19 : decode prog_1_method_33_code 19 = .ok (.iconst (-1), 1) := by decide +kernel
theorem d_UF_cell_20 : decode prog_1_method_33_code 20 = .ok (.if_icmp .ne 6, 3) := by decide +kernel
theorem d_UF_cell_23 : decode prog_1_method_33_code 23 = .ok (.bipush (-11), 2) := by decide +kernel
theorem d_UF_cell_25 : decode prog_1_method_33_code 25 = .ok (.ireturn, 1) := by decide +kernel
theorem d_UF_cell_26 : decode prog_1_method_33_code 26 = .ok (.aload_n 0, 1) := by decide +kernel
theorem d_UF_cell_27 : decode prog_1_method_33_code 27 = .ok (.getfield 23, 3) := by decide +kernel
theorem d_UF_cell_30 : decode prog_1_method_33_code 30 = .ok (.iload_n 1, 1) := by decide +kernel
theorem d_UF_cell_31 : decode prog_1_method_33_code 31 = .ok (.aaload, 1) := by decide +kernel
theorem d_UF_cell_32 : decode prog_1_method_33_code 32 = .ok (.iload_n 2, 1) := by decide +kernel
theorem d_UF_cell_33 : decode prog_1_method_33_code 33 = .ok (.invokevirtual 239, 3) := by decide +kernel
theorem d_UF_cell_36 : decode prog_1_method_33_code 36 = .ok (.ifCond .ne 6, 3) := by decide +kernel
theorem d_UF_cell_39 : decode prog_1_method_33_code 39 = .ok (.bipush (-12), 2) := by decide +kernel
theorem d_UF_cell_41 : decode prog_1_method_33_code 41 = .ok (.ireturn, 1) := by decide +kernel
theorem d_UF_cell_42 : decode prog_1_method_33_code 42 = .ok (.aload_n 0, 1) := by decide +kernel
theorem d_UF_cell_43 : decode prog_1_method_33_code 43 = .ok (.getfield 23, 3) := by decide +kernel
theorem d_UF_cell_46 : decode prog_1_method_33_code 46 = .ok (.iload_n 1, 1) := by decide +kernel
theorem d_UF_cell_47 : decode prog_1_method_33_code 47 = .ok (.aaload, 1) := by decide +kernel
theorem d_UF_cell_48 : decode prog_1_method_33_code 48 = .ok (.iload_n 2, 1) := by decide +kernel
theorem d_UF_cell_49 : decode prog_1_method_33_code 49 = .ok (.iload_n 3, 1) := by decide +kernel
theorem d_UF_cell_50 : decode prog_1_method_33_code 50 = .ok (.invokevirtual 217, 3) := by decide +kernel
theorem d_UF_cell_53 : decode prog_1_method_33_code 53 = .ok (.iconst 1, 1) := by decide +kernel
theorem d_UF_cell_54 : decode prog_1_method_33_code 54 = .ok (.ireturn, 1) := by decide +kernel
def p_UF_cell (Q : Int32 → AH → Prop) (x1 : Int32) (x2 : Int32) (x3 : Int32) (h : AH) : Prop := p_UF_isSheet (fun r2 h1 => ((¬ r2 = 0 → inb x1 4 ∧ 0 < rR T1 h1 3 x1.toNatClampNeg ∧ vA T1 h1 (rR T1 h1 3 x1.toNatClampNeg - 1) ∧ (rS T1 h1 (rR T1 h1 3 x1.toNatClampNeg - 1)).1 = 8 ∧ ((¬ (h1.1 (rR T1 h1 3 x1.toNatClampNeg - 1) 1) = (-1) → p_Sheet_has (fun r8 h7 => ((¬ r8 = 0 → inb x1 4 ∧ 0 < rR T1 h7 3 x1.toNatClampNeg ∧ vA T1 h7 (rR T1 h7 3 x1.toNatClampNeg - 1) ∧ (rS T1 h7 (rR T1 h7 3 x1.toNatClampNeg - 1)).1 = 8 ∧ p_Sheet_write (fun h13 => Q 1 h13) (rR T1 h7 3 x1.toNatClampNeg - 1) x2 x3 h7) ∧ (r8 = 0 → Q (-12) h7))) (rR T1 h1 3 x1.toNatClampNeg - 1) x2 h1) ∧ ((h1.1 (rR T1 h1 3 x1.toNatClampNeg - 1) 1) = (-1) → Q (-11) h1))) ∧ (r2 = 0 → Q (-2) h1))) x1 h
set_option maxRecDepth 20000 in
theorem r_UF_cell_0 {G : GG} {d : Nat} {Q : Int32 → AH → Prop} (x1 : Int32) (x2 : Int32) (x3 : Int32) (h : AH) (H : p_UF_cell Q x1 x2 x3 h) : Att G T1 m_UF_cell (d + 2) 0 [some (.ref 0), some (.int x1), some (.int x2), some (.int x3)] [] h 0 0 (iQ Q) := by
  refine A_iload_n d_UF_cell_0 rfl ?_
  refine A_cI [.int x1] [] (ct_UF_211 rfl) d_UF_cell_1 rfl rfl (by decide) (Nat.le_of_ble_eq_true rfl) trivial (ok_UF_isSheet (d := d) H) (fun r2 h1 H => ?_)
  refine A_if_ne 10 d_UF_cell_4 (by decide) (fun z => ?_) (fun z => ?_)
  · have H := H.1 z
    refine A_aload_n d_UF_cell_10 rfl ?_
    refine A_get (v := .ref 3) d_UF_cell_11 (fo_UF_23_11 rfl) (vA_s (by decide)) rfl (by first | rfl | (show Value.int _ = Value.int _; simp [wI, wL, wR, wC, up])) ?_
    refine A_iload_n d_UF_cell_14 rfl ?_
    obtain ⟨c3, H⟩ := H
    obtain ⟨c4, H⟩ := H
    refine A_aald (t := 2) (n := 4) d_UF_cell_15 (by decide) (vA_s (by decide)) rfl c3 (pos_sub c4) ?_
    obtain ⟨c5, H⟩ := H
    obtain ⟨c6, H⟩ := H
    refine A_get (v := .int (h1.1 (rR T1 h1 3 x1.toNatClampNeg - 1) 1)) d_UF_cell_16 (fo_UF_236_8 rfl) c5 c6 (by first | rfl | (show Value.int _ = Value.int _; simp [wI, wL, wR, wC, up])) ?_
    refine A_iconst (-1) (by decide) d_UF_cell_19 ?_
    refine A_icmp_ne 26 d_UF_cell_20 (by decide) (fun z => ?_) (fun z => ?_)
    · have H := H.1 z
      refine A_aload_n d_UF_cell_26 rfl ?_
      refine A_get (v := .ref 3) d_UF_cell_27 (fo_UF_23_11 rfl) (vA_s (by decide)) rfl (by first | rfl | (show Value.int _ = Value.int _; simp [wI, wL, wR, wC, up])) ?_
      refine A_iload_n d_UF_cell_30 rfl ?_
      refine A_aald (t := 2) (n := 4) d_UF_cell_31 (by decide) (vA_s (by decide)) rfl c3 (pos_sub c4) ?_
      refine A_iload_n d_UF_cell_32 rfl ?_
      refine A_cI [.ref (rR T1 h1 3 x1.toNatClampNeg - 1), .int x2] [] (ct_UF_239 rfl) d_UF_cell_33 rfl rfl (by decide) (Nat.le_of_ble_eq_true rfl) (rcA_o (c := 8) rfl c5 c6 (by decide) rfl) (ok_Sheet_has (d := d + 1) H) (fun r8 h7 H => ?_)
      refine A_if_ne 42 d_UF_cell_36 (by decide) (fun z => ?_) (fun z => ?_)
      · have H := H.1 z
        refine A_aload_n d_UF_cell_42 rfl ?_
        refine A_get (v := .ref 3) d_UF_cell_43 (fo_UF_23_11 rfl) (vA_s (by decide)) rfl (by first | rfl | (show Value.int _ = Value.int _; simp [wI, wL, wR, wC, up])) ?_
        refine A_iload_n d_UF_cell_46 rfl ?_
        obtain ⟨c9, H⟩ := H
        obtain ⟨c10, H⟩ := H
        refine A_aald (t := 2) (n := 4) d_UF_cell_47 (by decide) (vA_s (by decide)) rfl c9 (pos_sub c10) ?_
        refine A_iload_n d_UF_cell_48 rfl ?_
        refine A_iload_n d_UF_cell_49 rfl ?_
        obtain ⟨c11, H⟩ := H
        obtain ⟨c12, H⟩ := H
        refine A_cV [.ref (rR T1 h7 3 x1.toNatClampNeg - 1), .int x2, .int x3] [] (ct_UF_217 rfl) d_UF_cell_50 rfl rfl (by decide) (Nat.le_of_ble_eq_true rfl) (rcA_o (c := 8) rfl c11 c12 (by decide) rfl) (ok_Sheet_write (d := d) H) (fun h13 H => ?_)
        refine A_iconst 1 (by decide) d_UF_cell_53 ?_
        exact A_iret d_UF_cell_54 rfl rfl H
      · have H := H.2 z
        refine A_bipush (-12) (by decide) d_UF_cell_39 ?_
        exact A_iret d_UF_cell_41 rfl rfl H
    · have H := H.2 z
      refine A_bipush (-11) (by decide) d_UF_cell_23 ?_
      exact A_iret d_UF_cell_25 rfl rfl H
  · have H := H.2 z
    refine A_bipush (-2) (by decide) d_UF_cell_7 ?_
    exact A_iret d_UF_cell_9 rfl rfl H
set_option maxRecDepth 20000 in
theorem ok_UF_cell {G : GG} {d : Nat} {Q : Int32 → AH → Prop} {x1 : Int32} {x2 : Int32} {x3 : Int32} {h : AH} (H : p_UF_cell Q x1 x2 x3 h) : WP G T1 m_UF_cell (d + 2) [.ref 0, .int x1, .int x2, .int x3] h 0 0 (iQ Q) := by
  exact WP.enter 0 (by decide) rfl rfl (r_UF_cell_0 x1 x2 x3 h H)
