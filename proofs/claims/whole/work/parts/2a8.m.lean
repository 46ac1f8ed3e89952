theorem d_MO_chained_0 : decode prog_14_method_40_code 0 = .ok (.aload_n 0, 1) := by decide +kernel
theorem d_MO_chained_1 : decode prog_14_method_40_code 1 = .ok (.iload_n 1, 1) := by decide +kernel
theorem d_MO_chained_2 : decode prog_14_method_40_code 2 = .ok (.iload_n 3, 1) := by decide +kernel
theorem d_MO_chained_3 : decode prog_14_method_40_code 3 = .ok (.invokevirtual 203, 3) := by decide +kernel
theorem d_MO_chained_6 : decode prog_14_method_40_code 6 = .ok (.istore 5, 2) := by decide +kernel
theorem d_MO_chained_8 : decode prog_14_method_40_code 8 = .ok (.aload_n 0, 1) := by decide +kernel
theorem d_MO_chained_9 : decode prog_14_method_40_code 9 = .ok (.iload_n 2, 1) := by decide +kernel
theorem d_MO_chained_10 : decode prog_14_method_40_code 10 = .ok (.iload_n 3, 1) := by decide +kernel
theorem d_MO_chained_11 : decode prog_14_method_40_code 11 = .ok (.invokevirtual 203, 3) := by decide +kernel
theorem d_MO_chained_14 : decode prog_14_method_40_code 14 = .ok (.istore 6, 2) := by decide +kernel
theorem d_MO_chained_16 : decode prog_14_method_40_code 16 = .ok (.iload 5, 2) := by decide +kernel
theorem d_MO_chained_18 : decode prog_14_method_40_code 18 = .ok (.iload 6, 2) := by decide +kernel
theorem d_MO_chained_20 : decode prog_14_method_40_code 20 = .ok (.if_icmp .le 7, 3) := by decide +kernel
theorem d_MO_chained_23 : decode prog_14_method_40_code 23 = .ok (.iload_n 1, 1) := by decide +kernel
theorem d_MO_chained_24 : decode prog_14_method_40_code 24 = .ok (.goto 4, 3) := by decide +kernel
theorem d_MO_chained_27 : decode prog_14_method_40_code 27 = .ok (.iload_n 2, 1) := by decide +kernel
theorem d_MO_chained_28 : decode prog_14_method_40_code 28 = .ok (.istore 7, 2) := by decide +kernel
theorem d_MO_chained_30 : decode prog_14_method_40_code 30 = .ok (.iload 5, 2) := by decide +kernel
theorem d_MO_chained_32 : decode prog_14_method_40_code 32 = .ok (.iload 6, 2) := by decide +kernel
theorem d_MO_chained_34 : decode prog_14_method_40_code 34 = .ok (.if_icmp .le 7, 3) := by decide +kernel
theorem d_MO_chained_37 : decode prog_14_method_40_code 37 = .ok (.iload_n 2, 1) := by decide +kernel
theorem d_MO_chained_38 : decode prog_14_method_40_code 38 = .ok (.goto 4, 3) := by decide +kernel
theorem d_MO_chained_41 : decode prog_14_method_40_code 41 = .ok (.iload_n 1, 1) := by decide +kernel
theorem d_MO_chained_42 : decode prog_14_method_40_code 42 = .ok (.istore 8, 2) := by decide +kernel
theorem d_MO_chained_44 : decode prog_14_method_40_code 44 = .ok (.iload 5, 2) := by decide +kernel
theorem d_MO_chained_46 : decode prog_14_method_40_code 46 = .ok (.iload 6, 2) := by decide +kernel
theorem d_MO_chained_48 : decode prog_14_method_40_code 48 = .ok (.if_icmp .le 11, 3) := by decide +kernel
theorem d_MO_chained_51 : decode prog_14_method_40_code 51 = .ok (.iload 5, 2) := by decide +kernel
theorem d_MO_chained_53 : decode prog_14_method_40_code 53 = .ok (.iload 6, 2) := by decide +kernel
theorem d_MO_chained_55 : decode prog_14_method_40_code 55 = .ok (.isub, 1) := by decide +kernel
theorem d_MO_chained_56 : decode prog_14_method_40_code 56 = .ok (.goto 8, 3) := by decide +kernel
theorem d_MO_chained_59 : decode prog_14_method_40_code 59 = .ok (.iload 6, 2) := by decide +kernel
theorem d_MO_chained_61 : decode prog_14_method_40_code 61 = .ok (.iload 5, 2) := by decide +kernel
theorem d_MO_chained_63 : decode prog_14_method_40_code 63 = .ok (.isub, 1) := by decide +kernel
theorem d_MO_chained_64 : decode prog_14_method_40_code 64 = .ok (.istore 9, 2) := by decide +kernel
theorem d_MO_chained_66 : decode prog_14_method_40_code 66 = .ok (.iload 4, 2) := by decide +kernel
theorem d_MO_chained_68 : decode prog_14_method_40_code 68 = .ok (.ifCond .ne 47, 3) := by decide +kernel
theorem d_MO_chained_71 : decode prog_14_method_40_code 71 = .ok (.iload 9, 2) := by decide +kernel
theorem d_MO_chained_73 : decode prog_14_method_40_code 73 = .ok (.aload_n 0, 1) := by decide +kernel
theorem d_MO_chained_74 : decode prog_14_method_40_code 74 = .ok (.iload_n 1, 1) := by decide +kernel
theorem d_MO_chained_75 : decode prog_14_method_40_code 75 = .ok (.iload_n 3, 1) := by decide +kernel
theorem d_MO_chained_76 : decode prog_14_method_40_code 76 = .ok (.invokevirtual 206, 3) := by decide +kernel
theorem d_MO_chained_79 : decode prog_14_method_40_code 79 = .ok (.aload_n 0, 1) := by decide +kernel
theorem d_MO_chained_80 : decode prog_14_method_40_code 80 = .ok (.iload_n 2, 1) := by decide +kernel
theorem d_MO_chained_81 : decode prog_14_method_40_code 81 = .ok (.iload_n 3, 1) := by decide +kernel
theorem d_MO_chained_82 : decode prog_14_method_40_code 82 = .ok (.invokevirtual 206, 3) := by decide +kernel
theorem d_MO_chained_85 : decode prog_14_method_40_code 85 = .ok (.iadd, 1) := by decide +kernel
theorem d_MO_chained_86 : decode prog_14_method_40_code 86 = .ok (.if_icmp .le 29, 3) := by decide +kernel
theorem d_MO_chained_89 : decode prog_14_method_40_code 89 = .ok (.aload_n 0, 1) := by decide +kernel
theorem d_MO_chained_90 : decode prog_14_method_40_code 90 = .ok (.getfield 64, 3) := by decide +kernel
theorem d_MO_chained_93 : decode prog_14_method_40_code 93 = .ok (.iload 7, 2) := by decide +kernel
theorem d_MO_chained_95 : decode prog_14_method_40_code 95 = .ok (.iaload, 1) := by decide +kernel
theorem d_MO_chained_96 : decode prog_14_method_40_code 96 = .ok (.ifCond .le 19, 3) := by decide +kernel
theorem d_MO_chained_99 : decode prog_14_method_40_code 99 = .ok (.aload_n 0, 1) := by decide +kernel
theorem d_MO_chained_100 : decode prog_14_method_40_code 100 = .ok (.getfield 64, 3) := by decide +kernel
theorem d_MO_chained_103 : decode prog_14_method_40_code 103 = .ok (.iload 8, 2) := by decide +kernel
theorem d_MO_chained_105 : decode prog_14_method_40_code 105 = .ok (.iaload, 1) := by decide +kernel
theorem d_MO_chained_106 : decode prog_14_method_40_code 106 = .ok (.bipush 9, 2) := by decide +kernel
theorem d_MO_chained_108 : decode prog_14_method_40_code 108 = .ok (.if_icmp .ge 7, 3) := by decide +kernel
theorem d_MO_chained_111 : decode prog_14_method_40_code 111 = .ok (.iconst 1, 1) := by decide +kernel
theorem d_MO_chained_112 : decode prog_14_method_40_code 112 = .ok (.goto 4, 3) := by decide +kernel
theorem d_MO_chained_115 : decode prog_14_method_40_code 115 = .ok (.iconst 0, 1) := by decide +kernel
theorem d_MO_chained_116 : decode prog_14_method_40_code 116 = .ok (.istore 10, 2) := by decide +kernel
theorem d_MO_chained_118 : decode prog_14_method_40_code 118 = .ok (.aload_n 0, 1) := by decide +kernel
theorem d_MO_chained_119 : decode prog_14_method_40_code 119 = .ok (.getfield 70, 3) := by decide +kernel
theorem d_MO_chained_122 : decode prog_14_method_40_code 122 = .ok (.iload 8, 2) := by decide +kernel
theorem d_MO_chained_124 : decode prog_14_method_40_code 124 = .ok (.iconst 0, 1) := by decide +kernel
theorem d_MO_chained_125 : decode prog_14_method_40_code 125 = .ok (.iastore, 1) := by decide +kernel
theorem d_MO_chained_126 : decode prog_14_method_40_code 126 = .ok (.iload 10, 2) := by decide +kernel
theorem d_MO_chained_128 : decode prog_14_method_40_code 128 = .ok (.ifCond .eq 53, 3) := by decide +kernel
theorem d_MO_chained_131 : decode prog_14_method_40_code 131 = .ok (.aload_n 0, 1) := by decide +kernel
theorem d_MO_chained_132 : decode prog_14_method_40_code 132 = .ok (.iload_n 1, 1) := by decide +kernel
theorem d_MO_chained_133 : decode prog_14_method_40_code 133 = .ok (.iload_n 3, 1) := by decide +kernel
theorem d_MO_chained_134 : decode prog_14_method_40_code 134 = .ok (.invokevirtual 199, 3) := by decide +kernel
theorem d_MO_chained_137 : decode prog_14_method_40_code 137 = .ok (.ifCond .eq 44, 3) := by decide +kernel
theorem d_MO_chained_140 : decode prog_14_method_40_code 140 = .ok (.aload_n 0, 1) := by decide +kernel
theorem d_MO_chained_141 : decode prog_14_method_40_code 141 = .ok (.iload_n 2, 1) := by decide +kernel
theorem d_MO_chained_142 : decode prog_14_method_40_code 142 = .ok (.iload_n 3, 1) := by decide +kernel
theorem d_MO_chained_143 : decode prog_14_method_40_code 143 = .ok (.invokevirtual 199, 3) := by decide +kernel
theorem d_MO_chained_146 : decode prog_14_method_40_code 146 = .ok (.ifCond .eq 35, 3) := by decide +kernel
theorem d_MO_chained_149 : decode prog_14_method_40_code 149 = .ok (.aload_n 0, 1) := by decide +kernel
theorem d_MO_chained_150 : decode prog_14_method_40_code 150 = .ok (.getfield 64, 3) := by decide +kernel
theorem d_MO_chained_153 : decode prog_14_method_40_code 153 = .ok (.iload 8, 2) := by decide +kernel
theorem d_MO_chained_155 : decode prog_14_method_40_code 155 = .ok (.dup2, 1) := by decide +kernel
theorem d_MO_chained_156 : decode prog_14_method_40_code 156 = .ok (.iaload, 1) := by decide +kernel
theorem d_MO_chained_157 : decode prog_14_method_40_code 157 = .ok (.iconst 1, 1) := by decide +kernel
theorem d_MO_chained_158 : decode prog_14_method_40_code 158 = .ok (.iadd, 1) := by decide +kernel
theorem d_MO_chained_159 : decode prog_14_method_40_code 159 = .ok (.iastore, 1) := by decide +kernel
theorem d_MO_chained_160 : decode prog_14_method_40_code 160 = .ok (.aload_n 0, 1) := by decide +kernel
theorem d_MO_chained_161 : decode prog_14_method_40_code 161 = .ok (.getfield 67, 3) := by decide +kernel
theorem d_MO_chained_164 : decode prog_14_method_40_code 164 = .ok (.iload 8, 2) := by decide +kernel
theorem d_MO_chained_166 : decode prog_14_method_40_code 166 = .ok (.dup2, 1) := by decide +kernel
theorem d_MO_chained_167 : decode prog_14_method_40_code 167 = .ok (.iaload, 1) := by decide +kernel
theorem d_MO_chained_168 : decode prog_14_method_40_code 168 = .ok (.iconst 1, 1) := by decide +kernel
theorem d_MO_chained_169 : decode prog_14_method_40_code 169 = .ok (.iadd, 1) := by decide +kernel
theorem d_MO_chained_170 : decode prog_14_method_40_code 170 = .ok (.iastore, 1) := by decide +kernel
theorem d_MO_chained_171 : decode prog_14_method_40_code 171 = .ok (.aload_n 0, 1) := by decide +kernel
theorem d_MO_chained_172 : decode prog_14_method_40_code 172 = .ok (.iload 7, 2) := by decide +kernel
theorem d_MO_chained_174 : decode prog_14_method_40_code 174 = .ok (.iload_n 3, 1) := by decide +kernel
theorem d_MO_chained_175 : decode prog_14_method_40_code 175 = .ok (.invokevirtual 209, 3) := by decide +kernel
theorem d_MO_chained_178 : decode prog_14_method_40_code 178 = .ok (.goto 11, 3) := by decide +kernel
theorem d_MO_chained_181 : decode prog_14_method_40_code 181 = .ok (.aload_n 0, 1) := by decide +kernel
theorem d_MO_chained_182 : decode prog_14_method_40_code 182 = .ok (.getfield 70, 3) := by decide +kernel
theorem d_MO_chained_185 : decode prog_14_method_40_code 185 = .ok (.iload 7, 2) := by decide +kernel
theorem d_MO_chained_187 : decode prog_14_method_40_code 187 = .ok (.iconst 0, 1) := by decide +kernel
theorem d_MO_chained_188 : decode prog_14_method_40_code 188 = .ok (.iastore, 1) := by decide +kernel
theorem d_MO_chained_189 : decode prog_14_method_40_code 189 = .ok (.return_, 1) := by decide +kernel
def p_MO_chained_116 (Q : AH → Prop) (x1 : Int32) (x2 : Int32) (x3 : Int32) (x7 : Int32) (x8 : Int32) (s0 : Int32) (h : AH) : Prop := inb x8 7 ∧ ((s0 = 0 → inb x7 7 ∧ Q (wI (wI h 80 x8 0) 80 x7 0)) ∧ (¬ s0 = 0 → p_MO_isFree (fun r4 h3 => ((r4 = 0 → inb x7 7 ∧ Q (wI h3 80 x7 0)) ∧ (¬ r4 = 0 → p_MO_isFree (fun r7 h6 => ((r7 = 0 → inb x7 7 ∧ Q (wI h6 80 x7 0)) ∧ (¬ r7 = 0 → inb x8 7 ∧ p_MO_goesDown (fun h10 => Q h10) x7 x3 (wI (wI h6 78 x8 ((h6.1 78 x8) + 1)) 79 x8 (((wI h6 78 x8 ((h6.1 78 x8) + 1)).1 79 x8) + 1))))) x2 x3 h3))) x1 x3 (wI h 80 x8 0)))
def p_MO_chained_115 (Q : AH → Prop) (x1 : Int32) (x2 : Int32) (x3 : Int32) (x7 : Int32) (x8 : Int32) (h : AH) : Prop := p_MO_chained_116 Q   x1 x2 x3 x7 x8 0 h
def p_MO_chained_64 (Q : AH → Prop) (x1 : Int32) (x2 : Int32) (x3 : Int32) (x4 : Int32) (x7 : Int32) (x8 : Int32) (s0 : Int32) (h : AH) : Prop := ((¬ x4 = 0 → p_MO_chained_115 Q   x1 x2 x3 x7 x8 h) ∧ (x4 = 0 → p_MO_holdsIt (fun r2 h1 => p_MO_holdsIt (fun r4 h3 => ((s0 ≤ (r2 + r4) → p_MO_chained_115 Q   x1 x2 x3 x7 x8 h3) ∧ (¬ s0 ≤ (r2 + r4) → inb x7 7 ∧ (((h3.1 78 x7) ≤ 0 → p_MO_chained_115 Q   x1 x2 x3 x7 x8 h3) ∧ (¬ (h3.1 78 x7) ≤ 0 → inb x8 7 ∧ ((9 ≤ (h3.1 78 x8) → p_MO_chained_115 Q   x1 x2 x3 x7 x8 h3) ∧ (¬ 9 ≤ (h3.1 78 x8) → p_MO_chained_116 Q   x1 x2 x3 x7 x8 1 h3))))))) x2 x3 h1) x1 x3 h))
def p_MO_chained_42 (Q : AH → Prop) (x1 : Int32) (x2 : Int32) (x3 : Int32) (x4 : Int32) (x5 : Int32) (x6 : Int32) (x7 : Int32) (s0 : Int32) (h : AH) : Prop := ((x5 ≤ x6 → p_MO_chained_64 Q   x1 x2 x3 x4 x7 s0 (x6 - x5) h) ∧ (¬ x5 ≤ x6 → p_MO_chained_64 Q   x1 x2 x3 x4 x7 s0 (x5 - x6) h))
def p_MO_chained_28 (Q : AH → Prop) (x1 : Int32) (x2 : Int32) (x3 : Int32) (x4 : Int32) (x5 : Int32) (x6 : Int32) (s0 : Int32) (h : AH) : Prop := ((x5 ≤ x6 → p_MO_chained_42 Q   x1 x2 x3 x4 x5 x6 s0 x1 h) ∧ (¬ x5 ≤ x6 → p_MO_chained_42 Q   x1 x2 x3 x4 x5 x6 s0 x2 h))
def p_MO_chained (Q : AH → Prop) (x1 : Int32) (x2 : Int32) (x3 : Int32) (x4 : Int32) (h : AH) : Prop := p_MO_weighs (fun r2 h1 => p_MO_weighs (fun r4 h3 => ((r2 ≤ r4 → p_MO_chained_28 Q   x1 x2 x3 x4 r2 r4 x2 h3) ∧ (¬ r2 ≤ r4 → p_MO_chained_28 Q   x1 x2 x3 x4 r2 r4 x1 h3))) x2 x3 h1) x1 x3 h
set_option maxRecDepth 20000 in
theorem r_MO_chained_116 {G : GG} {d : Nat} {Q : AH → Prop} (x1 : Int32) (x2 : Int32) (x3 : Int32) (x7 : Int32) (x8 : Int32) (s0 : Int32) (h : AH) (H : p_MO_chained_116 Q x1 x2 x3 x7 x8 s0 h) : Att G T1 m_MO_chained (d + 4) 116 [some (.ref 59), some (.int x1), some (.int x2), some (.int x3), none, none, none, some (.int x7), some (.int x8), none, none] [.int s0] h 0 0 (vQ Q) := by
  refine A_istore [some (.ref 59), some (.int x1), some (.int x2), some (.int x3), none, none, none, some (.int x7), some (.int x8), none, some (.int s0)] d_MO_chained_116 (by decide) rfl rfl ?_
  refine A_aload_n d_MO_chained_118 rfl ?_
  refine A_get (v := .ref 80) d_MO_chained_119 (fo_MO_70_12 rfl) (vA_s (by decide)) rfl rfl ?_
  refine A_iload d_MO_chained_122 rfl ?_
  refine A_iconst 0 (by decide) d_MO_chained_124 ?_
  obtain ⟨c1, H⟩ := H
  refine A_iast (n := 7) d_MO_chained_125 (vA_s (by decide)) rfl c1 ?_
  refine A_iload d_MO_chained_126 rfl ?_
  refine A_if_eq 181 d_MO_chained_128 (by decide) (fun z => ?_) (fun z => ?_)
  · have H := H.1 z
    refine A_aload_n d_MO_chained_181 rfl ?_
    refine A_get (v := .ref 80) d_MO_chained_182 (fo_MO_70_12 rfl) (vA_s (by decide)) rfl rfl ?_
    refine A_iload d_MO_chained_185 rfl ?_
    refine A_iconst 0 (by decide) d_MO_chained_187 ?_
    obtain ⟨c2, H⟩ := H
    refine A_iast (n := 7) d_MO_chained_188 (vA_s (by decide)) rfl c2 ?_
    exact A_ret d_MO_chained_189 rfl H
  · have H := H.2 z
    refine A_aload_n d_MO_chained_131 rfl ?_
    refine A_iload_n d_MO_chained_132 rfl ?_
    refine A_iload_n d_MO_chained_133 rfl ?_
    refine A_cI [.ref 59, .int x1, .int x3] [] (ct_MO_199 rfl) d_MO_chained_134 rfl rfl (by decide) (Nat.le_of_ble_eq_true rfl) (rcA_o (c := 12) rfl (vA_s (by decide)) rfl (by decide) rfl) (ok_MO_isFree (d := d + 3) H) (fun r4 h3 H => ?_)
    refine A_if_eq 181 d_MO_chained_137 (by decide) (fun z => ?_) (fun z => ?_)
    · have H := H.1 z
      refine A_aload_n d_MO_chained_181 rfl ?_
      refine A_get (v := .ref 80) d_MO_chained_182 (fo_MO_70_12 rfl) (vA_s (by decide)) rfl rfl ?_
      refine A_iload d_MO_chained_185 rfl ?_
      refine A_iconst 0 (by decide) d_MO_chained_187 ?_
      obtain ⟨c5, H⟩ := H
      refine A_iast (n := 7) d_MO_chained_188 (vA_s (by decide)) rfl c5 ?_
      exact A_ret d_MO_chained_189 rfl H
    · have H := H.2 z
      refine A_aload_n d_MO_chained_140 rfl ?_
      refine A_iload_n d_MO_chained_141 rfl ?_
      refine A_iload_n d_MO_chained_142 rfl ?_
      refine A_cI [.ref 59, .int x2, .int x3] [] (ct_MO_199 rfl) d_MO_chained_143 rfl rfl (by decide) (Nat.le_of_ble_eq_true rfl) (rcA_o (c := 12) rfl (vA_s (by decide)) rfl (by decide) rfl) (ok_MO_isFree (d := d + 3) H) (fun r7 h6 H => ?_)
      refine A_if_eq 181 d_MO_chained_146 (by decide) (fun z => ?_) (fun z => ?_)
      · have H := H.1 z
        refine A_aload_n d_MO_chained_181 rfl ?_
        refine A_get (v := .ref 80) d_MO_chained_182 (fo_MO_70_12 rfl) (vA_s (by decide)) rfl rfl ?_
        refine A_iload d_MO_chained_185 rfl ?_
        refine A_iconst 0 (by decide) d_MO_chained_187 ?_
        obtain ⟨c8, H⟩ := H
        refine A_iast (n := 7) d_MO_chained_188 (vA_s (by decide)) rfl c8 ?_
        exact A_ret d_MO_chained_189 rfl H
      · have H := H.2 z
        refine A_aload_n d_MO_chained_149 rfl ?_
        refine A_get (v := .ref 78) d_MO_chained_150 (fo_MO_64_12 rfl) (vA_s (by decide)) rfl rfl ?_
        refine A_iload d_MO_chained_153 rfl ?_
        refine A_dup2 rfl rfl d_MO_chained_155 ?_
        obtain ⟨c9, H⟩ := H
        refine A_iald (n := 7) d_MO_chained_156 (vA_s (by decide)) rfl c9 ?_
        refine A_iconst 1 (by decide) d_MO_chained_157 ?_
        refine A_iadd d_MO_chained_158 ?_
        refine A_iast (n := 7) d_MO_chained_159 (vA_s (by decide)) rfl c9 ?_
        refine A_aload_n d_MO_chained_160 rfl ?_
        refine A_get (v := .ref 79) d_MO_chained_161 (fo_MO_67_12 rfl) (vA_s (by decide)) rfl rfl ?_
        refine A_iload d_MO_chained_164 rfl ?_
        refine A_dup2 rfl rfl d_MO_chained_166 ?_
        refine A_iald (n := 7) d_MO_chained_167 (vA_s (by decide)) rfl c9 ?_
        refine A_iconst 1 (by decide) d_MO_chained_168 ?_
        refine A_iadd d_MO_chained_169 ?_
        refine A_iast (n := 7) d_MO_chained_170 (vA_s (by decide)) rfl c9 ?_
        refine A_aload_n d_MO_chained_171 rfl ?_
        refine A_iload d_MO_chained_172 rfl ?_
        refine A_iload_n d_MO_chained_174 rfl ?_
        refine A_cV [.ref 59, .int x7, .int x3] [] (ct_MO_209 rfl) d_MO_chained_175 rfl rfl (by decide) (Nat.le_of_ble_eq_true rfl) (rcA_o (c := 12) rfl (vA_s (by decide)) rfl (by decide) rfl) (ok_MO_goesDown (d := d) H) (fun h10 H => ?_)
        refine A_goto 189 d_MO_chained_178 (by decide) ?_
        exact A_ret d_MO_chained_189 rfl H
set_option maxRecDepth 20000 in
theorem r_MO_chained_115 {G : GG} {d : Nat} {Q : AH → Prop} (x1 : Int32) (x2 : Int32) (x3 : Int32) (x7 : Int32) (x8 : Int32) (h : AH) (H : p_MO_chained_115 Q x1 x2 x3 x7 x8 h) : Att G T1 m_MO_chained (d + 4) 115 [some (.ref 59), some (.int x1), some (.int x2), some (.int x3), none, none, none, some (.int x7), some (.int x8), none, none] [] h 0 0 (vQ Q) := by
  refine A_iconst 0 (by decide) d_MO_chained_115 ?_
  exact r_MO_chained_116   _ _ _ _ _ _ _ H
set_option maxRecDepth 20000 in
theorem r_MO_chained_64 {G : GG} {d : Nat} {Q : AH → Prop} (x1 : Int32) (x2 : Int32) (x3 : Int32) (x4 : Int32) (x7 : Int32) (x8 : Int32) (s0 : Int32) (h : AH) (H : p_MO_chained_64 Q x1 x2 x3 x4 x7 x8 s0 h) : Att G T1 m_MO_chained (d + 4) 64 [some (.ref 59), some (.int x1), some (.int x2), some (.int x3), some (.int x4), none, none, some (.int x7), some (.int x8), none, none] [.int s0] h 0 0 (vQ Q) := by
  refine A_istore [some (.ref 59), some (.int x1), some (.int x2), some (.int x3), some (.int x4), none, none, some (.int x7), some (.int x8), some (.int s0), none] d_MO_chained_64 (by decide) rfl rfl ?_
  refine A_iload d_MO_chained_66 rfl ?_
  refine A_if_ne 115 d_MO_chained_68 (by decide) (fun z => ?_) (fun z => ?_)
  · have H := H.1 z
    refine A_sub (L' := [some (.ref 59), some (.int x1), some (.int x2), some (.int x3), none, none, none, some (.int x7), some (.int x8), none, none]) ⟨rfl, rfl, rfl, rfl, rfl, rfl, trivial⟩ ?_
    exact r_MO_chained_115   _ _ _ _ _ _ H
  · have H := H.2 z
    refine A_iload d_MO_chained_71 rfl ?_
    refine A_aload_n d_MO_chained_73 rfl ?_
    refine A_iload_n d_MO_chained_74 rfl ?_
    refine A_iload_n d_MO_chained_75 rfl ?_
    refine A_cI [.ref 59, .int x1, .int x3] [.int s0] (ct_MO_206 rfl) d_MO_chained_76 rfl rfl (by decide) (Nat.le_of_ble_eq_true rfl) (rcA_o (c := 12) rfl (vA_s (by decide)) rfl (by decide) rfl) (ok_MO_holdsIt (d := d) H) (fun r2 h1 H => ?_)
    refine A_aload_n d_MO_chained_79 rfl ?_
    refine A_iload_n d_MO_chained_80 rfl ?_
    refine A_iload_n d_MO_chained_81 rfl ?_
    refine A_cI [.ref 59, .int x2, .int x3] [.int r2, .int s0] (ct_MO_206 rfl) d_MO_chained_82 rfl rfl (by decide) (Nat.le_of_ble_eq_true rfl) (rcA_o (c := 12) rfl (vA_s (by decide)) rfl (by decide) rfl) (ok_MO_holdsIt (d := d) H) (fun r4 h3 H => ?_)
    refine A_iadd d_MO_chained_85 ?_
    refine A_icmp_le 115 d_MO_chained_86 (by decide) (fun z => ?_) (fun z => ?_)
    · have H := H.1 z
      refine A_sub (L' := [some (.ref 59), some (.int x1), some (.int x2), some (.int x3), none, none, none, some (.int x7), some (.int x8), none, none]) ⟨rfl, rfl, rfl, rfl, rfl, rfl, trivial⟩ ?_
      exact r_MO_chained_115   _ _ _ _ _ _ H
    · have H := H.2 z
      refine A_aload_n d_MO_chained_89 rfl ?_
      refine A_get (v := .ref 78) d_MO_chained_90 (fo_MO_64_12 rfl) (vA_s (by decide)) rfl rfl ?_
      refine A_iload d_MO_chained_93 rfl ?_
      obtain ⟨c5, H⟩ := H
      refine A_iald (n := 7) d_MO_chained_95 (vA_s (by decide)) rfl c5 ?_
      refine A_if_le 115 d_MO_chained_96 (by decide) (fun z => ?_) (fun z => ?_)
      · have H := H.1 z
        refine A_sub (L' := [some (.ref 59), some (.int x1), some (.int x2), some (.int x3), none, none, none, some (.int x7), some (.int x8), none, none]) ⟨rfl, rfl, rfl, rfl, rfl, rfl, trivial⟩ ?_
        exact r_MO_chained_115   _ _ _ _ _ _ H
      · have H := H.2 z
        refine A_aload_n d_MO_chained_99 rfl ?_
        refine A_get (v := .ref 78) d_MO_chained_100 (fo_MO_64_12 rfl) (vA_s (by decide)) rfl rfl ?_
        refine A_iload d_MO_chained_103 rfl ?_
        obtain ⟨c6, H⟩ := H
        refine A_iald (n := 7) d_MO_chained_105 (vA_s (by decide)) rfl c6 ?_
        refine A_bipush 9 (by decide) d_MO_chained_106 ?_
        refine A_icmp_ge 115 d_MO_chained_108 (by decide) (fun z => ?_) (fun z => ?_)
        · have H := H.1 z
          refine A_sub (L' := [some (.ref 59), some (.int x1), some (.int x2), some (.int x3), none, none, none, some (.int x7), some (.int x8), none, none]) ⟨rfl, rfl, rfl, rfl, rfl, rfl, trivial⟩ ?_
          exact r_MO_chained_115   _ _ _ _ _ _ H
        · have H := H.2 z
          refine A_iconst 1 (by decide) d_MO_chained_111 ?_
          refine A_goto 116 d_MO_chained_112 (by decide) ?_
          refine A_sub (L' := [some (.ref 59), some (.int x1), some (.int x2), some (.int x3), none, none, none, some (.int x7), some (.int x8), none, none]) ⟨rfl, rfl, rfl, rfl, rfl, rfl, trivial⟩ ?_
          exact r_MO_chained_116   _ _ _ _ _ _ _ H
set_option maxRecDepth 20000 in
theorem r_MO_chained_42 {G : GG} {d : Nat} {Q : AH → Prop} (x1 : Int32) (x2 : Int32) (x3 : Int32) (x4 : Int32) (x5 : Int32) (x6 : Int32) (x7 : Int32) (s0 : Int32) (h : AH) (H : p_MO_chained_42 Q x1 x2 x3 x4 x5 x6 x7 s0 h) : Att G T1 m_MO_chained (d + 4) 42 [some (.ref 59), some (.int x1), some (.int x2), some (.int x3), some (.int x4), some (.int x5), some (.int x6), some (.int x7), none, none, none] [.int s0] h 0 0 (vQ Q) := by
  refine A_istore [some (.ref 59), some (.int x1), some (.int x2), some (.int x3), some (.int x4), some (.int x5), some (.int x6), some (.int x7), some (.int s0), none, none] d_MO_chained_42 (by decide) rfl rfl ?_
  refine A_iload d_MO_chained_44 rfl ?_
  refine A_iload d_MO_chained_46 rfl ?_
  refine A_icmp_le 59 d_MO_chained_48 (by decide) (fun z => ?_) (fun z => ?_)
  · have H := H.1 z
    refine A_iload d_MO_chained_59 rfl ?_
    refine A_iload d_MO_chained_61 rfl ?_
    refine A_isub d_MO_chained_63 ?_
    refine A_sub (L' := [some (.ref 59), some (.int x1), some (.int x2), some (.int x3), some (.int x4), none, none, some (.int x7), some (.int s0), none, none]) ⟨rfl, rfl, rfl, rfl, rfl, rfl, rfl, trivial⟩ ?_
    exact r_MO_chained_64   _ _ _ _ _ _ _ _ H
  · have H := H.2 z
    refine A_iload d_MO_chained_51 rfl ?_
    refine A_iload d_MO_chained_53 rfl ?_
    refine A_isub d_MO_chained_55 ?_
    refine A_goto 64 d_MO_chained_56 (by decide) ?_
    refine A_sub (L' := [some (.ref 59), some (.int x1), some (.int x2), some (.int x3), some (.int x4), none, none, some (.int x7), some (.int s0), none, none]) ⟨rfl, rfl, rfl, rfl, rfl, rfl, rfl, trivial⟩ ?_
    exact r_MO_chained_64   _ _ _ _ _ _ _ _ H
set_option maxRecDepth 20000 in
theorem r_MO_chained_28 {G : GG} {d : Nat} {Q : AH → Prop} (x1 : Int32) (x2 : Int32) (x3 : Int32) (x4 : Int32) (x5 : Int32) (x6 : Int32) (s0 : Int32) (h : AH) (H : p_MO_chained_28 Q x1 x2 x3 x4 x5 x6 s0 h) : Att G T1 m_MO_chained (d + 4) 28 [some (.ref 59), some (.int x1), some (.int x2), some (.int x3), some (.int x4), some (.int x5), some (.int x6), none, none, none, none] [.int s0] h 0 0 (vQ Q) := by
  refine A_istore [some (.ref 59), some (.int x1), some (.int x2), some (.int x3), some (.int x4), some (.int x5), some (.int x6), some (.int s0), none, none, none] d_MO_chained_28 (by decide) rfl rfl ?_
  refine A_iload d_MO_chained_30 rfl ?_
  refine A_iload d_MO_chained_32 rfl ?_
  refine A_icmp_le 41 d_MO_chained_34 (by decide) (fun z => ?_) (fun z => ?_)
  · have H := H.1 z
    refine A_iload_n d_MO_chained_41 rfl ?_
    exact r_MO_chained_42   _ _ _ _ _ _ _ _ _ H
  · have H := H.2 z
    refine A_iload_n d_MO_chained_37 rfl ?_
    refine A_goto 42 d_MO_chained_38 (by decide) ?_
    exact r_MO_chained_42   _ _ _ _ _ _ _ _ _ H
set_option maxRecDepth 20000 in
theorem r_MO_chained_0 {G : GG} {d : Nat} {Q : AH → Prop} (x1 : Int32) (x2 : Int32) (x3 : Int32) (x4 : Int32) (h : AH) (H : p_MO_chained Q x1 x2 x3 x4 h) : Att G T1 m_MO_chained (d + 4) 0 [some (.ref 59), some (.int x1), some (.int x2), some (.int x3), some (.int x4), none, none, none, none, none, none] [] h 0 0 (vQ Q) := by
  refine A_aload_n d_MO_chained_0 rfl ?_
  refine A_iload_n d_MO_chained_1 rfl ?_
  refine A_iload_n d_MO_chained_2 rfl ?_
  refine A_cI [.ref 59, .int x1, .int x3] [] (ct_MO_203 rfl) d_MO_chained_3 rfl rfl (by decide) (Nat.le_of_ble_eq_true rfl) (rcA_o (c := 12) rfl (vA_s (by decide)) rfl (by decide) rfl) (ok_MO_weighs (d := d) H) (fun r2 h1 H => ?_)
  refine A_istore [some (.ref 59), some (.int x1), some (.int x2), some (.int x3), some (.int x4), some (.int r2), none, none, none, none, none] d_MO_chained_6 (by decide) rfl rfl ?_
  refine A_aload_n d_MO_chained_8 rfl ?_
  refine A_iload_n d_MO_chained_9 rfl ?_
  refine A_iload_n d_MO_chained_10 rfl ?_
  refine A_cI [.ref 59, .int x2, .int x3] [] (ct_MO_203 rfl) d_MO_chained_11 rfl rfl (by decide) (Nat.le_of_ble_eq_true rfl) (rcA_o (c := 12) rfl (vA_s (by decide)) rfl (by decide) rfl) (ok_MO_weighs (d := d) H) (fun r4 h3 H => ?_)
  refine A_istore [some (.ref 59), some (.int x1), some (.int x2), some (.int x3), some (.int x4), some (.int r2), some (.int r4), none, none, none, none] d_MO_chained_14 (by decide) rfl rfl ?_
  refine A_iload d_MO_chained_16 rfl ?_
  refine A_iload d_MO_chained_18 rfl ?_
  refine A_icmp_le 27 d_MO_chained_20 (by decide) (fun z => ?_) (fun z => ?_)
  · have H := H.1 z
    refine A_iload_n d_MO_chained_27 rfl ?_
    exact r_MO_chained_28   _ _ _ _ _ _ _ _ H
  · have H := H.2 z
    refine A_iload_n d_MO_chained_23 rfl ?_
    refine A_goto 28 d_MO_chained_24 (by decide) ?_
    exact r_MO_chained_28   _ _ _ _ _ _ _ _ H
set_option maxRecDepth 20000 in
theorem ok_MO_chained {G : GG} {d : Nat} {Q : AH → Prop} {x1 : Int32} {x2 : Int32} {x3 : Int32} {x4 : Int32} {h : AH} (H : p_MO_chained Q x1 x2 x3 x4 h) : WP G T1 m_MO_chained (d + 4) [.ref 59, .int x1, .int x2, .int x3, .int x4] h 0 0 (vQ Q) := by
  exact WP.enter 6 (by decide) rfl rfl (r_MO_chained_0 x1 x2 x3 x4 h H)
theorem d_Reader_nameRead_0 : decode prog_9_method_13_code 0 = .ok (.aload_n 0, 1) := by decide +kernel
theorem d_Reader_nameRead_1 : decode prog_9_method_13_code 1 = .ok (.ldc 119, 2) := by decide +kernel
theorem d_Reader_nameRead_3 : decode prog_9_method_13_code 3 = .ok (.invokevirtual 101, 3) := by decide +kernel
theorem d_Reader_nameRead_6 : decode prog_9_method_13_code 6 = .ok (.ifCond .eq 5, 3) := by decide +kernel
theorem d_Reader_nameRead_9 : decode prog_9_method_13_code 9 = .ok (.iconst 0, 1) := by decide +kernel
theorem d_Reader_nameRead_10 : decode prog_9_method_13_code 10 = .ok (.ireturn, 1) := by decide +kernel
theorem d_Reader_nameRead_11 : decode prog_9_method_13_code 11 = .ok (.aload_n 0, 1) := by decide +kernel
theorem d_Reader_nameRead_12 : decode prog_9_method_13_code 12 = .ok (.ldc 121, 2) := by decide +kernel
theorem d_Reader_nameRead_14 : decode prog_9_method_13_code 14 = .ok (.invokevirtual 101, 3) := by decide +kernel
theorem d_Reader_nameRead_17 : decode prog_9_method_13_code 17 = .ok (.ifCond .eq 5, 3) := by decide +kernel
theorem d_Reader_nameRead_20 : decode prog_9_method_13_code 20 = .ok (.iconst 1, 1) := by decide +kernel
theorem d_Reader_nameRead_21 : decode prog_9_method_13_code 21 = .ok (.ireturn, 1) := by decide +kernel
theorem d_Reader_nameRead_22 : decode prog_9_method_13_code 22 = .ok (.aload_n 0, 1) := by decide +kernel
theorem d_Reader_nameRead_23 : decode prog_9_method_13_code 23 = .ok (.ldc 123, 2) := by decide +kernel
theorem d_Reader_nameRead_25 : decode prog_9_method_13_code 25 = .ok (.invokevirtual 101, 3) := by decide +kernel
theorem d_Reader_nameRead_28 : decode prog_9_method_13_code 28 = .ok (.ifCond .eq 5, 3) := by decide +kernel
theorem d_Reader_nameRead_31 : decode prog_9_method_13_code 31 = .ok (.iconst 2, 1) := by decide +kernel
theorem d_Reader_nameRead_32 : decode prog_9_method_13_code 32 = .ok (.ireturn, 1) := by decide +kernel
theorem d_Reader_nameRead_33 : decode prog_9_method_13_code 33 = .ok (.aload_n 0, 1) := by decide +kernel
theorem d_Reader_nameRead_34 : decode prog_9_method_13_code 34 = .ok (.ldc 125, 2) := by decide +kernel
theorem d_Reader_nameRead_36 : decode prog_9_method_13_code 36 = .ok (.invokevirtual 101, 3) := by decide +kernel
theorem d_Reader_nameRead_39 : decode prog_9_method_13_code 39 = .ok (.ifCond .eq 5, 3) := by decide +kernel
theorem d_Reader_nameRead_42 : decode prog_9_method_13_code 42 = .ok (.iconst 3, 1) := by decide +kernel
theorem d_Reader_nameRead_43 : decode prog_9_method_13_code 43 = .ok (.ireturn, 1) := by decide +kernel
theorem d_Reader_nameRead_44 : decode prog_9_method_13_code 44 = .ok (.aload_n 0, 1) := by decide +kernel
theorem d_Reader_nameRead_45 : decode prog_9_method_13_code 45 = .ok (.ldc 127, 2) := by decide +kernel
theorem d_Reader_nameRead_47 : decode prog_9_method_13_code 47 = .ok (.invokevirtual 101, 3) := by decide +kernel
theorem d_Reader_nameRead_50 : decode prog_9_method_13_code 50 = .ok (.ifCond .eq 5, 3) := by decide +kernel
theorem d_Reader_nameRead_53 : decode prog_9_method_13_code 53 = .ok (.iconst 4, 1) := by decide +kernel
theorem d_Reader_nameRead_54 : decode prog_9_method_13_code 54 = .ok (.ireturn, 1) := by decide +kernel
theorem d_Reader_nameRead_55 : decode prog_9_method_13_code 55 = .ok (.aload_n 0, 1) := by decide +kernel
theorem d_Reader_nameRead_56 : decode prog_9_method_13_code 56 = .ok (.ldc 129, 2) := by decide +kernel
theorem d_Reader_nameRead_58 : decode prog_9_method_13_code 58 = .ok (.invokevirtual 101, 3) := by decide +kernel
theorem d_Reader_nameRead_61 : decode prog_9_method_13_code 61 = .ok (.ifCond .eq 5, 3) := by decide +kernel
theorem d_Reader_nameRead_64 : decode prog_9_method_13_code 64 = .ok (.iconst 5, 1) := by decide +kernel
theorem d_Reader_nameRead_65 : decode prog_9_method_13_code 65 = .ok (.ireturn, 1) := by decide +kernel
theorem d_Reader_nameRead_66 : decode prog_9_method_13_code 66 = .ok (.iconst (-1), 1) := by decide +kernel
theorem d_Reader_nameRead_67 : decode prog_9_method_13_code 67 = .ok (.ireturn, 1) := by decide +kernel
def p_Reader_nameRead (Q : Int32 → AH → Prop) (h : AH) : Prop := p_Reader_isWord (fun r2 h1 => ((r2 = 0 → p_Reader_isWord (fun r4 h3 => ((r4 = 0 → p_Reader_isWord (fun r6 h5 => ((r6 = 0 → p_Reader_isWord (fun r8 h7 => ((r8 = 0 → p_Reader_isWord (fun r10 h9 => ((r10 = 0 → p_Reader_isWord (fun r12 h11 => ((r12 = 0 → Q (-1) h11) ∧ (¬ r12 = 0 → Q 5 h11))) (1000000 + 12) h9) ∧ (¬ r10 = 0 → Q 4 h9))) (1000000 + 11) h7) ∧ (¬ r8 = 0 → Q 3 h7))) (1000000 + 10) h5) ∧ (¬ r6 = 0 → Q 2 h5))) (1000000 + 9) h3) ∧ (¬ r4 = 0 → Q 1 h3))) (1000000 + 8) h1) ∧ (¬ r2 = 0 → Q 0 h1))) (1000000 + 7) h
set_option maxRecDepth 20000 in
theorem r_Reader_nameRead_0 {G : GG} {d : Nat} {Q : Int32 → AH → Prop} (h : AH) (H : p_Reader_nameRead Q h) : Att G T1 m_Reader_nameRead (d + 5) 0 [some (.ref 25)] [] h 0 0 (iQ Q) := by
  refine A_aload_n d_Reader_nameRead_0 rfl ?_
  refine A_ldcS 7 d_Reader_nameRead_1 rfl rfl ?_
  refine A_cI [.ref 25, .ref (1000000 + 7)] [] (ct_Reader_101 rfl) d_Reader_nameRead_3 rfl rfl (by decide) (Nat.le_of_ble_eq_true rfl) (rcA_o (c := 7) rfl (vA_s (by decide)) rfl (by decide) rfl) (ok_Reader_isWord (d := d) H) (fun r2 h1 H => ?_)
  refine A_if_eq 11 d_Reader_nameRead_6 (by decide) (fun z => ?_) (fun z => ?_)
  · have H := H.1 z
    refine A_aload_n d_Reader_nameRead_11 rfl ?_
    refine A_ldcS 8 d_Reader_nameRead_12 rfl rfl ?_
    refine A_cI [.ref 25, .ref (1000000 + 8)] [] (ct_Reader_101 rfl) d_Reader_nameRead_14 rfl rfl (by decide) (Nat.le_of_ble_eq_true rfl) (rcA_o (c := 7) rfl (vA_s (by decide)) rfl (by decide) rfl) (ok_Reader_isWord (d := d) H) (fun r4 h3 H => ?_)
    refine A_if_eq 22 d_Reader_nameRead_17 (by decide) (fun z => ?_) (fun z => ?_)
    · have H := H.1 z
      refine A_aload_n d_Reader_nameRead_22 rfl ?_
      refine A_ldcS 9 d_Reader_nameRead_23 rfl rfl ?_
      refine A_cI [.ref 25, .ref (1000000 + 9)] [] (ct_Reader_101 rfl) d_Reader_nameRead_25 rfl rfl (by decide) (Nat.le_of_ble_eq_true rfl) (rcA_o (c := 7) rfl (vA_s (by decide)) rfl (by decide) rfl) (ok_Reader_isWord (d := d) H) (fun r6 h5 H => ?_)
      refine A_if_eq 33 d_Reader_nameRead_28 (by decide) (fun z => ?_) (fun z => ?_)
      · have H := H.1 z
        refine A_aload_n d_Reader_nameRead_33 rfl ?_
        refine A_ldcS 10 d_Reader_nameRead_34 rfl rfl ?_
        refine A_cI [.ref 25, .ref (1000000 + 10)] [] (ct_Reader_101 rfl) d_Reader_nameRead_36 rfl rfl (by decide) (Nat.le_of_ble_eq_true rfl) (rcA_o (c := 7) rfl (vA_s (by decide)) rfl (by decide) rfl) (ok_Reader_isWord (d := d) H) (fun r8 h7 H => ?_)
        refine A_if_eq 44 d_Reader_nameRead_39 (by decide) (fun z => ?_) (fun z => ?_)
        · have H := H.1 z
          refine A_aload_n d_Reader_nameRead_44 rfl ?_
          refine A_ldcS 11 d_Reader_nameRead_45 rfl rfl ?_
          refine A_cI [.ref 25, .ref (1000000 + 11)] [] (ct_Reader_101 rfl) d_Reader_nameRead_47 rfl rfl (by decide) (Nat.le_of_ble_eq_true rfl) (rcA_o (c := 7) rfl (vA_s (by decide)) rfl (by decide) rfl) (ok_Reader_isWord (d := d) H) (fun r10 h9 H => ?_)
          refine A_if_eq 55 d_Reader_nameRead_50 (by decide) (fun z => ?_) (fun z => ?_)
          · have H := H.1 z
            refine A_aload_n d_Reader_nameRead_55 rfl ?_
            refine A_ldcS 12 d_Reader_nameRead_56 rfl rfl ?_
            refine A_cI [.ref 25, .ref (1000000 + 12)] [] (ct_Reader_101 rfl) d_Reader_nameRead_58 rfl rfl (by decide) (Nat.le_of_ble_eq_true rfl) (rcA_o (c := 7) rfl (vA_s (by decide)) rfl (by decide) rfl) (ok_Reader_isWord (d := d) H) (fun r12 h11 H => ?_)
            refine A_if_eq 66 d_Reader_nameRead_61 (by decide) (fun z => ?_) (fun z => ?_)
            · have H := H.1 z
              refine A_iconst (-1) (by decide) d_Reader_nameRead_66 ?_
              exact A_iret d_Reader_nameRead_67 rfl rfl H
            · have H := H.2 z
              refine A_iconst 5 (by decide) d_Reader_nameRead_64 ?_
              exact A_iret d_Reader_nameRead_65 rfl rfl H
          · have H := H.2 z
            refine A_iconst 4 (by decide) d_Reader_nameRead_53 ?_
            exact A_iret d_Reader_nameRead_54 rfl rfl H
        · have H := H.2 z
          refine A_iconst 3 (by decide) d_Reader_nameRead_42 ?_
          exact A_iret d_Reader_nameRead_43 rfl rfl H
      · have H := H.2 z
        refine A_iconst 2 (by decide) d_Reader_nameRead_31 ?_
        exact A_iret d_Reader_nameRead_32 rfl rfl H
    · have H := H.2 z
      refine A_iconst 1 (by decide) d_Reader_nameRead_20 ?_
      exact A_iret d_Reader_nameRead_21 rfl rfl H
  · have H := H.2 z
    refine A_iconst 0 (by decide) d_Reader_nameRead_9 ?_
    exact A_iret d_Reader_nameRead_10 rfl rfl H
set_option maxRecDepth 20000 in
theorem ok_Reader_nameRead {G : GG} {d : Nat} {Q : Int32 → AH → Prop} {h : AH} (H : p_Reader_nameRead Q h) : WP G T1 m_Reader_nameRead (d + 5) [.ref 25] h 0 0 (iQ Q) := by
  exact WP.enter 0 (by decide) rfl rfl (r_Reader_nameRead_0 h H)
theorem d_Dusk_pass_0 : decode prog_4_method_5_code 0 = .ok (.iconst 0, 1) := by decide +kernel
theorem d_Dusk_pass_1 : decode prog_4_method_5_code 1 = .ok (.istore_n 3, 1) := by decide +kernel
theorem d_Dusk_pass_2 : decode prog_4_method_5_code 2 = .ok (.iload_n 3, 1) := by decide +kernel
theorem d_Dusk_pass_3 : decode prog_4_method_5_code 3 = .ok (.aload_n 0, 1) := by decide +kernel
theorem d_Dusk_pass_4 : decode prog_4_method_5_code 4 = .ok (.getfield 12, 3) := by decide +kernel
theorem d_Dusk_pass_7 : decode prog_4_method_5_code 7 = .ok (.getfield 61, 3) := by decide +kernel
theorem d_Dusk_pass_10 : decode prog_4_method_5_code 10 = .ok (.if_icmp .ge 61, 3) := by decide +kernel
theorem d_Dusk_pass_13 : decode prog_4_method_5_code 13 = .ok (.aload_n 0, 1) := by decide +kernel
theorem d_Dusk_pass_14 : decode prog_4_method_5_code 14 = .ok (.getfield 12, 3) := by decide +kernel
theorem d_Dusk_pass_17 : decode prog_4_method_5_code 17 = .ok (.getfield 65, 3) := by decide +kernel
theorem d_Dusk_pass_20 : decode prog_4_method_5_code 20 = .ok (.iload_n 3, 1) := by decide +kernel
theorem d_Dusk_pass_21 : decode prog_4_method_5_code 21 = .ok (.iaload, 1) := by decide +kernel
theorem d_Dusk_pass_22 : decode prog_4_method_5_code 22 = .ok (.iconst (-1), 1) := by decide +kernel
theorem d_Dusk_pass_23 : decode prog_4_method_5_code 23 = .ok (.if_icmp .ne 12, 3) := by decide +kernel
theorem d_Dusk_pass_26 : decode prog_4_method_5_code 26 = .ok (.aload_n 0, 1) := by decide +kernel
theorem d_Dusk_pass_27 : decode prog_4_method_5_code 27 = .ok (.iload_n 3, 1) := by decide +kernel
theorem d_Dusk_pass_28 : decode prog_4_method_5_code 28 = .ok (.iload_n 1, 1) := by decide +kernel
theorem d_Dusk_pass_29 : decode prog_4_method_5_code 29 = .ok (.invokevirtual 68, 3) := by decide +kernel
theorem d_Dusk_pass_32 : decode prog_4_method_5_code 32 = .ok (.goto 33, 3) := by decide +kernel
theorem d_Dusk_pass_35 : decode prog_4_method_5_code 35 = .ok (.aload_n 0, 1) := by decide +kernel
theorem d_Dusk_pass_36 : decode prog_4_method_5_code 36 = .ok (.getfield 12, 3) := by decide +kernel
theorem d_Dusk_pass_39 : decode prog_4_method_5_code 39 = .ok (.iload_n 3, 1) := by decide +kernel
theorem d_Dusk_pass_40 : decode prog_4_method_5_code 40 = .ok (.invokevirtual 71, 3) := by decide +kernel
theorem d_Dusk_pass_43 : decode prog_4_method_5_code 43 = .ok (.ifCond .eq 22, 3) := by decide +kernel
theorem d_Dusk_pass_46 : decode prog_4_method_5_code 46 = .ok (.aload_n 0, 1) := by decide +kernel
theorem d_Dusk_pass_47 : decode prog_4_method_5_code 47 = .ok (.iload_n 3, 1) := by decide +kernel
theorem d_Dusk_pass_48 : decode prog_4_method_5_code 48 = .ok (.iload_n 1, 1) := by decide +kernel
theorem d_Dusk_pass_49 : decode prog_4_method_5_code 49 = .ok (.iload_n 2, 1) := by decide +kernel
theorem d_Dusk_pass_50 : decode prog_4_method_5_code 50 = .ok (.iload_n 3, 1) := by decide +kernel
theorem d_Dusk_pass_51 : decode prog_4_method_5_code 51 = .ok (.ishr, 1) := by decide +kernel
theorem d_Dusk_pass_52 : decode prog_4_method_5_code 52 = .ok (.iconst 1, 1) := by decide +kernel
theorem d_Dusk_pass_53 : decode prog_4_method_5_code 53 = .ok (.iand, 1) := by decide +kernel
theorem d_Dusk_pass_54 : decode prog_4_method_5_code 54 = .ok (.ifCond .eq 7, 3) := by decide +kernel
theorem d_Dusk_pass_57 : decode prog_4_method_5_code 57 = .ok (.iconst 1, 1) := by decide +kernel
theorem d_Dusk_pass_58 : decode prog_4_method_5_code 58 = .ok (.goto 4, 3) := by decide +kernel
theorem d_Dusk_pass_61 : decode prog_4_method_5_code 61 = .ok (.iconst 0, 1) := by decide +kernel
theorem d_Dusk_pass_62 : decode prog_4_method_5_code 62 = .ok (.invokevirtual 74, 3) := by decide +kernel
theorem d_Dusk_pass_65 : decode prog_4_method_5_code 65 = .ok (.iinc 3 1, 3) := by decide +kernel
theorem d_Dusk_pass_68 : decode prog_4_method_5_code 68 = .ok (.goto (-66), 3) := by decide +kernel
theorem d_Dusk_pass_71 : decode prog_4_method_5_code 71 = .ok (.return_, 1) := by decide +kernel
def p_Dusk_pass_65 (Q : AH → Prop) (K2 : Int32 → Int32 → Int32 → AH → Prop) (x1 : Int32) (x2 : Int32) (x3 : Int32) (h : AH) : Prop := K2 x1 x2 (x3 + 1) h
def p_Dusk_pass_62 (Q : AH → Prop) (K2 : Int32 → Int32 → Int32 → AH → Prop) (x1 : Int32) (x2 : Int32) (x3 : Int32) (s1 : Int32) (s2 : Int32) (s3 : Int32) (h : AH) : Prop := p_Dusk_pair (fun h1 => p_Dusk_pass_65 Q  K2 x1 x2 x3 h1) s1 s2 s3 h
def p_Dusk_pass_2 (Q : AH → Prop) : Nat → Int32 → Int32 → Int32 → AH → Prop
  | 0 => fun _ _ _ _ => False
  | n + 1 => fun x1 x2 x3 h => let K2 := p_Dusk_pass_2 Q n; (((h.1 14 3) ≤ x3 → Q h) ∧ (¬ (h.1 14 3) ≤ x3 → inb x3 7 ∧ ((¬ (h.1 17 x3) = (-1) → p_Town_leads (fun r3 h2 => ((r3 = 0 → p_Dusk_pass_65 Q  K2 x1 x2 x3 h2) ∧ (¬ r3 = 0 → ((((x2 >>> (x3 &&& 31)) &&& 1) = 0 → p_Dusk_pass_62 Q  K2 x1 x2 x3 x3 x1 0 h2) ∧ (¬ ((x2 >>> (x3 &&& 31)) &&& 1) = 0 → p_Dusk_pass_62 Q  K2 x1 x2 x3 x3 x1 1 h2))))) 14 x3 h) ∧ ((h.1 17 x3) = (-1) → p_Dusk_alone (fun h4 => p_Dusk_pass_65 Q  K2 x1 x2 x3 h4) x3 x1 h))))
def p_Dusk_pass (Q : AH → Prop) (x1 : Int32) (x2 : Int32) (h : AH) : Prop := ∃ n, p_Dusk_pass_2 Q   n x1 x2 0 h
set_option maxRecDepth 20000 in
theorem r_Dusk_pass_65 {G : GG} {d : Nat} {Q : AH → Prop} {K2 : Int32 → Int32 → Int32 → AH → Prop} (k2 : ∀ x1 x2 x3 h, K2 x1 x2 x3 h → Att G T1 m_Dusk_pass (d + 5) 2 [some (.ref 13), some (.int x1), some (.int x2), some (.int x3)] [] h 0 0 (vQ Q)) (x1 : Int32) (x2 : Int32) (x3 : Int32) (h : AH) (H : p_Dusk_pass_65 Q K2 x1 x2 x3 h) : Att G T1 m_Dusk_pass (d + 5) 65 [some (.ref 13), some (.int x1), some (.int x2), some (.int x3)] [] h 0 0 (vQ Q) := by
  refine A_iinc 1 [some (.ref 13), some (.int x1), some (.int x2), some (.int (x3 + 1))] d_Dusk_pass_65 rfl (by decide) (by decide) rfl rfl ?_
  refine A_goto 2 d_Dusk_pass_68 (by decide) ?_
  exact k2 _ _ _ _ H
set_option maxRecDepth 20000 in
theorem r_Dusk_pass_62 {G : GG} {d : Nat} {Q : AH → Prop} {K2 : Int32 → Int32 → Int32 → AH → Prop} (k2 : ∀ x1 x2 x3 h, K2 x1 x2 x3 h → Att G T1 m_Dusk_pass (d + 5) 2 [some (.ref 13), some (.int x1), some (.int x2), some (.int x3)] [] h 0 0 (vQ Q)) (x1 : Int32) (x2 : Int32) (x3 : Int32) (s1 : Int32) (s2 : Int32) (s3 : Int32) (h : AH) (H : p_Dusk_pass_62 Q K2 x1 x2 x3 s1 s2 s3 h) : Att G T1 m_Dusk_pass (d + 5) 62 [some (.ref 13), some (.int x1), some (.int x2), some (.int x3)] [.int s3, .int s2, .int s1, .ref 13] h 0 0 (vQ Q) := by
  refine A_cV [.ref 13, .int s1, .int s2, .int s3] [] (ct_Dusk_74 rfl) d_Dusk_pass_62 rfl rfl (by decide) (Nat.le_of_ble_eq_true rfl) (rcA_o (c := 2) rfl (vA_s (by decide)) rfl (by decide) rfl) (ok_Dusk_pair (d := d) H) (fun h1 H => ?_)
  exact r_Dusk_pass_65  k2 _ _ _ _ H
set_option maxRecDepth 20000 in
theorem r_Dusk_pass_2 {G : GG} {d : Nat} {Q : AH → Prop} : ∀ (n : Nat) (x1 : Int32) (x2 : Int32) (x3 : Int32) (h : AH), p_Dusk_pass_2 Q n x1 x2 x3 h → Att G T1 m_Dusk_pass (d + 5) 2 [some (.ref 13), some (.int x1), some (.int x2), some (.int x3)] [] h 0 0 (vQ Q) := by
  intro n
  induction n with
  | zero => intro x1 x2 x3 h H; exact H.elim
  | succ n k2 =>
    intro x1 x2 x3 h H
    refine A_iload_n d_Dusk_pass_2 rfl ?_
    refine A_aload_n d_Dusk_pass_3 rfl ?_
    refine A_get (v := .ref 14) d_Dusk_pass_4 (fo_Dusk_12_2 rfl) (vA_s (by decide)) rfl rfl ?_
    refine A_get (v := .int (h.1 14 3)) d_Dusk_pass_7 (fo_Dusk_61_10 rfl) (vA_s (by decide)) rfl rfl ?_
    refine A_icmp_ge 71 d_Dusk_pass_10 (by decide) (fun z => ?_) (fun z => ?_)
    · have H := H.1 z
      exact A_ret d_Dusk_pass_71 rfl H
    · have H := H.2 z
      refine A_aload_n d_Dusk_pass_13 rfl ?_
      refine A_get (v := .ref 14) d_Dusk_pass_14 (fo_Dusk_12_2 rfl) (vA_s (by decide)) rfl rfl ?_
      refine A_get (v := .ref 17) d_Dusk_pass_17 (fo_Dusk_65_10 rfl) (vA_s (by decide)) rfl rfl ?_
      refine A_iload_n d_Dusk_pass_20 rfl ?_
      obtain ⟨c1, H⟩ := H
      refine A_iald (n := 7) d_Dusk_pass_21 (vA_s (by decide)) rfl c1 ?_
      refine A_iconst (-1) (by decide) d_Dusk_pass_22 ?_
      refine A_icmp_ne 35 d_Dusk_pass_23 (by decide) (fun z => ?_) (fun z => ?_)
      · have H := H.1 z
        refine A_aload_n d_Dusk_pass_35 rfl ?_
        refine A_get (v := .ref 14) d_Dusk_pass_36 (fo_Dusk_12_2 rfl) (vA_s (by decide)) rfl rfl ?_
        refine A_iload_n d_Dusk_pass_39 rfl ?_
        refine A_cI [.ref 14, .int x3] [] (ct_Dusk_71 rfl) d_Dusk_pass_40 rfl rfl (by decide) (Nat.le_of_ble_eq_true rfl) (rcA_o (c := 10) rfl (vA_s (by decide)) rfl (by decide) rfl) (ok_Town_leads (d := d + 4) H) (fun r3 h2 H => ?_)
        refine A_if_eq 65 d_Dusk_pass_43 (by decide) (fun z => ?_) (fun z => ?_)
        · have H := H.1 z
          exact r_Dusk_pass_65  k2 _ _ _ _ H
        · have H := H.2 z
          refine A_aload_n d_Dusk_pass_46 rfl ?_
          refine A_iload_n d_Dusk_pass_47 rfl ?_
          refine A_iload_n d_Dusk_pass_48 rfl ?_
          refine A_iload_n d_Dusk_pass_49 rfl ?_
          refine A_iload_n d_Dusk_pass_50 rfl ?_
          refine A_ishr d_Dusk_pass_51 ?_
          refine A_iconst 1 (by decide) d_Dusk_pass_52 ?_
          refine A_iand d_Dusk_pass_53 ?_
          refine A_if_eq 61 d_Dusk_pass_54 (by decide) (fun z => ?_) (fun z => ?_)
          · have H := H.1 z
            refine A_iconst 0 (by decide) d_Dusk_pass_61 ?_
            exact r_Dusk_pass_62  k2 _ _ _ _ _ _ _ H
          · have H := H.2 z
            refine A_iconst 1 (by decide) d_Dusk_pass_57 ?_
            refine A_goto 62 d_Dusk_pass_58 (by decide) ?_
            exact r_Dusk_pass_62  k2 _ _ _ _ _ _ _ H
      · have H := H.2 z
        refine A_aload_n d_Dusk_pass_26 rfl ?_
        refine A_iload_n d_Dusk_pass_27 rfl ?_
        refine A_iload_n d_Dusk_pass_28 rfl ?_
        refine A_cV [.ref 13, .int x3, .int x1] [] (ct_Dusk_68 rfl) d_Dusk_pass_29 rfl rfl (by decide) (Nat.le_of_ble_eq_true rfl) (rcA_o (c := 2) rfl (vA_s (by decide)) rfl (by decide) rfl) (ok_Dusk_alone (d := d) H) (fun h4 H => ?_)
        refine A_goto 65 d_Dusk_pass_32 (by decide) ?_
        exact r_Dusk_pass_65  k2 _ _ _ _ H
set_option maxRecDepth 20000 in
theorem r_Dusk_pass_0 {G : GG} {d : Nat} {Q : AH → Prop} (x1 : Int32) (x2 : Int32) (h : AH) (H : p_Dusk_pass Q x1 x2 h) : Att G T1 m_Dusk_pass (d + 5) 0 [some (.ref 13), some (.int x1), some (.int x2), none] [] h 0 0 (vQ Q) := by
  refine A_iconst 0 (by decide) d_Dusk_pass_0 ?_
  refine A_istore_n [some (.ref 13), some (.int x1), some (.int x2), some (.int 0)] d_Dusk_pass_1 (by decide) rfl rfl ?_
  obtain ⟨n9, H⟩ := H
  exact r_Dusk_pass_2   n9 _ _ _ _ H
set_option maxRecDepth 20000 in
theorem ok_Dusk_pass {G : GG} {d : Nat} {Q : AH → Prop} {x1 : Int32} {x2 : Int32} {h : AH} (H : p_Dusk_pass Q x1 x2 h) : WP G T1 m_Dusk_pass (d + 5) [.ref 13, .int x1, .int x2] h 0 0 (vQ Q) := by
  exact WP.enter 1 (by decide) rfl rfl (r_Dusk_pass_0 x1 x2 h H)
theorem d_MO_minute_0 : decode prog_14_method_42_code 0 = .ok (.iconst 0, 1) := by decide +kernel
theorem d_MO_minute_1 : decode prog_14_method_42_code 1 = .ok (.istore_n 2, 1) := by decide +kernel
theorem d_MO_minute_2 : decode prog_14_method_42_code 2 = .ok (.iload_n 2, 1) := by decide +kernel
theorem d_MO_minute_3 : decode prog_14_method_42_code 3 = .ok (.aload_n 0, 1) := by decide +kernel
theorem d_MO_minute_4 : decode prog_14_method_42_code 4 = .ok (.getfield 90, 3) := by decide +kernel
theorem d_MO_minute_7 : decode prog_14_method_42_code 7 = .ok (.if_icmp .ge 52, 3) := by decide +kernel
theorem d_MO_minute_10 : decode prog_14_method_42_code 10 = .ok (.aload_n 0, 1) := by decide +kernel
theorem d_MO_minute_11 : decode prog_14_method_42_code 11 = .ok (.getfield 25, 3) := by decide +kernel
theorem d_MO_minute_14 : decode prog_14_method_42_code 14 = .ok (.iload_n 2, 1) := by decide +kernel
theorem d_MO_minute_15 : decode prog_14_method_42_code 15 = .ok (.iaload, 1) := by decide +kernel
theorem d_MO_minute_16 : decode prog_14_method_42_code 16 = .ok (.iconst (-1), 1) := by decide +kernel
theorem d_MO_minute_17 : decode prog_14_method_42_code 17 = .ok (.if_icmp .ne 12, 3) := by decide +kernel
theorem d_MO_minute_20 : decode prog_14_method_42_code 20 = .ok (.aload_n 0, 1) := by decide +kernel
theorem d_MO_minute_21 : decode prog_14_method_42_code 21 = .ok (.iload_n 2, 1) := by decide +kernel
theorem d_MO_minute_22 : decode prog_14_method_42_code 22 = .ok (.iload_n 1, 1) := by decide +kernel
theorem d_MO_minute_23 : decode prog_14_method_42_code 23 = .ok (.invokevirtual 225, 3) := by decide +kernel
theorem d_MO_minute_26 : decode prog_14_method_42_code 26 = .ok (.goto 27, 3) := by decide +kernel
theorem d_MO_minute_29 : decode prog_14_method_42_code 29 = .ok (.aload_n 0, 1) := by decide +kernel
theorem d_MO_minute_30 : decode prog_14_method_42_code 30 = .ok (.iload_n 2, 1) := by decide +kernel
theorem d_MO_minute_31 : decode prog_14_method_42_code 31 = .ok (.invokevirtual 97, 3) := by decide +kernel
theorem d_MO_minute_34 : decode prog_14_method_42_code 34 = .ok (.ifCond .eq 19, 3) := by decide +kernel
theorem d_MO_minute_37 : decode prog_14_method_42_code 37 = .ok (.aload_n 0, 1) := by decide +kernel
theorem d_MO_minute_38 : decode prog_14_method_42_code 38 = .ok (.iload_n 2, 1) := by decide +kernel
theorem d_MO_minute_39 : decode prog_14_method_42_code 39 = .ok (.aload_n 0, 1) := by decide +kernel
theorem d_MO_minute_40 : decode prog_14_method_42_code 40 = .ok (.getfield 25, 3) := by decide +kernel
theorem d_MO_minute_43 : decode prog_14_method_42_code 43 = .ok (.iload_n 2, 1) := by decide +kernel
theorem d_MO_minute_44 : decode prog_14_method_42_code 44 = .ok (.iaload, 1) := by decide +kernel
theorem d_MO_minute_45 : decode prog_14_method_42_code 45 = .ok (.iload_n 1, 1) := by decide +kernel
theorem d_MO_minute_46 : decode prog_14_method_42_code 46 = .ok (.aload_n 0, 1) := by decide +kernel
theorem d_MO_minute_47 : decode prog_14_method_42_code 47 = .ok (.invokevirtual 228, 3) := by decide +kernel
theorem d_MO_minute_50 : decode prog_14_method_42_code 50 = .ok (.invokevirtual 231, 3) := by decide +kernel
theorem d_MO_minute_53 : decode prog_14_method_42_code 53 = .ok (.iinc 2 1, 3) := by decide +kernel
theorem d_MO_minute_56 : decode prog_14_method_42_code 56 = .ok (.goto (-54), 3) := by decide +kernel
theorem d_MO_minute_59 : decode prog_14_method_42_code 59 = .ok (.return_, 1) := by decide +kernel
def p_MO_minute_53 (Q : AH → Prop) (K2 : Int32 → Int32 → AH → Prop) (x1 : Int32) (x2 : Int32) (h : AH) : Prop := K2 x1 (x2 + 1) h
def p_MO_minute_2 (Q : AH → Prop) : Nat → Int32 → Int32 → AH → Prop
  | 0 => fun _ _ _ => False
  | n + 1 => fun x1 x2 h => let K2 := p_MO_minute_2 Q n; (((h.1 59 0) ≤ x2 → Q h) ∧ (¬ (h.1 59 0) ≤ x2 → inb x2 7 ∧ ((¬ (h.1 65 x2) = (-1) → p_MO_isLesser (fun r3 h2 => ((r3 = 0 → p_MO_minute_53 Q  K2 x1 x2 h2) ∧ (¬ r3 = 0 → inb x2 7 ∧ p_MO_catches (fun r6 h5 => p_MO_chained (fun h7 => p_MO_minute_53 Q  K2 x1 x2 h7) x2 (h2.1 65 x2) x1 r6 h5) h2))) x2 h) ∧ ((h.1 65 x2) = (-1) → p_MO_alone (fun h8 => p_MO_minute_53 Q  K2 x1 x2 h8) x2 x1 h))))
def p_MO_minute (Q : AH → Prop) (x1 : Int32) (h : AH) : Prop := ∃ n, p_MO_minute_2 Q   n x1 0 h
set_option maxRecDepth 20000 in
theorem r_MO_minute_53 {G : GG} {d : Nat} {Q : AH → Prop} {K2 : Int32 → Int32 → AH → Prop} (k2 : ∀ x1 x2 h, K2 x1 x2 h → Att G T1 m_MO_minute (d + 5) 2 [some (.ref 59), some (.int x1), some (.int x2)] [] h 0 0 (vQ Q)) (x1 : Int32) (x2 : Int32) (h : AH) (H : p_MO_minute_53 Q K2 x1 x2 h) : Att G T1 m_MO_minute (d + 5) 53 [some (.ref 59), some (.int x1), some (.int x2)] [] h 0 0 (vQ Q) := by
  refine A_iinc 1 [some (.ref 59), some (.int x1), some (.int (x2 + 1))] d_MO_minute_53 rfl (by decide) (by decide) rfl rfl ?_
  refine A_goto 2 d_MO_minute_56 (by decide) ?_
  exact k2 _ _ _ H
set_option maxRecDepth 20000 in
theorem r_MO_minute_2 {G : GG} {d : Nat} {Q : AH → Prop} : ∀ (n : Nat) (x1 : Int32) (x2 : Int32) (h : AH), p_MO_minute_2 Q n x1 x2 h → Att G T1 m_MO_minute (d + 5) 2 [some (.ref 59), some (.int x1), some (.int x2)] [] h 0 0 (vQ Q) := by
  intro n
  induction n with
  | zero => intro x1 x2 h H; exact H.elim
  | succ n k2 =>
    intro x1 x2 h H
    refine A_iload_n d_MO_minute_2 rfl ?_
    refine A_aload_n d_MO_minute_3 rfl ?_
    refine A_get (v := .int (h.1 59 0)) d_MO_minute_4 (fo_MO_90_12 rfl) (vA_s (by decide)) rfl rfl ?_
    refine A_icmp_ge 59 d_MO_minute_7 (by decide) (fun z => ?_) (fun z => ?_)
    · have H := H.1 z
      exact A_ret d_MO_minute_59 rfl H
    · have H := H.2 z
      refine A_aload_n d_MO_minute_10 rfl ?_
      refine A_get (v := .ref 65) d_MO_minute_11 (fo_MO_25_12 rfl) (vA_s (by decide)) rfl rfl ?_
      refine A_iload_n d_MO_minute_14 rfl ?_
      obtain ⟨c1, H⟩ := H
      refine A_iald (n := 7) d_MO_minute_15 (vA_s (by decide)) rfl c1 ?_
      refine A_iconst (-1) (by decide) d_MO_minute_16 ?_
      refine A_icmp_ne 29 d_MO_minute_17 (by decide) (fun z => ?_) (fun z => ?_)
      · have H := H.1 z
        refine A_aload_n d_MO_minute_29 rfl ?_
        refine A_iload_n d_MO_minute_30 rfl ?_
        refine A_cI [.ref 59, .int x2] [] (ct_MO_97 rfl) d_MO_minute_31 rfl rfl (by decide) (Nat.le_of_ble_eq_true rfl) (rcA_o (c := 12) rfl (vA_s (by decide)) rfl (by decide) rfl) (ok_MO_isLesser (d := d + 4) H) (fun r3 h2 H => ?_)
        refine A_if_eq 53 d_MO_minute_34 (by decide) (fun z => ?_) (fun z => ?_)
        · have H := H.1 z
          exact r_MO_minute_53  k2 _ _ _ H
        · have H := H.2 z
          refine A_aload_n d_MO_minute_37 rfl ?_
          refine A_iload_n d_MO_minute_38 rfl ?_
          refine A_aload_n d_MO_minute_39 rfl ?_
          refine A_get (v := .ref 65) d_MO_minute_40 (fo_MO_25_12 rfl) (vA_s (by decide)) rfl rfl ?_
          refine A_iload_n d_MO_minute_43 rfl ?_
          obtain ⟨c4, H⟩ := H
          refine A_iald (n := 7) d_MO_minute_44 (vA_s (by decide)) rfl c4 ?_
          refine A_iload_n d_MO_minute_45 rfl ?_
          refine A_aload_n d_MO_minute_46 rfl ?_
          refine A_cI [.ref 59] [.int x1, .int (h2.1 65 x2), .int x2, .ref 59] (ct_MO_228 rfl) d_MO_minute_47 rfl rfl (by decide) (Nat.le_of_ble_eq_true rfl) (rcA_o (c := 12) rfl (vA_s (by decide)) rfl (by decide) rfl) (ok_MO_catches (d := d + 4) H) (fun r6 h5 H => ?_)
          refine A_cV [.ref 59, .int x2, .int (h2.1 65 x2), .int x1, .int r6] [] (ct_MO_231 rfl) d_MO_minute_50 rfl rfl (by decide) (Nat.le_of_ble_eq_true rfl) (rcA_o (c := 12) rfl (vA_s (by decide)) rfl (by decide) rfl) (ok_MO_chained (d := d) H) (fun h7 H => ?_)
          exact r_MO_minute_53  k2 _ _ _ H
      · have H := H.2 z
        refine A_aload_n d_MO_minute_20 rfl ?_
        refine A_iload_n d_MO_minute_21 rfl ?_
        refine A_iload_n d_MO_minute_22 rfl ?_
        refine A_cV [.ref 59, .int x2, .int x1] [] (ct_MO_225 rfl) d_MO_minute_23 rfl rfl (by decide) (Nat.le_of_ble_eq_true rfl) (rcA_o (c := 12) rfl (vA_s (by decide)) rfl (by decide) rfl) (ok_MO_alone (d := d) H) (fun h8 H => ?_)
        refine A_goto 53 d_MO_minute_26 (by decide) ?_
        exact r_MO_minute_53  k2 _ _ _ H
set_option maxRecDepth 20000 in
theorem r_MO_minute_0 {G : GG} {d : Nat} {Q : AH → Prop} (x1 : Int32) (h : AH) (H : p_MO_minute Q x1 h) : Att G T1 m_MO_minute (d + 5) 0 [some (.ref 59), some (.int x1), none] [] h 0 0 (vQ Q) := by
  refine A_iconst 0 (by decide) d_MO_minute_0 ?_
  refine A_istore_n [some (.ref 59), some (.int x1), some (.int 0)] d_MO_minute_1 (by decide) rfl rfl ?_
  obtain ⟨n9, H⟩ := H
  exact r_MO_minute_2   n9 _ _ _ H
set_option maxRecDepth 20000 in
theorem ok_MO_minute {G : GG} {d : Nat} {Q : AH → Prop} {x1 : Int32} {h : AH} (H : p_MO_minute Q x1 h) : WP G T1 m_MO_minute (d + 5) [.ref 59, .int x1] h 0 0 (vQ Q) := by
  exact WP.enter 1 (by decide) rfl rfl (r_MO_minute_0 x1 h H)
theorem d_Reader_word_0 : decode prog_9_method_12_code 0 = .ok (.aload_n 0, 1) := by decide +kernel
theorem d_Reader_word_1 : decode prog_9_method_12_code 1 = .ok (.getfield 34, 3) := by decide +kernel
theorem d_Reader_word_4 : decode prog_9_method_12_code 4 = .ok (.aload_n 0, 1) := by decide +kernel
theorem d_Reader_word_5 : decode prog_9_method_12_code 5 = .ok (.getfield 21, 3) := by decide +kernel
theorem d_Reader_word_8 : decode prog_9_method_12_code 8 = .ok (.if_icmp .ge 31, 3) := by decide +kernel
theorem d_Reader_word_11 : decode prog_9_method_12_code 11 = .ok (.aload_n 0, 1) := by decide +kernel
theorem d_Reader_word_12 : decode prog_9_method_12_code 12 = .ok (.getfield 9, 3) := by decide +kernel
theorem d_Reader_word_15 : decode prog_9_method_12_code 15 = .ok (.aload_n 0, 1) := by decide +kernel
theorem d_Reader_word_16 : decode prog_9_method_12_code 16 = .ok (.getfield 34, 3) := by decide +kernel
theorem d_Reader_word_19 : decode prog_9_method_12_code 19 = .ok (.iaload, 1) := by decide +kernel
theorem d_Reader_word_20 : decode prog_9_method_12_code 20 = .ok (.invokestatic 84, 3) := by decide +kernel
theorem d_Reader_word_23 : decode prog_9_method_12_code 23 = .ok (.ifCond .eq 16, 3) := by decide +kernel
theorem d_Reader_word_26 : decode prog_9_method_12_code 26 = .ok (.aload_n 0, 1) := by decide +kernel
theorem d_Reader_word_27 : decode prog_9_method_12_code 27 = .ok (.dup, 1) := by decide +kernel
theorem d_Reader_word_28 : decode prog_9_method_12_code 28 = .ok (.getfield 34, 3) := by decide +kernel
theorem d_Reader_word_31 : decode prog_9_method_12_code 31 = .ok (.iconst 1, 1) := by decide +kernel
theorem d_Reader_word_32 : decode prog_9_method_12_code 32 = .ok (.iadd, 1) := by decide +kernel
theorem d_Reader_word_33 : decode prog_9_method_12_code 33 = .ok (.putfield 34, 3) := by decide +kernel
theorem d_Reader_word_36 : decode prog_9_method_12_code 36 = .ok (.goto (-36), 3) := by decide +kernel
theorem d_Reader_word_39 : decode prog_9_method_12_code 39 = .ok (.aload_n 0, 1) := by decide +kernel
theorem d_Reader_word_40 : decode prog_9_method_12_code 40 = .ok (.ldc 99, 2) := by decide +kernel
theorem d_Reader_word_42 : decode prog_9_method_12_code 42 = .ok (.invokevirtual 101, 3) := by decide +kernel
theorem d_Reader_word_45 : decode prog_9_method_12_code 45 = .ok (.ifCond .eq 12, 3) := by decide +kernel
theorem d_Reader_word_48 : decode prog_9_method_12_code 48 = .ok (.aload_n 0, 1) := by decide +kernel
theorem d_Reader_word_49 : decode prog_9_method_12_code 49 = .ok (.bipush 7, 2) := by decide +kernel
theorem d_Reader_word_51 : decode prog_9_method_12_code 51 = .ok (.putfield 53, 3) := by decide +kernel
theorem d_Reader_word_54 : decode prog_9_method_12_code 54 = .ok (.goto 116, 3) := by decide +kernel
theorem d_Reader_word_57 : decode prog_9_method_12_code 57 = .ok (.aload_n 0, 1) := by decide +kernel
theorem d_Reader_word_58 : decode prog_9_method_12_code 58 = .ok (.ldc 105, 2) := by decide +kernel
theorem d_Reader_word_60 : decode prog_9_method_12_code 60 = .ok (.invokevirtual 101, 3) := by decide +kernel
theorem d_Reader_word_63 : decode prog_9_method_12_code 63 = .ok (.ifCond .eq 12, 3) := by decide +kernel
theorem d_Reader_word_66 : decode prog_9_method_12_code 66 = .ok (.aload_n 0, 1) := by decide +kernel
theorem d_Reader_word_67 : decode prog_9_method_12_code 67 = .ok (.bipush 8, 2) := by decide +kernel
theorem d_Reader_word_69 : decode prog_9_method_12_code 69 = .ok (.putfield 53, 3) := by decide +kernel
theorem d_Reader_word_72 : decode prog_9_method_12_code 72 = .ok (.goto 98, 3) := by decide +kernel
theorem d_Reader_word_75 : decode prog_9_method_12_code 75 = .ok (.aload_n 0, 1) := by decide +kernel
theorem d_Reader_word_76 : decode prog_9_method_12_code 76 = .ok (.ldc 107, 2) := by decide +kernel
theorem d_Reader_word_78 : decode prog_9_method_12_code 78 = .ok (.invokevirtual 101, 3) := by decide +kernel
theorem d_Reader_word_81 : decode prog_9_method_12_code 81 = .ok (.ifCond .eq 12, 3) := by decide +kernel
theorem d_Reader_word_84 : decode prog_9_method_12_code 84 = .ok (.aload_n 0, 1) := by decide +kernel
theorem d_Reader_word_85 : decode prog_9_method_12_code 85 = .ok (.bipush 9, 2) := by decide +kernel
theorem d_Reader_word_87 : decode prog_9_method_12_code 87 = .ok (.putfield 53, 3) := by decide +kernel
theorem d_Reader_word_90 : decode prog_9_method_12_code 90 = .ok (.goto 80, 3) := by decide +kernel
theorem d_Reader_word_93 : decode prog_9_method_12_code 93 = .ok (.aload_n 0, 1) := by decide +kernel
theorem d_Reader_word_94 : decode prog_9_method_12_code 94 = .ok (.ldc 109, 2) := by decide +kernel
theorem d_Reader_word_96 : decode prog_9_method_12_code 96 = .ok (.invokevirtual 101, 3) := by decide +kernel
theorem d_Reader_word_99 : decode prog_9_method_12_code 99 = .ok (.ifCond .eq 11, 3) := by decide +kernel
theorem d_Reader_word_102 : decode prog_9_method_12_code 102 = .ok (.aload_n 0, 1) := by decide +kernel
theorem d_Reader_word_103 : decode prog_9_method_12_code 103 = .ok (.iconst 4, 1) := by decide +kernel
theorem d_Reader_word_104 : decode prog_9_method_12_code 104 = .ok (.putfield 53, 3) := by decide +kernel
theorem d_Reader_word_107 : decode prog_9_method_12_code 107 = .ok (.goto 63, 3) := by decide +kernel
theorem d_Reader_word_110 : decode prog_9_method_12_code 110 = .ok (.aload_n 0, 1) := by decide +kernel
theorem d_Reader_word_111 : decode prog_9_method_12_code 111 = .ok (.ldc 111, 2) := by decide +kernel
theorem d_Reader_word_113 : decode prog_9_method_12_code 113 = .ok (.invokevirtual 101, 3) := by decide +kernel
theorem d_Reader_word_116 : decode prog_9_method_12_code 116 = .ok (.ifCond .eq 11, 3) := by decide +kernel
theorem d_Reader_word_119 : decode prog_9_method_12_code 119 = .ok (.aload_n 0, 1) := by decide +kernel
theorem d_Reader_word_120 : decode prog_9_method_12_code 120 = .ok (.iconst 5, 1) := by decide +kernel
theorem d_Reader_word_121 : decode prog_9_method_12_code 121 = .ok (.putfield 53, 3) := by decide +kernel
theorem d_Reader_word_124 : decode prog_9_method_12_code 124 = .ok (.goto 46, 3) := by decide +kernel
theorem d_Reader_word_127 : decode prog_9_method_12_code 127 = .ok (.aload_n 0, 1) := by decide +kernel
theorem d_Reader_word_128 : decode prog_9_method_12_code 128 = .ok (.ldc 113, 2) := by decide +kernel
theorem d_Reader_word_130 : decode prog_9_method_12_code 130 = .ok (.invokevirtual 101, 3) := by decide +kernel
theorem d_Reader_word_133 : decode prog_9_method_12_code 133 = .ok (.ifCond .eq 12, 3) := by decide +kernel
theorem d_Reader_word_136 : decode prog_9_method_12_code 136 = .ok (.aload_n 0, 1) := by decide +kernel
theorem d_Reader_word_137 : decode prog_9_method_12_code 137 = .ok (.bipush 6, 2) := by decide +kernel
theorem d_Reader_word_139 : decode prog_9_method_12_code 139 = .ok (.putfield 53, 3) := by decide +kernel
theorem d_Reader_word_142 : decode prog_9_method_12_code 142 = .ok (.goto 28, 3) := by decide +kernel
theorem d_Reader_word_145 : decode prog_9_method_12_code 145 = .ok (.aload_n 0, 1) := by decide +kernel
theorem d_Reader_word_146 : decode prog_9_method_12_code 146 = .ok (.aload_n 0, 1) := by decide +kernel
theorem d_Reader_word_147 : decode prog_9_method_12_code 147 = .ok (.invokevirtual 115, 3) := by decide +kernel
theorem d_Reader_word_150 : decode prog_9_method_12_code 150 = .ok (.putfield 78, 3) := by decide +kernel
theorem d_Reader_word_153 : decode prog_9_method_12_code 153 = .ok (.aload_n 0, 1) := by decide +kernel
theorem d_Reader_word_154 : decode prog_9_method_12_code 154 = .ok (.aload_n 0, 1) := by decide +kernel
theorem d_Reader_word_155 : decode prog_9_method_12_code 155 = .ok (.getfield 78, 3) := by decide +kernel
theorem d_Reader_word_158 : decode prog_9_method_12_code 158 = .ok (.iconst (-1), 1) := by decide +kernel
theorem d_Reader_word_159 : decode prog_9_method_12_code 159 = .ok (.if_icmp .ne 7, 3) := by decide +kernel
theorem d_Reader_word_162 : decode prog_9_method_12_code 162 = .ok (.iconst 1, 1) := by decide +kernel
theorem d_Reader_word_163 : decode prog_9_method_12_code 163 = .ok (.goto 4, 3) := by decide +kernel
theorem d_Reader_word_166 : decode prog_9_method_12_code 166 = .ok (.iconst 3, 1) := by decide +kernel
theorem d_Reader_word_167 : decode prog_9_method_12_code 167 = .ok (.putfield 53, 3) := by decide +kernel
theorem d_Reader_word_170 : decode prog_9_method_12_code 170 = .ok (.return_, 1) := by decide +kernel
def p_Reader_word_39 (Q : AH → Prop) (h : AH) : Prop := p_Reader_isWord (fun r2 h1 => ((r2 = 0 → p_Reader_isWord (fun r4 h3 => ((r4 = 0 → p_Reader_isWord (fun r6 h5 => ((r6 = 0 → p_Reader_isWord (fun r8 h7 => ((r8 = 0 → p_Reader_isWord (fun r10 h9 => ((r10 = 0 → p_Reader_isWord (fun r12 h11 => ((r12 = 0 → p_Reader_nameRead (fun r14 h13 => ((¬ ((wI h13 25 6 r14).1 25 6) = (-1) → Q (wI (wI h13 25 6 r14) 25 5 3)) ∧ (((wI h13 25 6 r14).1 25 6) = (-1) → Q (wI (wI h13 25 6 r14) 25 5 1)))) h11) ∧ (¬ r12 = 0 → Q (wI h11 25 5 6)))) (1000000 + 6) h9) ∧ (¬ r10 = 0 → Q (wI h9 25 5 5)))) (1000000 + 5) h7) ∧ (¬ r8 = 0 → Q (wI h7 25 5 4)))) (1000000 + 4) h5) ∧ (¬ r6 = 0 → Q (wI h5 25 5 9)))) (1000000 + 3) h3) ∧ (¬ r4 = 0 → Q (wI h3 25 5 8)))) (1000000 + 2) h1) ∧ (¬ r2 = 0 → Q (wI h1 25 5 7)))) (1000000 + 1) h
def p_Reader_word_0 (Q : AH → Prop) : Nat → AH → Prop
  | 0 => fun  _ => False
  | n + 1 => fun h => let K0 := p_Reader_word_0 Q n; (((h.1 25 1) ≤ (h.1 25 3) → p_Reader_word_39 Q   h) ∧ (¬ (h.1 25 1) ≤ (h.1 25 3) → 0 < rR T1 h 25 0 ∧ vA T1 h (rR T1 h 25 0 - 1) ∧ (rS T1 h (rR T1 h 25 0 - 1)).1 = 100 ∧ inb (h.1 25 3) ((rS T1 h (rR T1 h 25 0 - 1)).2) ∧ p_Reader_isLetter (fun r6 h5 => ((r6 = 0 → p_Reader_word_39 Q   h5) ∧ (¬ r6 = 0 → K0 (wI h5 25 3 ((h5.1 25 3) + 1))))) (h.1 (rR T1 h 25 0 - 1) (h.1 25 3)) h))
def p_Reader_word (Q : AH → Prop) (h : AH) : Prop := ∃ n, p_Reader_word_0 Q   n h
set_option maxRecDepth 20000 in
theorem r_Reader_word_39 {G : GG} {d : Nat} {Q : AH → Prop} (h : AH) (H : p_Reader_word_39 Q h) : Att G T1 m_Reader_word (d + 6) 39 [some (.ref 25)] [] h 0 0 (vQ Q) := by
  refine A_aload_n d_Reader_word_39 rfl ?_
  refine A_ldcS 1 d_Reader_word_40 rfl rfl ?_
  refine A_cI [.ref 25, .ref (1000000 + 1)] [] (ct_Reader_101 rfl) d_Reader_word_42 rfl rfl (by decide) (Nat.le_of_ble_eq_true rfl) (rcA_o (c := 7) rfl (vA_s (by decide)) rfl (by decide) rfl) (ok_Reader_isWord (d := d + 1) H) (fun r2 h1 H => ?_)
  refine A_if_eq 57 d_Reader_word_45 (by decide) (fun z => ?_) (fun z => ?_)
  · have H := H.1 z
    refine A_aload_n d_Reader_word_57 rfl ?_
    refine A_ldcS 2 d_Reader_word_58 rfl rfl ?_
    refine A_cI [.ref 25, .ref (1000000 + 2)] [] (ct_Reader_101 rfl) d_Reader_word_60 rfl rfl (by decide) (Nat.le_of_ble_eq_true rfl) (rcA_o (c := 7) rfl (vA_s (by decide)) rfl (by decide) rfl) (ok_Reader_isWord (d := d + 1) H) (fun r4 h3 H => ?_)
    refine A_if_eq 75 d_Reader_word_63 (by decide) (fun z => ?_) (fun z => ?_)
    · have H := H.1 z
      refine A_aload_n d_Reader_word_75 rfl ?_
      refine A_ldcS 3 d_Reader_word_76 rfl rfl ?_
      refine A_cI [.ref 25, .ref (1000000 + 3)] [] (ct_Reader_101 rfl) d_Reader_word_78 rfl rfl (by decide) (Nat.le_of_ble_eq_true rfl) (rcA_o (c := 7) rfl (vA_s (by decide)) rfl (by decide) rfl) (ok_Reader_isWord (d := d + 1) H) (fun r6 h5 H => ?_)
      refine A_if_eq 93 d_Reader_word_81 (by decide) (fun z => ?_) (fun z => ?_)
      · have H := H.1 z
        refine A_aload_n d_Reader_word_93 rfl ?_
        refine A_ldcS 4 d_Reader_word_94 rfl rfl ?_
        refine A_cI [.ref 25, .ref (1000000 + 4)] [] (ct_Reader_101 rfl) d_Reader_word_96 rfl rfl (by decide) (Nat.le_of_ble_eq_true rfl) (rcA_o (c := 7) rfl (vA_s (by decide)) rfl (by decide) rfl) (ok_Reader_isWord (d := d + 1) H) (fun r8 h7 H => ?_)
        refine A_if_eq 110 d_Reader_word_99 (by decide) (fun z => ?_) (fun z => ?_)
        · have H := H.1 z
          refine A_aload_n d_Reader_word_110 rfl ?_
          refine A_ldcS 5 d_Reader_word_111 rfl rfl ?_
          refine A_cI [.ref 25, .ref (1000000 + 5)] [] (ct_Reader_101 rfl) d_Reader_word_113 rfl rfl (by decide) (Nat.le_of_ble_eq_true rfl) (rcA_o (c := 7) rfl (vA_s (by decide)) rfl (by decide) rfl) (ok_Reader_isWord (d := d + 1) H) (fun r10 h9 H => ?_)
          refine A_if_eq 127 d_Reader_word_116 (by decide) (fun z => ?_) (fun z => ?_)
          · have H := H.1 z
            refine A_aload_n d_Reader_word_127 rfl ?_
            refine A_ldcS 6 d_Reader_word_128 rfl rfl ?_
            refine A_cI [.ref 25, .ref (1000000 + 6)] [] (ct_Reader_101 rfl) d_Reader_word_130 rfl rfl (by decide) (Nat.le_of_ble_eq_true rfl) (rcA_o (c := 7) rfl (vA_s (by decide)) rfl (by decide) rfl) (ok_Reader_isWord (d := d + 1) H) (fun r12 h11 H => ?_)
            refine A_if_eq 145 d_Reader_word_133 (by decide) (fun z => ?_) (fun z => ?_)
            · have H := H.1 z
              refine A_aload_n d_Reader_word_145 rfl ?_
              refine A_aload_n d_Reader_word_146 rfl ?_
              refine A_cI [.ref 25] [.ref 25] (ct_Reader_115 rfl) d_Reader_word_147 rfl rfl (by decide) (Nat.le_of_ble_eq_true rfl) (rcA_o (c := 7) rfl (vA_s (by decide)) rfl (by decide) rfl) (ok_Reader_nameRead (d := d) H) (fun r14 h13 H => ?_)
              refine A_putI (k := 6) d_Reader_word_150 (fo_Reader_78_7 rfl) (Or.inr ⟨rfl, _, ft_7_6⟩) (fun z => by cases z) rfl (vA_s (by decide)) rfl rfl rfl ?_
              refine A_aload_n d_Reader_word_153 rfl ?_
              refine A_aload_n d_Reader_word_154 rfl ?_
              refine A_get (v := .int ((wI h13 25 6 r14).1 25 6)) d_Reader_word_155 (fo_Reader_78_7 rfl) (vA_s (by decide)) rfl rfl ?_
              refine A_iconst (-1) (by decide) d_Reader_word_158 ?_
              refine A_icmp_ne 166 d_Reader_word_159 (by decide) (fun z => ?_) (fun z => ?_)
              · have H := H.1 z
                refine A_iconst 3 (by decide) d_Reader_word_166 ?_
                refine A_putI (k := 5) d_Reader_word_167 (fo_Reader_53_7 rfl) (Or.inr ⟨rfl, _, ft_7_5⟩) (fun z => by cases z) rfl (vA_s (by decide)) rfl rfl rfl ?_
                exact A_ret d_Reader_word_170 rfl H
              · have H := H.2 z
                refine A_iconst 1 (by decide) d_Reader_word_162 ?_
                refine A_goto 167 d_Reader_word_163 (by decide) ?_
                refine A_putI (k := 5) d_Reader_word_167 (fo_Reader_53_7 rfl) (Or.inr ⟨rfl, _, ft_7_5⟩) (fun z => by cases z) rfl (vA_s (by decide)) rfl rfl rfl ?_
                exact A_ret d_Reader_word_170 rfl H
            · have H := H.2 z
              refine A_aload_n d_Reader_word_136 rfl ?_
              refine A_bipush 6 (by decide) d_Reader_word_137 ?_
              refine A_putI (k := 5) d_Reader_word_139 (fo_Reader_53_7 rfl) (Or.inr ⟨rfl, _, ft_7_5⟩) (fun z => by cases z) rfl (vA_s (by decide)) rfl rfl rfl ?_
              refine A_goto 170 d_Reader_word_142 (by decide) ?_
              exact A_ret d_Reader_word_170 rfl H
          · have H := H.2 z
            refine A_aload_n d_Reader_word_119 rfl ?_
            refine A_iconst 5 (by decide) d_Reader_word_120 ?_
            refine A_putI (k := 5) d_Reader_word_121 (fo_Reader_53_7 rfl) (Or.inr ⟨rfl, _, ft_7_5⟩) (fun z => by cases z) rfl (vA_s (by decide)) rfl rfl rfl ?_
            refine A_goto 170 d_Reader_word_124 (by decide) ?_
            exact A_ret d_Reader_word_170 rfl H
        · have H := H.2 z
          refine A_aload_n d_Reader_word_102 rfl ?_
          refine A_iconst 4 (by decide) d_Reader_word_103 ?_
          refine A_putI (k := 5) d_Reader_word_104 (fo_Reader_53_7 rfl) (Or.inr ⟨rfl, _, ft_7_5⟩) (fun z => by cases z) rfl (vA_s (by decide)) rfl rfl rfl ?_
          refine A_goto 170 d_Reader_word_107 (by decide) ?_
          exact A_ret d_Reader_word_170 rfl H
      · have H := H.2 z
        refine A_aload_n d_Reader_word_84 rfl ?_
        refine A_bipush 9 (by decide) d_Reader_word_85 ?_
        refine A_putI (k := 5) d_Reader_word_87 (fo_Reader_53_7 rfl) (Or.inr ⟨rfl, _, ft_7_5⟩) (fun z => by cases z) rfl (vA_s (by decide)) rfl rfl rfl ?_
        refine A_goto 170 d_Reader_word_90 (by decide) ?_
        exact A_ret d_Reader_word_170 rfl H
    · have H := H.2 z
      refine A_aload_n d_Reader_word_66 rfl ?_
      refine A_bipush 8 (by decide) d_Reader_word_67 ?_
      refine A_putI (k := 5) d_Reader_word_69 (fo_Reader_53_7 rfl) (Or.inr ⟨rfl, _, ft_7_5⟩) (fun z => by cases z) rfl (vA_s (by decide)) rfl rfl rfl ?_
      refine A_goto 170 d_Reader_word_72 (by decide) ?_
      exact A_ret d_Reader_word_170 rfl H
  · have H := H.2 z
    refine A_aload_n d_Reader_word_48 rfl ?_
    refine A_bipush 7 (by decide) d_Reader_word_49 ?_
    refine A_putI (k := 5) d_Reader_word_51 (fo_Reader_53_7 rfl) (Or.inr ⟨rfl, _, ft_7_5⟩) (fun z => by cases z) rfl (vA_s (by decide)) rfl rfl rfl ?_
    refine A_goto 170 d_Reader_word_54 (by decide) ?_
    exact A_ret d_Reader_word_170 rfl H
set_option maxRecDepth 20000 in
theorem r_Reader_word_0 {G : GG} {d : Nat} {Q : AH → Prop} : ∀ (n : Nat) (h : AH), p_Reader_word_0 Q n h → Att G T1 m_Reader_word (d + 6) 0 [some (.ref 25)] [] h 0 0 (vQ Q) := by
  intro n
  induction n with
  | zero => intro h H; exact H.elim
  | succ n k0 =>
    intro h H
    refine A_aload_n d_Reader_word_0 rfl ?_
    refine A_get (v := .int (h.1 25 3)) d_Reader_word_1 (fo_Reader_34_7 rfl) (vA_s (by decide)) rfl rfl ?_
    refine A_aload_n d_Reader_word_4 rfl ?_
    refine A_get (v := .int (h.1 25 1)) d_Reader_word_5 (fo_Reader_21_7 rfl) (vA_s (by decide)) rfl rfl ?_
    refine A_icmp_ge 39 d_Reader_word_8 (by decide) (fun z => ?_) (fun z => ?_)
    · have H := H.1 z
      exact r_Reader_word_39   _ H
    · have H := H.2 z
      refine A_aload_n d_Reader_word_11 rfl ?_
      obtain ⟨c1, H⟩ := H
      refine A_get (v := .ref (rR T1 h 25 0 - 1)) d_Reader_word_12 (fo_Reader_9_7 rfl) (vA_s (by decide)) rfl (vR_pos c1) ?_
      refine A_aload_n d_Reader_word_15 rfl ?_
      refine A_get (v := .int (h.1 25 3)) d_Reader_word_16 (fo_Reader_34_7 rfl) (vA_s (by decide)) rfl rfl ?_
      obtain ⟨c2, H⟩ := H
      obtain ⟨c3, H⟩ := H
      obtain ⟨c4, H⟩ := H
      refine A_iald (n := _) d_Reader_word_19 c2 (rS_ex c3) c4 ?_
      refine A_cI [.int (h.1 (rR T1 h 25 0 - 1) (h.1 25 3))] [] (ct_Reader_84 rfl) d_Reader_word_20 rfl rfl (by decide) (Nat.le_of_ble_eq_true rfl) trivial (ok_Reader_isLetter (d := d + 4) H) (fun r6 h5 H => ?_)
      refine A_if_eq 39 d_Reader_word_23 (by decide) (fun z => ?_) (fun z => ?_)
      · have H := H.1 z
        exact r_Reader_word_39   _ H
      · have H := H.2 z
        refine A_aload_n d_Reader_word_26 rfl ?_
        refine A_dup rfl d_Reader_word_27 ?_
        refine A_get (v := .int (h5.1 25 3)) d_Reader_word_28 (fo_Reader_34_7 rfl) (vA_s (by decide)) rfl rfl ?_
        refine A_iconst 1 (by decide) d_Reader_word_31 ?_
        refine A_iadd d_Reader_word_32 ?_
        refine A_putI (k := 3) d_Reader_word_33 (fo_Reader_34_7 rfl) (Or.inr ⟨rfl, _, ft_7_3⟩) (fun z => by cases z) rfl (vA_s (by decide)) rfl rfl rfl ?_
        refine A_goto 0 d_Reader_word_36 (by decide) ?_
        exact k0 _ H
set_option maxRecDepth 20000 in
theorem r_Reader_word_e {G : GG} {d : Nat} {Q : AH → Prop} (h : AH) (H : p_Reader_word Q h) : Att G T1 m_Reader_word (d + 6) 0 [some (.ref 25)] [] h 0 0 (vQ Q) := by
  obtain ⟨n9, H⟩ := H
  exact r_Reader_word_0   n9 _ H
set_option maxRecDepth 20000 in
theorem ok_Reader_word {G : GG} {d : Nat} {Q : AH → Prop} {h : AH} (H : p_Reader_word Q h) : WP G T1 m_Reader_word (d + 6) [.ref 25] h 0 0 (vQ Q) := by
  exact WP.enter 0 (by decide) rfl rfl (r_Reader_word_e h H)
theorem d_Dusk_go_0 : decode prog_4_method_3_code 0 = .ok (.iconst 0, 1) := by decide +kernel
theorem d_Dusk_go_1 : decode prog_4_method_3_code 1 = .ok (.istore_n 2, 1) := by decide +kernel
theorem d_Dusk_go_2 : decode prog_4_method_3_code 2 = .ok (.iload_n 2, 1) := by decide +kernel
theorem d_Dusk_go_3 : decode prog_4_method_3_code 3 = .ok (.iload_n 1, 1) := by decide +kernel
theorem d_Dusk_go_4 : decode prog_4_method_3_code 4 = .ok (.if_icmp .ge 15, 3) := by decide +kernel
theorem d_Dusk_go_7 : decode prog_4_method_3_code 7 = .ok (.aload_n 0, 1) := by decide +kernel
theorem d_Dusk_go_8 : decode prog_4_method_3_code 8 = .ok (.iload_n 2, 1) := by decide +kernel
theorem d_Dusk_go_9 : decode prog_4_method_3_code 9 = .ok (.iconst 0, 1) := by decide +kernel
theorem d_Dusk_go_10 : decode prog_4_method_3_code 10 = .ok (.invokevirtual 53, 3) := by decide +kernel
theorem d_Dusk_go_13 : decode prog_4_method_3_code 13 = .ok (.iinc 2 1, 3) := by decide +kernel
theorem d_Dusk_go_16 : decode prog_4_method_3_code 16 = .ok (.goto (-14), 3) := by decide +kernel
theorem d_Dusk_go_19 : decode prog_4_method_3_code 19 = .ok (.return_, 1) := by decide +kernel
def p_Dusk_go_2 (Q : AH → Prop) : Nat → Int32 → Int32 → AH → Prop
  | 0 => fun _ _ _ => False
  | n + 1 => fun x1 x2 h => let K2 := p_Dusk_go_2 Q n; ((x1 ≤ x2 → Q h) ∧ (¬ x1 ≤ x2 → p_Dusk_pass (fun h1 => K2 x1 (x2 + 1) h1) x2 0 h))
def p_Dusk_go (Q : AH → Prop) (x1 : Int32) (h : AH) : Prop := ∃ n, p_Dusk_go_2 Q   n x1 0 h
set_option maxRecDepth 20000 in
theorem r_Dusk_go_2 {G : GG} {d : Nat} {Q : AH → Prop} : ∀ (n : Nat) (x1 : Int32) (x2 : Int32) (h : AH), p_Dusk_go_2 Q n x1 x2 h → Att G T1 m_Dusk_go (d + 6) 2 [some (.ref 13), some (.int x1), some (.int x2)] [] h 0 0 (vQ Q) := by
  intro n
  induction n with
  | zero => intro x1 x2 h H; exact H.elim
  | succ n k2 =>
    intro x1 x2 h H
    refine A_iload_n d_Dusk_go_2 rfl ?_
    refine A_iload_n d_Dusk_go_3 rfl ?_
    refine A_icmp_ge 19 d_Dusk_go_4 (by decide) (fun z => ?_) (fun z => ?_)
    · have H := H.1 z
      exact A_ret d_Dusk_go_19 rfl H
    · have H := H.2 z
      refine A_aload_n d_Dusk_go_7 rfl ?_
      refine A_iload_n d_Dusk_go_8 rfl ?_
      refine A_iconst 0 (by decide) d_Dusk_go_9 ?_
      refine A_cV [.ref 13, .int x2, .int 0] [] (ct_Dusk_53 rfl) d_Dusk_go_10 rfl rfl (by decide) (Nat.le_of_ble_eq_true rfl) (rcA_o (c := 2) rfl (vA_s (by decide)) rfl (by decide) rfl) (ok_Dusk_pass (d := d) H) (fun h1 H => ?_)
      refine A_iinc 1 [some (.ref 13), some (.int x1), some (.int (x2 + 1))] d_Dusk_go_13 rfl (by decide) (by decide) rfl rfl ?_
      refine A_goto 2 d_Dusk_go_16 (by decide) ?_
      exact k2 _ _ _ H
set_option maxRecDepth 20000 in
theorem r_Dusk_go_0 {G : GG} {d : Nat} {Q : AH → Prop} (x1 : Int32) (h : AH) (H : p_Dusk_go Q x1 h) : Att G T1 m_Dusk_go (d + 6) 0 [some (.ref 13), some (.int x1), none] [] h 0 0 (vQ Q) := by
  refine A_iconst 0 (by decide) d_Dusk_go_0 ?_
  refine A_istore_n [some (.ref 13), some (.int x1), some (.int 0)] d_Dusk_go_1 (by decide) rfl rfl ?_
  obtain ⟨n9, H⟩ := H
  exact r_Dusk_go_2   n9 _ _ _ H
set_option maxRecDepth 20000 in
theorem ok_Dusk_go {G : GG} {d : Nat} {Q : AH → Prop} {x1 : Int32} {h : AH} (H : p_Dusk_go Q x1 h) : WP G T1 m_Dusk_go (d + 6) [.ref 13, .int x1] h 0 0 (vQ Q) := by
  exact WP.enter 1 (by decide) rfl rfl (r_Dusk_go_0 x1 h H)
theorem d_Dusk_firstDown_0 : decode prog_4_method_4_code 0 = .ok (.iconst 0, 1) := by decide +kernel
theorem d_Dusk_firstDown_1 : decode prog_4_method_4_code 1 = .ok (.istore_n 2, 1) := by decide +kernel
theorem d_Dusk_firstDown_2 : decode prog_4_method_4_code 2 = .ok (.iload_n 2, 1) := by decide +kernel
theorem d_Dusk_firstDown_3 : decode prog_4_method_4_code 3 = .ok (.bipush 24, 2) := by decide +kernel
theorem d_Dusk_firstDown_5 : decode prog_4_method_4_code 5 = .ok (.if_icmp .gt 34, 3) := by decide +kernel
theorem d_Dusk_firstDown_8 : decode prog_4_method_4_code 8 = .ok (.aload_n 0, 1) := by decide +kernel
theorem d_Dusk_firstDown_9 : decode prog_4_method_4_code 9 = .ok (.getfield 12, 3) := by decide +kernel
theorem d_Dusk_firstDown_12 : decode prog_4_method_4_code 12 = .ok (.iload_n 1, 1) := by decide +kernel
theorem d_Dusk_firstDown_13 : decode prog_4_method_4_code 13 = .ok (.invokevirtual 57, 3) := by decide +kernel
theorem d_Dusk_firstDown_16 : decode prog_4_method_4_code 16 = .ok (.ifCond .eq 5, 3) := by decide +kernel
theorem d_Dusk_firstDown_19 : decode prog_4_method_4_code 19 = .ok (.iload_n 2, 1) := by decide +kernel
theorem d_Dusk_firstDown_20 : decode prog_4_method_4_code 20 = .ok (.ireturn, 1) := by decide +kernel
theorem d_Dusk_firstDown_21 : decode prog_4_method_4_code 21 = .ok (.iload_n 2, 1) := by decide +kernel
theorem d_Dusk_firstDown_22 : decode prog_4_method_4_code 22 = .ok (.bipush 24, 2) := by decide +kernel
theorem d_Dusk_firstDown_24 : decode prog_4_method_4_code 24 = .ok (.if_icmp .ge 9, 3) := by decide +kernel
theorem d_Dusk_firstDown_27 : decode prog_4_method_4_code 27 = .ok (.aload_n 0, 1) := by decide +kernel
theorem d_Dusk_firstDown_28 : decode prog_4_method_4_code 28 = .ok (.iload_n 2, 1) := by decide +kernel
theorem d_Dusk_firstDown_29 : decode prog_4_method_4_code 29 = .ok (.iconst 0, 1) := by decide +kernel
theorem d_Dusk_firstDown_30 : decode prog_4_method_4_code 30 = .ok (.invokevirtual 53, 3) := by decide +kernel
theorem d_Dusk_firstDown_33 : decode prog_4_method_4_code 33 = .ok (.iinc 2 1, 3) := by decide +kernel
theorem d_Dusk_firstDown_36 : decode prog_4_method_4_code 36 = .ok (.goto (-34), 3) := by decide +kernel
theorem d_Dusk_firstDown_39 : decode prog_4_method_4_code 39 = .ok (.iconst (-1), 1) := by decide +kernel
theorem d_Dusk_firstDown_40 : decode prog_4_method_4_code 40 = .ok (.ireturn, 1) := by decide +kernel
def p_Dusk_firstDown_33 (Q : Int32 → AH → Prop) (K2 : Int32 → Int32 → AH → Prop) (x1 : Int32) (x2 : Int32) (h : AH) : Prop := K2 x1 (x2 + 1) h
def p_Dusk_firstDown_2 (Q : Int32 → AH → Prop) : Nat → Int32 → Int32 → AH → Prop
  | 0 => fun _ _ _ => False
  | n + 1 => fun x1 x2 h => let K2 := p_Dusk_firstDown_2 Q n; ((24 < x2 → Q (-1) h) ∧ (¬ 24 < x2 → p_Town_isDown (fun r2 h1 => ((r2 = 0 → ((24 ≤ x2 → p_Dusk_firstDown_33 Q  K2 x1 x2 h1) ∧ (¬ 24 ≤ x2 → p_Dusk_pass (fun h3 => p_Dusk_firstDown_33 Q  K2 x1 x2 h3) x2 0 h1))) ∧ (¬ r2 = 0 → Q x2 h1))) 14 x1 h))
def p_Dusk_firstDown (Q : Int32 → AH → Prop) (x1 : Int32) (h : AH) : Prop := ∃ n, p_Dusk_firstDown_2 Q   n x1 0 h
set_option maxRecDepth 20000 in
theorem r_Dusk_firstDown_33 {G : GG} {d : Nat} {Q : Int32 → AH → Prop} {K2 : Int32 → Int32 → AH → Prop} (k2 : ∀ x1 x2 h, K2 x1 x2 h → Att G T1 m_Dusk_firstDown (d + 6) 2 [some (.ref 13), some (.int x1), some (.int x2)] [] h 0 0 (iQ Q)) (x1 : Int32) (x2 : Int32) (h : AH) (H : p_Dusk_firstDown_33 Q K2 x1 x2 h) : Att G T1 m_Dusk_firstDown (d + 6) 33 [some (.ref 13), some (.int x1), some (.int x2)] [] h 0 0 (iQ Q) := by
  refine A_iinc 1 [some (.ref 13), some (.int x1), some (.int (x2 + 1))] d_Dusk_firstDown_33 rfl (by decide) (by decide) rfl rfl ?_
  refine A_goto 2 d_Dusk_firstDown_36 (by decide) ?_
  exact k2 _ _ _ H
set_option maxRecDepth 20000 in
theorem r_Dusk_firstDown_2 {G : GG} {d : Nat} {Q : Int32 → AH → Prop} : ∀ (n : Nat) (x1 : Int32) (x2 : Int32) (h : AH), p_Dusk_firstDown_2 Q n x1 x2 h → Att G T1 m_Dusk_firstDown (d + 6) 2 [some (.ref 13), some (.int x1), some (.int x2)] [] h 0 0 (iQ Q) := by
  intro n
  induction n with
  | zero => intro x1 x2 h H; exact H.elim
  | succ n k2 =>
    intro x1 x2 h H
    refine A_iload_n d_Dusk_firstDown_2 rfl ?_
    refine A_bipush 24 (by decide) d_Dusk_firstDown_3 ?_
    refine A_icmp_gt 39 d_Dusk_firstDown_5 (by decide) (fun z => ?_) (fun z => ?_)
    · have H := H.1 z
      refine A_iconst (-1) (by decide) d_Dusk_firstDown_39 ?_
      exact A_iret d_Dusk_firstDown_40 rfl rfl H
    · have H := H.2 z
      refine A_aload_n d_Dusk_firstDown_8 rfl ?_
      refine A_get (v := .ref 14) d_Dusk_firstDown_9 (fo_Dusk_12_2 rfl) (vA_s (by decide)) rfl rfl ?_
      refine A_iload_n d_Dusk_firstDown_12 rfl ?_
      refine A_cI [.ref 14, .int x1] [] (ct_Dusk_57 rfl) d_Dusk_firstDown_13 rfl rfl (by decide) (Nat.le_of_ble_eq_true rfl) (rcA_o (c := 10) rfl (vA_s (by decide)) rfl (by decide) rfl) (ok_Town_isDown (d := d + 5) H) (fun r2 h1 H => ?_)
      refine A_if_eq 21 d_Dusk_firstDown_16 (by decide) (fun z => ?_) (fun z => ?_)
      · have H := H.1 z
        refine A_iload_n d_Dusk_firstDown_21 rfl ?_
        refine A_bipush 24 (by decide) d_Dusk_firstDown_22 ?_
        refine A_icmp_ge 33 d_Dusk_firstDown_24 (by decide) (fun z => ?_) (fun z => ?_)
        · have H := H.1 z
          exact r_Dusk_firstDown_33  k2 _ _ _ H
        · have H := H.2 z
          refine A_aload_n d_Dusk_firstDown_27 rfl ?_
          refine A_iload_n d_Dusk_firstDown_28 rfl ?_
          refine A_iconst 0 (by decide) d_Dusk_firstDown_29 ?_
          refine A_cV [.ref 13, .int x2, .int 0] [] (ct_Dusk_53 rfl) d_Dusk_firstDown_30 rfl rfl (by decide) (Nat.le_of_ble_eq_true rfl) (rcA_o (c := 2) rfl (vA_s (by decide)) rfl (by decide) rfl) (ok_Dusk_pass (d := d) H) (fun h3 H => ?_)
          exact r_Dusk_firstDown_33  k2 _ _ _ H
      · have H := H.2 z
        refine A_iload_n d_Dusk_firstDown_19 rfl ?_
        exact A_iret d_Dusk_firstDown_20 rfl rfl H
set_option maxRecDepth 20000 in
theorem r_Dusk_firstDown_0 {G : GG} {d : Nat} {Q : Int32 → AH → Prop} (x1 : Int32) (h : AH) (H : p_Dusk_firstDown Q x1 h) : Att G T1 m_Dusk_firstDown (d + 6) 0 [some (.ref 13), some (.int x1), none] [] h 0 0 (iQ Q) := by
  refine A_iconst 0 (by decide) d_Dusk_firstDown_0 ?_
  refine A_istore_n [some (.ref 13), some (.int x1), some (.int 0)] d_Dusk_firstDown_1 (by decide) rfl rfl ?_
  obtain ⟨n9, H⟩ := H
  exact r_Dusk_firstDown_2   n9 _ _ _ H
set_option maxRecDepth 20000 in
theorem ok_Dusk_firstDown {G : GG} {d : Nat} {Q : Int32 → AH → Prop} {x1 : Int32} {h : AH} (H : p_Dusk_firstDown Q x1 h) : WP G T1 m_Dusk_firstDown (d + 6) [.ref 13, .int x1] h 0 0 (iQ Q) := by
  exact WP.enter 1 (by decide) rfl rfl (r_Dusk_firstDown_0 x1 h H)
theorem d_UF_times_0 : decode prog_1_method_24_code 0 = .ok (.aload_n 0, 1) := by decide +kernel
theorem d_UF_times_1 : decode prog_1_method_24_code 1 = .ok (.iload_n 1, 1) := by decide +kernel
theorem d_UF_times_2 : decode prog_1_method_24_code 2 = .ok (.invokevirtual 198, 3) := by decide +kernel
theorem d_UF_times_5 : decode prog_1_method_24_code 5 = .ok (.istore_n 2, 1) := by decide +kernel
theorem d_UF_times_6 : decode prog_1_method_24_code 6 = .ok (.iload_n 2, 1) := by decide +kernel
theorem d_UF_times_7 : decode prog_1_method_24_code 7 = .ok (.ifCond .eq 5, 3) := by decide +kernel
theorem d_UF_times_10 : decode prog_1_method_24_code 10 = .ok (.iload_n 2, 1) := by decide +kernel
theorem d_UF_times_11 : decode prog_1_method_24_code 11 = .ok (.ireturn, 1) := by decide +kernel
theorem d_UF_times_12 : decode prog_1_method_24_code 12 = .ok (.iconst 0, 1) := by decide +kernel
theorem d_UF_times_13 : decode prog_1_method_24_code 13 = .ok (.istore_n 3, 1) := by decide +kernel
theorem d_UF_times_14 : decode prog_1_method_24_code 14 = .ok (.aload_n 0, 1) := by decide +kernel
theorem d_UF_times_15 : decode prog_1_method_24_code 15 = .ok (.invokevirtual 110, 3) := by decide +kernel
theorem d_UF_times_18 : decode prog_1_method_24_code 18 = .ok (.iconst 0, 1) := by decide +kernel
theorem d_UF_times_19 : decode prog_1_method_24_code 19 = .ok (.istore 4, 2) := by decide +kernel
theorem d_UF_times_21 : decode prog_1_method_24_code 21 = .ok (.iload 4, 2) := by decide +kernel
theorem d_UF_times_23 : decode prog_1_method_24_code 23 = .ok (.bipush 24, 2) := by decide +kernel
theorem d_UF_times_25 : decode prog_1_method_24_code 25 = .ok (.if_icmp .gt 53, 3) := by decide +kernel
theorem d_UF_times_28 : decode prog_1_method_24_code 28 = .ok (.aload_n 0, 1) := by decide +kernel
theorem d_UF_times_29 : decode prog_1_method_24_code 29 = .ok (.getfield 23, 3) := by decide +kernel
theorem d_UF_times_32 : decode prog_1_method_24_code 32 = .ok (.iload_n 1, 1) := by decide +kernel
theorem d_UF_times_33 : decode prog_1_method_24_code 33 = .ok (.aaload, 1) := by decide +kernel
theorem d_UF_times_34 : decode prog_1_method_24_code 34 = .ok (.aload_n 0, 1) := by decide +kernel
theorem d_UF_times_35 : decode prog_1_method_24_code 35 = .ok (.getfield 44, 3) := by decide +kernel
theorem d_UF_times_38 : decode prog_1_method_24_code 38 = .ok (.getfield 149, 3) := by decide +kernel
theorem d_UF_times_41 : decode prog_1_method_24_code 41 = .ok (.invokevirtual 201, 3) := by decide +kernel
theorem d_UF_times_44 : decode prog_1_method_24_code 44 = .ok (.iconst (-1), 1) := by decide +kernel
theorem d_UF_times_45 : decode prog_1_method_24_code 45 = .ok (.if_icmp .ne 10, 3) := by decide +kernel
theorem d_UF_times_48 : decode prog_1_method_24_code 48 = .ok (.iload_n 3, 1) := by decide +kernel
theorem d_UF_times_49 : decode prog_1_method_24_code 49 = .ok (.iconst 1, 1) := by decide +kernel
theorem d_UF_times_50 : decode prog_1_method_24_code 50 = .ok (.iload 4, 2) := by decide +kernel
theorem d_UF_times_52 : decode prog_1_method_24_code 52 = .ok (.ishl, 1) := by decide +kernel
theorem d_UF_times_53 : decode prog_1_method_24_code 53 = .ok (.ior, 1) := by decide +kernel
theorem d_UF_times_54 : decode prog_1_method_24_code 54 = .ok (.istore_n 3, 1) := by decide +kernel
theorem d_UF_times_55 : decode prog_1_method_24_code 55 = .ok (.iload 4, 2) := by decide +kernel
theorem d_UF_times_57 : decode prog_1_method_24_code 57 = .ok (.bipush 24, 2) := by decide +kernel
theorem d_UF_times_59 : decode prog_1_method_24_code 59 = .ok (.if_icmp .ge 13, 3) := by decide +kernel
theorem d_UF_times_62 : decode prog_1_method_24_code 62 = .ok (.aload_n 0, 1) := by decide +kernel
theorem d_UF_times_63 : decode prog_1_method_24_code 63 = .ok (.getfield 44, 3) := by decide +kernel
theorem d_UF_times_66 : decode prog_1_method_24_code 66 = .ok (.iload 4, 2) := by decide +kernel
theorem d_UF_times_68 : decode prog_1_method_24_code 68 = .ok (.iconst 0, 1) := by decide +kernel
theorem d_UF_times_69 : decode prog_1_method_24_code 69 = .ok (.invokevirtual 205, 3) := by decide +kernel
theorem d_UF_times_72 : decode prog_1_method_24_code 72 = .ok (.iinc 4 1, 3) := by decide +kernel
theorem d_UF_times_75 : decode prog_1_method_24_code 75 = .ok (.goto (-54), 3) := by decide +kernel
theorem d_UF_times_78 : decode prog_1_method_24_code 78 = .ok (.iload_n 3, 1) := by decide +kernel
theorem d_UF_times_79 : decode prog_1_method_24_code 79 = .ok (.ireturn, 1) := by decide +kernel
def p_UF_times_72 (Q : Int32 → AH → Prop) (K21 : Int32 → Int32 → Int32 → AH → Prop) (x1 : Int32) (x3 : Int32) (x4 : Int32) (h : AH) : Prop := K21 x1 x3 (x4 + 1) h
def p_UF_times_55 (Q : Int32 → AH → Prop) (K21 : Int32 → Int32 → Int32 → AH → Prop) (x1 : Int32) (x3 : Int32) (x4 : Int32) (h : AH) : Prop := ((24 ≤ x4 → p_UF_times_72 Q  K21 x1 x3 x4 h) ∧ (¬ 24 ≤ x4 → p_Dusk_pass (fun h1 => p_UF_times_72 Q  K21 x1 x3 x4 h1) x4 0 h))
def p_UF_times_21 (Q : Int32 → AH → Prop) : Nat → Int32 → Int32 → Int32 → AH → Prop
  | 0 => fun _ _ _ _ => False
  | n + 1 => fun x1 x3 x4 h => let K21 := p_UF_times_21 Q n; ((24 < x4 → Q x3 h) ∧ (¬ 24 < x4 → inb x1 4 ∧ 0 < rR T1 h 3 x1.toNatClampNeg ∧ vA T1 h (rR T1 h 3 x1.toNatClampNeg - 1) ∧ (rS T1 h (rR T1 h 3 x1.toNatClampNeg - 1)).1 = 8 ∧ p_Sheet_firstOtherwise (fun r6 h5 => ((¬ r6 = (-1) → p_UF_times_55 Q  K21 x1 x3 x4 h5) ∧ (r6 = (-1) → p_UF_times_55 Q  K21 x1 (x3 ||| (1 <<< (x4 &&& 31))) x4 h5))) (rR T1 h 3 x1.toNatClampNeg - 1) 14 h))
def p_UF_times (Q : Int32 → AH → Prop) (x1 : Int32) (h : AH) : Prop := p_UF_tellingRefusal (fun r2 h1 => ((r2 = 0 → p_UF_ready (fun h3 => ∃ n, p_UF_times_21 Q   n x1 0 0 h3) h1) ∧ (¬ r2 = 0 → Q r2 h1))) x1 h
set_option maxRecDepth 20000 in
theorem r_UF_times_72 {G : GG} {d : Nat} {Q : Int32 → AH → Prop} {K21 : Int32 → Int32 → Int32 → AH → Prop} (k21 : ∀ x1 x3 x4 h, K21 x1 x3 x4 h → Att G T1 m_UF_times (d + 6) 21 [some (.ref 0), some (.int x1), none, some (.int x3), some (.int x4)] [] h 0 0 (iQ Q)) (x1 : Int32) (x3 : Int32) (x4 : Int32) (h : AH) (H : p_UF_times_72 Q K21 x1 x3 x4 h) : Att G T1 m_UF_times (d + 6) 72 [some (.ref 0), some (.int x1), none, some (.int x3), some (.int x4)] [] h 0 0 (iQ Q) := by
  refine A_iinc 1 [some (.ref 0), some (.int x1), none, some (.int x3), some (.int (x4 + 1))] d_UF_times_72 rfl (by decide) (by decide) rfl rfl ?_
  refine A_goto 21 d_UF_times_75 (by decide) ?_
  exact k21 _ _ _ _ H
set_option maxRecDepth 20000 in
theorem r_UF_times_55 {G : GG} {d : Nat} {Q : Int32 → AH → Prop} {K21 : Int32 → Int32 → Int32 → AH → Prop} (k21 : ∀ x1 x3 x4 h, K21 x1 x3 x4 h → Att G T1 m_UF_times (d + 6) 21 [some (.ref 0), some (.int x1), none, some (.int x3), some (.int x4)] [] h 0 0 (iQ Q)) (x1 : Int32) (x3 : Int32) (x4 : Int32) (h : AH) (H : p_UF_times_55 Q K21 x1 x3 x4 h) : Att G T1 m_UF_times (d + 6) 55 [some (.ref 0), some (.int x1), none, some (.int x3), some (.int x4)] [] h 0 0 (iQ Q) := by
  refine A_iload d_UF_times_55 rfl ?_
  refine A_bipush 24 (by decide) d_UF_times_57 ?_
  refine A_icmp_ge 72 d_UF_times_59 (by decide) (fun z => ?_) (fun z => ?_)
  · have H := H.1 z
    exact r_UF_times_72  k21 _ _ _ _ H
  · have H := H.2 z
    refine A_aload_n d_UF_times_62 rfl ?_
    refine A_get (v := .ref 13) d_UF_times_63 (fo_UF_44_11 rfl) (vA_s (by decide)) rfl rfl ?_
    refine A_iload d_UF_times_66 rfl ?_
    refine A_iconst 0 (by decide) d_UF_times_68 ?_
    refine A_cV [.ref 13, .int x4, .int 0] [] (ct_UF_205 rfl) d_UF_times_69 rfl rfl (by decide) (Nat.le_of_ble_eq_true rfl) (rcA_o (c := 2) rfl (vA_s (by decide)) rfl (by decide) rfl) (ok_Dusk_pass (d := d) H) (fun h1 H => ?_)
    exact r_UF_times_72  k21 _ _ _ _ H
set_option maxRecDepth 20000 in
theorem r_UF_times_21 {G : GG} {d : Nat} {Q : Int32 → AH → Prop} : ∀ (n : Nat) (x1 : Int32) (x3 : Int32) (x4 : Int32) (h : AH), p_UF_times_21 Q n x1 x3 x4 h → Att G T1 m_UF_times (d + 6) 21 [some (.ref 0), some (.int x1), none, some (.int x3), some (.int x4)] [] h 0 0 (iQ Q) := by
  intro n
  induction n with
  | zero => intro x1 x3 x4 h H; exact H.elim
  | succ n k21 =>
    intro x1 x3 x4 h H
    refine A_iload d_UF_times_21 rfl ?_
    refine A_bipush 24 (by decide) d_UF_times_23 ?_
    refine A_icmp_gt 78 d_UF_times_25 (by decide) (fun z => ?_) (fun z => ?_)
    · have H := H.1 z
      refine A_iload_n d_UF_times_78 rfl ?_
      exact A_iret d_UF_times_79 rfl rfl H
    · have H := H.2 z
      refine A_aload_n d_UF_times_28 rfl ?_
      refine A_get (v := .ref 3) d_UF_times_29 (fo_UF_23_11 rfl) (vA_s (by decide)) rfl rfl ?_
      refine A_iload_n d_UF_times_32 rfl ?_
      obtain ⟨c1, H⟩ := H
      obtain ⟨c2, H⟩ := H
      refine A_aald (t := 2) (n := 4) d_UF_times_33 (by decide) (vA_s (by decide)) rfl c1 (pos_sub c2) ?_
      refine A_aload_n d_UF_times_34 rfl ?_
      refine A_get (v := .ref 13) d_UF_times_35 (fo_UF_44_11 rfl) (vA_s (by decide)) rfl rfl ?_
      refine A_get (v := .ref 14) d_UF_times_38 (fo_UF_149_2 rfl) (vA_s (by decide)) rfl rfl ?_
      obtain ⟨c3, H⟩ := H
      obtain ⟨c4, H⟩ := H
      refine A_cI [.ref (rR T1 h 3 x1.toNatClampNeg - 1), .ref 14] [] (ct_UF_201 rfl) d_UF_times_41 rfl rfl (by decide) (Nat.le_of_ble_eq_true rfl) (rcA_o (c := 8) rfl c3 c4 (by decide) rfl) (ok_Sheet_firstOtherwise (d := d + 5) H) (fun r6 h5 H => ?_)
      refine A_iconst (-1) (by decide) d_UF_times_44 ?_
      refine A_icmp_ne 55 d_UF_times_45 (by decide) (fun z => ?_) (fun z => ?_)
      · have H := H.1 z
        exact r_UF_times_55  k21 _ _ _ _ H
      · have H := H.2 z
        refine A_iload_n d_UF_times_48 rfl ?_
        refine A_iconst 1 (by decide) d_UF_times_49 ?_
        refine A_iload d_UF_times_50 rfl ?_
        refine A_ishl d_UF_times_52 ?_
        refine A_ior d_UF_times_53 ?_
        refine A_istore_n [some (.ref 0), some (.int x1), none, some (.int (x3 ||| (1 <<< (x4 &&& 31)))), some (.int x4)] d_UF_times_54 (by decide) rfl rfl ?_
        exact r_UF_times_55  k21 _ _ _ _ H
set_option maxRecDepth 20000 in
theorem r_UF_times_0 {G : GG} {d : Nat} {Q : Int32 → AH → Prop} (x1 : Int32) (h : AH) (H : p_UF_times Q x1 h) : Att G T1 m_UF_times (d + 6) 0 [some (.ref 0), some (.int x1), none, none, none] [] h 0 0 (iQ Q) := by
  refine A_aload_n d_UF_times_0 rfl ?_
  refine A_iload_n d_UF_times_1 rfl ?_
  refine A_cI [.ref 0, .int x1] [] (ct_UF_198 rfl) d_UF_times_2 rfl rfl (by decide) (Nat.le_of_ble_eq_true rfl) (rcA_o (c := 11) rfl (vA_s (by decide)) rfl (by decide) rfl) (ok_UF_tellingRefusal (d := d + 3) H) (fun r2 h1 H => ?_)
  refine A_istore_n [some (.ref 0), some (.int x1), some (.int r2), none, none] d_UF_times_5 (by decide) rfl rfl ?_
  refine A_iload_n d_UF_times_6 rfl ?_
  refine A_if_eq 12 d_UF_times_7 (by decide) (fun z => ?_) (fun z => ?_)
  · have H := H.1 z
    refine A_iconst 0 (by decide) d_UF_times_12 ?_
    refine A_istore_n [some (.ref 0), some (.int x1), some (.int r2), some (.int 0), none] d_UF_times_13 (by decide) rfl rfl ?_
    refine A_aload_n d_UF_times_14 rfl ?_
    refine A_cV [.ref 0] [] (ct_UF_110 rfl) d_UF_times_15 rfl rfl (by decide) (Nat.le_of_ble_eq_true rfl) (rcA_o (c := 11) rfl (vA_s (by decide)) rfl (by decide) rfl) (ok_UF_ready (d := d + 2) H) (fun h3 H => ?_)
    refine A_iconst 0 (by decide) d_UF_times_18 ?_
    refine A_istore [some (.ref 0), some (.int x1), some (.int r2), some (.int 0), some (.int 0)] d_UF_times_19 (by decide) rfl rfl ?_
    refine A_sub (L' := [some (.ref 0), some (.int x1), none, some (.int 0), some (.int 0)]) ⟨rfl, rfl, rfl, rfl, trivial⟩ ?_
    obtain ⟨n9, H⟩ := H
    exact r_UF_times_21   n9 _ _ _ _ H
  · have H := H.2 z
    refine A_iload_n d_UF_times_10 rfl ?_
    exact A_iret d_UF_times_11 rfl rfl H
set_option maxRecDepth 20000 in
theorem ok_UF_times {G : GG} {d : Nat} {Q : Int32 → AH → Prop} {x1 : Int32} {h : AH} (H : p_UF_times Q x1 h) : WP G T1 m_UF_times (d + 6) [.ref 0, .int x1] h 0 0 (iQ Q) := by
  exact WP.enter 3 (by decide) rfl rfl (r_UF_times_0 x1 h H)
theorem d_UF_drawnDown_0 : decode prog_1_method_48_code 0 = .ok (.aload_n 0, 1) := by decide +kernel
theorem d_UF_drawnDown_1 : decode prog_1_method_48_code 1 = .ok (.invokevirtual 110, 3) := by decide +kernel
theorem d_UF_drawnDown_4 : decode prog_1_method_48_code 4 = .ok (.iload_n 1, 1) := by decide +kernel
theorem d_UF_drawnDown_5 : decode prog_1_method_48_code 5 = .ok (.iconst 1, 1) := by decide +kernel
theorem d_UF_drawnDown_6 : decode prog_1_method_48_code 6 = .ok (.iadd, 1) := by decide +kernel
theorem d_UF_drawnDown_7 : decode prog_1_method_48_code 7 = .ok (.i2l, 1) := by decide +kernel
theorem d_UF_drawnDown_8 : decode prog_1_method_48_code 8 = .ok (.lstore 4, 2) := by decide +kernel
theorem d_UF_drawnDown_10 : decode prog_1_method_48_code 10 = .ok (.iconst 0, 1) := by decide +kernel
theorem d_UF_drawnDown_11 : decode prog_1_method_48_code 11 = .ok (.istore 6, 2) := by decide +kernel
theorem d_UF_drawnDown_13 : decode prog_1_method_48_code 13 = .ok (.iload 6, 2) := by decide +kernel
theorem d_UF_drawnDown_15 : decode prog_1_method_48_code 15 = .ok (.iload_n 2, 1) := by decide +kernel
theorem d_UF_drawnDown_16 : decode prog_1_method_48_code 16 = .ok (.if_icmp .ge 92, 3) := by decide +kernel
theorem d_UF_drawnDown_19 : decode prog_1_method_48_code 19 = .ok (.iconst 0, 1) := by decide +kernel
theorem d_UF_drawnDown_20 : decode prog_1_method_48_code 20 = .ok (.istore 7, 2) := by decide +kernel
theorem d_UF_drawnDown_22 : decode prog_1_method_48_code 22 = .ok (.iconst 0, 1) := by decide +kernel
theorem d_UF_drawnDown_23 : decode prog_1_method_48_code 23 = .ok (.istore 8, 2) := by decide +kernel
theorem d_UF_drawnDown_25 : decode prog_1_method_48_code 25 = .ok (.iload 8, 2) := by decide +kernel
theorem d_UF_drawnDown_27 : decode prog_1_method_48_code 27 = .ok (.aload_n 0, 1) := by decide +kernel
theorem d_UF_drawnDown_28 : decode prog_1_method_48_code 28 = .ok (.getfield 34, 3) := by decide +kernel
theorem d_UF_drawnDown_31 : decode prog_1_method_48_code 31 = .ok (.getfield 80, 3) := by decide +kernel
theorem d_UF_drawnDown_34 : decode prog_1_method_48_code 34 = .ok (.if_icmp .ge 57, 3) := by decide +kernel
theorem d_UF_drawnDown_37 : decode prog_1_method_48_code 37 = .ok (.aload_n 0, 1) := by decide +kernel
theorem d_UF_drawnDown_38 : decode prog_1_method_48_code 38 = .ok (.getfield 34, 3) := by decide +kernel
theorem d_UF_drawnDown_41 : decode prog_1_method_48_code 41 = .ok (.iload 8, 2) := by decide +kernel
theorem d_UF_drawnDown_43 : decode prog_1_method_48_code 43 = .ok (.invokevirtual 187, 3) := by decide +kernel
theorem d_UF_drawnDown_46 : decode prog_1_method_48_code 46 = .ok (.ifCond .ne 6, 3) := by decide +kernel
theorem d_UF_drawnDown_49 : decode prog_1_method_48_code 49 = .ok (.goto 36, 3) := by decide +kernel
theorem d_UF_drawnDown_52 : decode prog_1_method_48_code 52 = .ok (.lload 4, 2) := by decide +kernel
theorem d_UF_drawnDown_54 : decode prog_1_method_48_code 54 = .ok (.ldc2_w 282, 3) := by decide +kernel
theorem d_UF_drawnDown_57 : decode prog_1_method_48_code 57 = .ok (.lmul, 1) := by decide +kernel
theorem d_UF_drawnDown_58 : decode prog_1_method_48_code 58 = .ok (.ldc2_w 284, 3) := by decide +kernel
theorem d_UF_drawnDown_61 : decode prog_1_method_48_code 61 = .ok (.lrem, 1) := by decide +kernel
theorem d_UF_drawnDown_62 : decode prog_1_method_48_code 62 = .ok (.lstore 4, 2) := by decide +kernel
theorem d_UF_drawnDown_64 : decode prog_1_method_48_code 64 = .ok (.lload 4, 2) := by decide +kernel
theorem d_UF_drawnDown_66 : decode prog_1_method_48_code 66 = .ok (.ldc2_w 286, 3) := by decide +kernel
theorem d_UF_drawnDown_69 : decode prog_1_method_48_code 69 = .ok (.lrem, 1) := by decide +kernel
theorem d_UF_drawnDown_70 : decode prog_1_method_48_code 70 = .ok (.iload_n 3, 1) := by decide +kernel
theorem d_UF_drawnDown_71 : decode prog_1_method_48_code 71 = .ok (.i2l, 1) := by decide +kernel
theorem d_UF_drawnDown_72 : decode prog_1_method_48_code 72 = .ok (.lcmp, 1) := by decide +kernel
theorem d_UF_drawnDown_73 : decode prog_1_method_48_code 73 = .ok (.ifCond .ge 12, 3) := by decide +kernel
theorem d_UF_drawnDown_76 : decode prog_1_method_48_code 76 = .ok (.iload 7, 2) := by decide +kernel
theorem d_UF_drawnDown_78 : decode prog_1_method_48_code 78 = .ok (.iconst 1, 1) := by decide +kernel
theorem d_UF_drawnDown_79 : decode prog_1_method_48_code 79 = .ok (.iload 8, 2) := by decide +kernel
theorem d_UF_drawnDown_81 : decode prog_1_method_48_code 81 = .ok (.ishl, 1) := by decide +kernel
theorem d_UF_drawnDown_82 : decode prog_1_method_48_code 82 = .ok (.ior, 1) := by decide +kernel
theorem d_UF_drawnDown_83 : decode prog_1_method_48_code 83 = .ok (.istore 7, 2) := by decide +kernel
theorem d_UF_drawnDown_85 : decode prog_1_method_48_code 85 = .ok (.iinc 8 1, 3) := by decide +kernel
theorem d_UF_drawnDown_88 : decode prog_1_method_48_code 88 = .ok (.goto (-63), 3) := by decide +kernel
theorem d_UF_drawnDown_91 : decode prog_1_method_48_code 91 = .ok (.aload_n 0, 1) := by decide +kernel
theorem d_UF_drawnDown_92 : decode prog_1_method_48_code 92 = .ok (.getfield 44, 3) := by decide +kernel
theorem d_UF_drawnDown_95 : decode prog_1_method_48_code 95 = .ok (.iload 6, 2) := by decide +kernel
theorem d_UF_drawnDown_97 : decode prog_1_method_48_code 97 = .ok (.iload 7, 2) := by decide +kernel
theorem d_UF_drawnDown_99 : decode prog_1_method_48_code 99 = .ok (.invokevirtual 205, 3) := by decide +kernel
theorem d_UF_drawnDown_102 : decode prog_1_method_48_code 102 = .ok (.iinc 6 1, 3) := by decide +kernel
theorem d_UF_drawnDown_105 : decode prog_1_method_48_code 105 = .ok (.goto (-92), 3) := by decide +kernel
theorem d_UF_drawnDown_108 : decode prog_1_method_48_code 108 = .ok (.aload_n 0, 1) := by decide +kernel
theorem d_UF_drawnDown_109 : decode prog_1_method_48_code 109 = .ok (.getfield 44, 3) := by decide +kernel
theorem d_UF_drawnDown_112 : decode prog_1_method_48_code 112 = .ok (.getfield 149, 3) := by decide +kernel
theorem d_UF_drawnDown_115 : decode prog_1_method_48_code 115 = .ok (.invokevirtual 184, 3) := by decide +kernel
theorem d_UF_drawnDown_118 : decode prog_1_method_48_code 118 = .ok (.ireturn, 1) := by decide +kernel
def p_UF_drawnDown_85 (Q : Int32 → AH → Prop) (K13 : Int32 → Int32 → Int64 → Int32 → AH → Prop) (K25 : Int32 → Int32 → Int64 → Int32 → Int32 → Int32 → AH → Prop) (x2 : Int32) (x3 : Int32) (y4 : Int64) (x6 : Int32) (x7 : Int32) (x8 : Int32) (h : AH) : Prop := K25 x2 x3 y4 x6 x7 (x8 + 1) h
def p_UF_drawnDown_25 (Q : Int32 → AH → Prop) (K13 : Int32 → Int32 → Int64 → Int32 → AH → Prop) : Nat → Int32 → Int32 → Int64 → Int32 → Int32 → Int32 → AH → Prop
  | 0 => fun _ _ _ _ _ _ _ => False
  | n + 1 => fun x2 x3 y4 x6 x7 x8 h => let K25 := p_UF_drawnDown_25 Q K13 n; (((h.1 5 3) ≤ x8 → p_Dusk_pass (fun h1 => K13 x2 x3 y4 (x6 + 1) h1) x6 x7 h) ∧ (¬ (h.1 5 3) ≤ x8 → p_Town_leads (fun r3 h2 => ((¬ r3 = 0 → ((0 ≤ (lg_cmp (((y4 * 48271) - (y4 * 48271) / 2147483647 * 2147483647) - ((y4 * 48271) - (y4 * 48271) / 2147483647 * 2147483647) / 100 * 100) x3.toInt64) → p_UF_drawnDown_85 Q  K13 K25 x2 x3 ((y4 * 48271) - (y4 * 48271) / 2147483647 * 2147483647) x6 x7 x8 h2) ∧ (¬ 0 ≤ (lg_cmp (((y4 * 48271) - (y4 * 48271) / 2147483647 * 2147483647) - ((y4 * 48271) - (y4 * 48271) / 2147483647 * 2147483647) / 100 * 100) x3.toInt64) → p_UF_drawnDown_85 Q  K13 K25 x2 x3 ((y4 * 48271) - (y4 * 48271) / 2147483647 * 2147483647) x6 (x7 ||| (1 <<< (x8 &&& 31))) x8 h2))) ∧ (r3 = 0 → p_UF_drawnDown_85 Q  K13 K25 x2 x3 y4 x6 x7 x8 h2))) 5 x8 h))
def p_UF_drawnDown_13 (Q : Int32 → AH → Prop) : Nat → Int32 → Int32 → Int64 → Int32 → AH → Prop
  | 0 => fun _ _ _ _ _ => False
  | n + 1 => fun x2 x3 y4 x6 h => let K13 := p_UF_drawnDown_13 Q n; ((x2 ≤ x6 → p_Town_downCount (fun r2 h1 => Q r2 h1) 14 h) ∧ (¬ x2 ≤ x6 → ∃ n, p_UF_drawnDown_25 Q  K13 n x2 x3 y4 x6 0 0 h))
def p_UF_drawnDown (Q : Int32 → AH → Prop) (x1 : Int32) (x2 : Int32) (x3 : Int32) (h : AH) : Prop := p_UF_ready (fun h1 => ∃ n, p_UF_drawnDown_13 Q   n x2 x3 ((x1 + 1).toInt64) 0 h1) h
set_option maxRecDepth 20000 in
theorem r_UF_drawnDown_85 {G : GG} {d : Nat} {Q : Int32 → AH → Prop} {K13 : Int32 → Int32 → Int64 → Int32 → AH → Prop} {K25 : Int32 → Int32 → Int64 → Int32 → Int32 → Int32 → AH → Prop} (k13 : ∀ x2 x3 y4 x6 h, K13 x2 x3 y4 x6 h → Att G T1 m_UF_drawnDown (d + 6) 13 [some (.ref 0), none, some (.int x2), some (.int x3), some (.long y4), none, some (.int x6), none, none] [] h 0 0 (iQ Q)) (k25 : ∀ x2 x3 y4 x6 x7 x8 h, K25 x2 x3 y4 x6 x7 x8 h → Att G T1 m_UF_drawnDown (d + 6) 25 [some (.ref 0), none, some (.int x2), some (.int x3), some (.long y4), none, some (.int x6), some (.int x7), some (.int x8)] [] h 0 0 (iQ Q)) (x2 : Int32) (x3 : Int32) (y4 : Int64) (x6 : Int32) (x7 : Int32) (x8 : Int32) (h : AH) (H : p_UF_drawnDown_85 Q K13 K25 x2 x3 y4 x6 x7 x8 h) : Att G T1 m_UF_drawnDown (d + 6) 85 [some (.ref 0), none, some (.int x2), some (.int x3), some (.long y4), none, some (.int x6), some (.int x7), some (.int x8)] [] h 0 0 (iQ Q) := by
  refine A_iinc 1 [some (.ref 0), none, some (.int x2), some (.int x3), some (.long y4), none, some (.int x6), some (.int x7), some (.int (x8 + 1))] d_UF_drawnDown_85 rfl (by decide) (by decide) rfl rfl ?_
  refine A_goto 25 d_UF_drawnDown_88 (by decide) ?_
  exact k25 _ _ _ _ _ _ _ H
set_option maxRecDepth 20000 in
theorem r_UF_drawnDown_25 {G : GG} {d : Nat} {Q : Int32 → AH → Prop} {K13 : Int32 → Int32 → Int64 → Int32 → AH → Prop} (k13 : ∀ x2 x3 y4 x6 h, K13 x2 x3 y4 x6 h → Att G T1 m_UF_drawnDown (d + 6) 13 [some (.ref 0), none, some (.int x2), some (.int x3), some (.long y4), none, some (.int x6), none, none] [] h 0 0 (iQ Q)) : ∀ (n : Nat) (x2 : Int32) (x3 : Int32) (y4 : Int64) (x6 : Int32) (x7 : Int32) (x8 : Int32) (h : AH), p_UF_drawnDown_25 Q K13 n x2 x3 y4 x6 x7 x8 h → Att G T1 m_UF_drawnDown (d + 6) 25 [some (.ref 0), none, some (.int x2), some (.int x3), some (.long y4), none, some (.int x6), some (.int x7), some (.int x8)] [] h 0 0 (iQ Q) := by
  intro n
  induction n with
  | zero => intro x2 x3 y4 x6 x7 x8 h H; exact H.elim
  | succ n k25 =>
    intro x2 x3 y4 x6 x7 x8 h H
    refine A_iload d_UF_drawnDown_25 rfl ?_
    refine A_aload_n d_UF_drawnDown_27 rfl ?_
    refine A_get (v := .ref 5) d_UF_drawnDown_28 (fo_UF_34_11 rfl) (vA_s (by decide)) rfl rfl ?_
    refine A_get (v := .int (h.1 5 3)) d_UF_drawnDown_31 (fo_UF_80_10 rfl) (vA_s (by decide)) rfl rfl ?_
    refine A_icmp_ge 91 d_UF_drawnDown_34 (by decide) (fun z => ?_) (fun z => ?_)
    · have H := H.1 z
      refine A_aload_n d_UF_drawnDown_91 rfl ?_
      refine A_get (v := .ref 13) d_UF_drawnDown_92 (fo_UF_44_11 rfl) (vA_s (by decide)) rfl rfl ?_
      refine A_iload d_UF_drawnDown_95 rfl ?_
      refine A_iload d_UF_drawnDown_97 rfl ?_
      refine A_cV [.ref 13, .int x6, .int x7] [] (ct_UF_205 rfl) d_UF_drawnDown_99 rfl rfl (by decide) (Nat.le_of_ble_eq_true rfl) (rcA_o (c := 2) rfl (vA_s (by decide)) rfl (by decide) rfl) (ok_Dusk_pass (d := d) H) (fun h1 H => ?_)
      refine A_iinc 1 [some (.ref 0), none, some (.int x2), some (.int x3), some (.long y4), none, some (.int (x6 + 1)), some (.int x7), some (.int x8)] d_UF_drawnDown_102 rfl (by decide) (by decide) rfl rfl ?_
      refine A_goto 13 d_UF_drawnDown_105 (by decide) ?_
      refine A_sub (L' := [some (.ref 0), none, some (.int x2), some (.int x3), some (.long y4), none, some (.int (x6 + 1)), none, none]) ⟨rfl, rfl, rfl, rfl, rfl, trivial⟩ ?_
      exact k13 _ _ _ _ _ H
    · have H := H.2 z
      refine A_aload_n d_UF_drawnDown_37 rfl ?_
      refine A_get (v := .ref 5) d_UF_drawnDown_38 (fo_UF_34_11 rfl) (vA_s (by decide)) rfl rfl ?_
      refine A_iload d_UF_drawnDown_41 rfl ?_
      refine A_cI [.ref 5, .int x8] [] (ct_UF_187 rfl) d_UF_drawnDown_43 rfl rfl (by decide) (Nat.le_of_ble_eq_true rfl) (rcA_o (c := 10) rfl (vA_s (by decide)) rfl (by decide) rfl) (ok_Town_leads (d := d + 5) H) (fun r3 h2 H => ?_)
      refine A_if_ne 52 d_UF_drawnDown_46 (by decide) (fun z => ?_) (fun z => ?_)
      · have H := H.1 z
        refine A_lload d_UF_drawnDown_52 rfl ?_
        refine A_ldc2 48271 d_UF_drawnDown_54 (tG 776 (by decide +kernel) (by decide +kernel)) ?_
        refine A_lmul d_UF_drawnDown_57 ?_
        refine A_ldc2 2147483647 d_UF_drawnDown_58 (tG 777 (by decide +kernel) (by decide +kernel)) ?_
        refine A_lrem (by decide) d_UF_drawnDown_61 ?_
        refine A_lstore [some (.ref 0), none, some (.int x2), some (.int x3), some (.long ((y4 * 48271) - (y4 * 48271) / 2147483647 * 2147483647)), none, some (.int x6), some (.int x7), some (.int x8)] d_UF_drawnDown_62 (by decide) rfl rfl ?_
        refine A_lload d_UF_drawnDown_64 rfl ?_
        refine A_ldc2 100 d_UF_drawnDown_66 (tG 778 (by decide +kernel) (by decide +kernel)) ?_
        refine A_lrem (by decide) d_UF_drawnDown_69 ?_
        refine A_iload_n d_UF_drawnDown_70 rfl ?_
        refine A_i2l d_UF_drawnDown_71 ?_
        refine A_lcmp d_UF_drawnDown_72 ?_
        refine A_if_ge 85 d_UF_drawnDown_73 (by decide) (fun z => ?_) (fun z => ?_)
        · have H := H.1 z
          exact r_UF_drawnDown_85  k13 k25 _ _ _ _ _ _ _ H
        · have H := H.2 z
          refine A_iload d_UF_drawnDown_76 rfl ?_
          refine A_iconst 1 (by decide) d_UF_drawnDown_78 ?_
          refine A_iload d_UF_drawnDown_79 rfl ?_
          refine A_ishl d_UF_drawnDown_81 ?_
          refine A_ior d_UF_drawnDown_82 ?_
          refine A_istore [some (.ref 0), none, some (.int x2), some (.int x3), some (.long ((y4 * 48271) - (y4 * 48271) / 2147483647 * 2147483647)), none, some (.int x6), some (.int (x7 ||| (1 <<< (x8 &&& 31)))), some (.int x8)] d_UF_drawnDown_83 (by decide) rfl rfl ?_
          exact r_UF_drawnDown_85  k13 k25 _ _ _ _ _ _ _ H
      · have H := H.2 z
        refine A_goto 85 d_UF_drawnDown_49 (by decide) ?_
        exact r_UF_drawnDown_85  k13 k25 _ _ _ _ _ _ _ H
set_option maxRecDepth 20000 in
theorem r_UF_drawnDown_13 {G : GG} {d : Nat} {Q : Int32 → AH → Prop} : ∀ (n : Nat) (x2 : Int32) (x3 : Int32) (y4 : Int64) (x6 : Int32) (h : AH), p_UF_drawnDown_13 Q n x2 x3 y4 x6 h → Att G T1 m_UF_drawnDown (d + 6) 13 [some (.ref 0), none, some (.int x2), some (.int x3), some (.long y4), none, some (.int x6), none, none] [] h 0 0 (iQ Q) := by
  intro n
  induction n with
  | zero => intro x2 x3 y4 x6 h H; exact H.elim
  | succ n k13 =>
    intro x2 x3 y4 x6 h H
    refine A_iload d_UF_drawnDown_13 rfl ?_
    refine A_iload_n d_UF_drawnDown_15 rfl ?_
    refine A_icmp_ge 108 d_UF_drawnDown_16 (by decide) (fun z => ?_) (fun z => ?_)
    · have H := H.1 z
      refine A_aload_n d_UF_drawnDown_108 rfl ?_
      refine A_get (v := .ref 13) d_UF_drawnDown_109 (fo_UF_44_11 rfl) (vA_s (by decide)) rfl rfl ?_
      refine A_get (v := .ref 14) d_UF_drawnDown_112 (fo_UF_149_2 rfl) (vA_s (by decide)) rfl rfl ?_
      refine A_cI [.ref 14] [] (ct_UF_184 rfl) d_UF_drawnDown_115 rfl rfl (by decide) (Nat.le_of_ble_eq_true rfl) (rcA_o (c := 10) rfl (vA_s (by decide)) rfl (by decide) rfl) (ok_Town_downCount (d := d + 3) H) (fun r2 h1 H => ?_)
      exact A_iret d_UF_drawnDown_118 rfl rfl H
    · have H := H.2 z
      refine A_iconst 0 (by decide) d_UF_drawnDown_19 ?_
      refine A_istore [some (.ref 0), none, some (.int x2), some (.int x3), some (.long y4), none, some (.int x6), some (.int 0), none] d_UF_drawnDown_20 (by decide) rfl rfl ?_
      refine A_iconst 0 (by decide) d_UF_drawnDown_22 ?_
      refine A_istore [some (.ref 0), none, some (.int x2), some (.int x3), some (.long y4), none, some (.int x6), some (.int 0), some (.int 0)] d_UF_drawnDown_23 (by decide) rfl rfl ?_
      obtain ⟨n9, H⟩ := H
      exact r_UF_drawnDown_25  k13 n9 _ _ _ _ _ _ _ H
set_option maxRecDepth 20000 in
theorem r_UF_drawnDown_0 {G : GG} {d : Nat} {Q : Int32 → AH → Prop} (x1 : Int32) (x2 : Int32) (x3 : Int32) (h : AH) (H : p_UF_drawnDown Q x1 x2 x3 h) : Att G T1 m_UF_drawnDown (d + 6) 0 [some (.ref 0), some (.int x1), some (.int x2), some (.int x3), none, none, none, none, none] [] h 0 0 (iQ Q) := by
  refine A_aload_n d_UF_drawnDown_0 rfl ?_
  refine A_cV [.ref 0] [] (ct_UF_110 rfl) d_UF_drawnDown_1 rfl rfl (by decide) (Nat.le_of_ble_eq_true rfl) (rcA_o (c := 11) rfl (vA_s (by decide)) rfl (by decide) rfl) (ok_UF_ready (d := d + 2) H) (fun h1 H => ?_)
  refine A_iload_n d_UF_drawnDown_4 rfl ?_
  refine A_iconst 1 (by decide) d_UF_drawnDown_5 ?_
  refine A_iadd d_UF_drawnDown_6 ?_
  refine A_i2l d_UF_drawnDown_7 ?_
  refine A_lstore [some (.ref 0), some (.int x1), some (.int x2), some (.int x3), some (.long ((x1 + 1).toInt64)), none, none, none, none] d_UF_drawnDown_8 (by decide) rfl rfl ?_
  refine A_iconst 0 (by decide) d_UF_drawnDown_10 ?_
  refine A_istore [some (.ref 0), some (.int x1), some (.int x2), some (.int x3), some (.long ((x1 + 1).toInt64)), none, some (.int 0), none, none] d_UF_drawnDown_11 (by decide) rfl rfl ?_
  refine A_sub (L' := [some (.ref 0), none, some (.int x2), some (.int x3), some (.long ((x1 + 1).toInt64)), none, some (.int 0), none, none]) ⟨rfl, rfl, rfl, rfl, rfl, trivial⟩ ?_
  obtain ⟨n9, H⟩ := H
  exact r_UF_drawnDown_13   n9 _ _ _ _ _ H
set_option maxRecDepth 20000 in
theorem ok_UF_drawnDown {G : GG} {d : Nat} {Q : Int32 → AH → Prop} {x1 : Int32} {x2 : Int32} {x3 : Int32} {h : AH} (H : p_UF_drawnDown Q x1 x2 x3 h) : WP G T1 m_UF_drawnDown (d + 6) [.ref 0, .int x1, .int x2, .int x3] h 0 0 (iQ Q) := by
  exact WP.enter 5 (by decide) rfl rfl (r_UF_drawnDown_0 x1 x2 x3 h H)
theorem d_MO_livesBy_0 : decode prog_14_method_43_code 0 = .ok (.iconst 0, 1) := by decide +kernel
theorem d_MO_livesBy_1 : decode prog_14_method_43_code 1 = .ok (.istore_n 2, 1) := by decide +kernel
theorem d_MO_livesBy_2 : decode prog_14_method_43_code 2 = .ok (.iload_n 2, 1) := by decide +kernel
theorem d_MO_livesBy_3 : decode prog_14_method_43_code 3 = .ok (.aload_n 0, 1) := by decide +kernel
theorem d_MO_livesBy_4 : decode prog_14_method_43_code 4 = .ok (.getfield 90, 3) := by decide +kernel
theorem d_MO_livesBy_7 : decode prog_14_method_43_code 7 = .ok (.if_icmp .ge 49, 3) := by decide +kernel
theorem d_MO_livesBy_10 : decode prog_14_method_43_code 10 = .ok (.aload_n 0, 1) := by decide +kernel
theorem d_MO_livesBy_11 : decode prog_14_method_43_code 11 = .ok (.getfield 64, 3) := by decide +kernel
theorem d_MO_livesBy_14 : decode prog_14_method_43_code 14 = .ok (.iload_n 2, 1) := by decide +kernel
theorem d_MO_livesBy_15 : decode prog_14_method_43_code 15 = .ok (.aload_n 0, 1) := by decide +kernel
theorem d_MO_livesBy_16 : decode prog_14_method_43_code 16 = .ok (.getfield 19, 3) := by decide +kernel
theorem d_MO_livesBy_19 : decode prog_14_method_43_code 19 = .ok (.iload_n 2, 1) := by decide +kernel
theorem d_MO_livesBy_20 : decode prog_14_method_43_code 20 = .ok (.iaload, 1) := by decide +kernel
theorem d_MO_livesBy_21 : decode prog_14_method_43_code 21 = .ok (.iastore, 1) := by decide +kernel
theorem d_MO_livesBy_22 : decode prog_14_method_43_code 22 = .ok (.aload_n 0, 1) := by decide +kernel
theorem d_MO_livesBy_23 : decode prog_14_method_43_code 23 = .ok (.getfield 67, 3) := by decide +kernel
theorem d_MO_livesBy_26 : decode prog_14_method_43_code 26 = .ok (.iload_n 2, 1) := by decide +kernel
theorem d_MO_livesBy_27 : decode prog_14_method_43_code 27 = .ok (.iconst 0, 1) := by decide +kernel
theorem d_MO_livesBy_28 : decode prog_14_method_43_code 28 = .ok (.iastore, 1) := by decide +kernel
theorem d_MO_livesBy_29 : decode prog_14_method_43_code 29 = .ok (.aload_n 0, 1) := by decide +kernel
theorem d_MO_livesBy_30 : decode prog_14_method_43_code 30 = .ok (.getfield 70, 3) := by decide +kernel
theorem d_MO_livesBy_33 : decode prog_14_method_43_code 33 = .ok (.iload_n 2, 1) := by decide +kernel
theorem d_MO_livesBy_34 : decode prog_14_method_43_code 34 = .ok (.iconst 0, 1) := by decide +kernel
theorem d_MO_livesBy_35 : decode prog_14_method_43_code 35 = .ok (.iastore, 1) := by decide +kernel
theorem d_MO_livesBy_36 : decode prog_14_method_43_code 36 = .ok (.aload_n 0, 1) := by decide +kernel
theorem d_MO_livesBy_37 : decode prog_14_method_43_code 37 = .ok (.getfield 73, 3) := by decide +kernel
theorem d_MO_livesBy_40 : decode prog_14_method_43_code 40 = .ok (.iload_n 2, 1) := by decide +kernel
theorem d_MO_livesBy_41 : decode prog_14_method_43_code 41 = .ok (.iconst (-1), 1) := by decide +kernel
theorem d_MO_livesBy_42 : decode prog_14_method_43_code 42 = .ok (.iastore, 1) := by decide +kernel
theorem d_MO_livesBy_43 : decode prog_14_method_43_code 43 = .ok (.aload_n 0, 1) := by decide +kernel
theorem d_MO_livesBy_44 : decode prog_14_method_43_code 44 = .ok (.getfield 76, 3) := by decide +kernel
theorem d_MO_livesBy_47 : decode prog_14_method_43_code 47 = .ok (.iload_n 2, 1) := by decide +kernel
theorem d_MO_livesBy_48 : decode prog_14_method_43_code 48 = .ok (.iconst 0, 1) := by decide +kernel
theorem d_MO_livesBy_49 : decode prog_14_method_43_code 49 = .ok (.iastore, 1) := by decide +kernel
theorem d_MO_livesBy_50 : decode prog_14_method_43_code 50 = .ok (.iinc 2 1, 3) := by decide +kernel
theorem d_MO_livesBy_53 : decode prog_14_method_43_code 53 = .ok (.goto (-51), 3) := by decide +kernel
theorem d_MO_livesBy_56 : decode prog_14_method_43_code 56 = .ok (.iconst 0, 1) := by decide +kernel
theorem d_MO_livesBy_57 : decode prog_14_method_43_code 57 = .ok (.istore_n 2, 1) := by decide +kernel
theorem d_MO_livesBy_58 : decode prog_14_method_43_code 58 = .ok (.iload_n 2, 1) := by decide +kernel
theorem d_MO_livesBy_59 : decode prog_14_method_43_code 59 = .ok (.iload_n 1, 1) := by decide +kernel
theorem d_MO_livesBy_60 : decode prog_14_method_43_code 60 = .ok (.if_icmp .ge 14, 3) := by decide +kernel
theorem d_MO_livesBy_63 : decode prog_14_method_43_code 63 = .ok (.aload_n 0, 1) := by decide +kernel
theorem d_MO_livesBy_64 : decode prog_14_method_43_code 64 = .ok (.iload_n 2, 1) := by decide +kernel
theorem d_MO_livesBy_65 : decode prog_14_method_43_code 65 = .ok (.invokevirtual 235, 3) := by decide +kernel
theorem d_MO_livesBy_68 : decode prog_14_method_43_code 68 = .ok (.iinc 2 1, 3) := by decide +kernel
theorem d_MO_livesBy_71 : decode prog_14_method_43_code 71 = .ok (.goto (-13), 3) := by decide +kernel
theorem d_MO_livesBy_74 : decode prog_14_method_43_code 74 = .ok (.return_, 1) := by decide +kernel
def p_MO_livesBy_58 (Q : AH → Prop) : Nat → Int32 → Int32 → AH → Prop
  | 0 => fun _ _ _ => False
  | n + 1 => fun x1 x2 h => let K58 := p_MO_livesBy_58 Q n; ((x1 ≤ x2 → Q h) ∧ (¬ x1 ≤ x2 → p_MO_minute (fun h1 => K58 x1 (x2 + 1) h1) x2 h))
def p_MO_livesBy_2 (Q : AH → Prop) : Nat → Int32 → Int32 → AH → Prop
  | 0 => fun _ _ _ => False
  | n + 1 => fun x1 x2 h => let K2 := p_MO_livesBy_2 Q n; (((h.1 59 0) ≤ x2 → ∃ n, p_MO_livesBy_58 Q   n x1 0 h) ∧ (¬ (h.1 59 0) ≤ x2 → inb x2 7 ∧ K2 x1 (x2 + 1) (wI (wI (wI (wI (wI h 78 x2 (h.1 63 x2)) 79 x2 0) 80 x2 0) 81 x2 (-1)) 82 x2 0)))
def p_MO_livesBy (Q : AH → Prop) (x1 : Int32) (h : AH) : Prop := ∃ n, p_MO_livesBy_2 Q   n x1 0 h
set_option maxRecDepth 20000 in
theorem r_MO_livesBy_58 {G : GG} {d : Nat} {Q : AH → Prop} : ∀ (n : Nat) (x1 : Int32) (x2 : Int32) (h : AH), p_MO_livesBy_58 Q n x1 x2 h → Att G T1 m_MO_livesBy (d + 6) 58 [some (.ref 59), some (.int x1), some (.int x2)] [] h 0 0 (vQ Q) := by
  intro n
  induction n with
  | zero => intro x1 x2 h H; exact H.elim
  | succ n k58 =>
    intro x1 x2 h H
    refine A_iload_n d_MO_livesBy_58 rfl ?_
    refine A_iload_n d_MO_livesBy_59 rfl ?_
    refine A_icmp_ge 74 d_MO_livesBy_60 (by decide) (fun z => ?_) (fun z => ?_)
    · have H := H.1 z
      exact A_ret d_MO_livesBy_74 rfl H
    · have H := H.2 z
      refine A_aload_n d_MO_livesBy_63 rfl ?_
      refine A_iload_n d_MO_livesBy_64 rfl ?_
      refine A_cV [.ref 59, .int x2] [] (ct_MO_235 rfl) d_MO_livesBy_65 rfl rfl (by decide) (Nat.le_of_ble_eq_true rfl) (rcA_o (c := 12) rfl (vA_s (by decide)) rfl (by decide) rfl) (ok_MO_minute (d := d) H) (fun h1 H => ?_)
      refine A_iinc 1 [some (.ref 59), some (.int x1), some (.int (x2 + 1))] d_MO_livesBy_68 rfl (by decide) (by decide) rfl rfl ?_
      refine A_goto 58 d_MO_livesBy_71 (by decide) ?_
      exact k58 _ _ _ H
set_option maxRecDepth 20000 in
theorem r_MO_livesBy_2 {G : GG} {d : Nat} {Q : AH → Prop} : ∀ (n : Nat) (x1 : Int32) (x2 : Int32) (h : AH), p_MO_livesBy_2 Q n x1 x2 h → Att G T1 m_MO_livesBy (d + 6) 2 [some (.ref 59), some (.int x1), some (.int x2)] [] h 0 0 (vQ Q) := by
  intro n
  induction n with
  | zero => intro x1 x2 h H; exact H.elim
  | succ n k2 =>
    intro x1 x2 h H
    refine A_iload_n d_MO_livesBy_2 rfl ?_
    refine A_aload_n d_MO_livesBy_3 rfl ?_
    refine A_get (v := .int (h.1 59 0)) d_MO_livesBy_4 (fo_MO_90_12 rfl) (vA_s (by decide)) rfl rfl ?_
    refine A_icmp_ge 56 d_MO_livesBy_7 (by decide) (fun z => ?_) (fun z => ?_)
    · have H := H.1 z
      refine A_iconst 0 (by decide) d_MO_livesBy_56 ?_
      refine A_istore_n [some (.ref 59), some (.int x1), some (.int 0)] d_MO_livesBy_57 (by decide) rfl rfl ?_
      obtain ⟨n9, H⟩ := H
      exact r_MO_livesBy_58   n9 _ _ _ H
    · have H := H.2 z
      refine A_aload_n d_MO_livesBy_10 rfl ?_
      refine A_get (v := .ref 78) d_MO_livesBy_11 (fo_MO_64_12 rfl) (vA_s (by decide)) rfl rfl ?_
      refine A_iload_n d_MO_livesBy_14 rfl ?_
      refine A_aload_n d_MO_livesBy_15 rfl ?_
      refine A_get (v := .ref 63) d_MO_livesBy_16 (fo_MO_19_12 rfl) (vA_s (by decide)) rfl rfl ?_
      refine A_iload_n d_MO_livesBy_19 rfl ?_
      obtain ⟨c1, H⟩ := H
      refine A_iald (n := 7) d_MO_livesBy_20 (vA_s (by decide)) rfl c1 ?_
      refine A_iast (n := 7) d_MO_livesBy_21 (vA_s (by decide)) rfl c1 ?_
      refine A_aload_n d_MO_livesBy_22 rfl ?_
      refine A_get (v := .ref 79) d_MO_livesBy_23 (fo_MO_67_12 rfl) (vA_s (by decide)) rfl rfl ?_
      refine A_iload_n d_MO_livesBy_26 rfl ?_
      refine A_iconst 0 (by decide) d_MO_livesBy_27 ?_
      refine A_iast (n := 7) d_MO_livesBy_28 (vA_s (by decide)) rfl c1 ?_
      refine A_aload_n d_MO_livesBy_29 rfl ?_
      refine A_get (v := .ref 80) d_MO_livesBy_30 (fo_MO_70_12 rfl) (vA_s (by decide)) rfl rfl ?_
      refine A_iload_n d_MO_livesBy_33 rfl ?_
      refine A_iconst 0 (by decide) d_MO_livesBy_34 ?_
      refine A_iast (n := 7) d_MO_livesBy_35 (vA_s (by decide)) rfl c1 ?_
      refine A_aload_n d_MO_livesBy_36 rfl ?_
      refine A_get (v := .ref 81) d_MO_livesBy_37 (fo_MO_73_12 rfl) (vA_s (by decide)) rfl rfl ?_
      refine A_iload_n d_MO_livesBy_40 rfl ?_
      refine A_iconst (-1) (by decide) d_MO_livesBy_41 ?_
      refine A_iast (n := 7) d_MO_livesBy_42 (vA_s (by decide)) rfl c1 ?_
      refine A_aload_n d_MO_livesBy_43 rfl ?_
      refine A_get (v := .ref 82) d_MO_livesBy_44 (fo_MO_76_12 rfl) (vA_s (by decide)) rfl rfl ?_
      refine A_iload_n d_MO_livesBy_47 rfl ?_
      refine A_iconst 0 (by decide) d_MO_livesBy_48 ?_
      refine A_iast (n := 7) d_MO_livesBy_49 (vA_s (by decide)) rfl c1 ?_
      refine A_iinc 1 [some (.ref 59), some (.int x1), some (.int (x2 + 1))] d_MO_livesBy_50 rfl (by decide) (by decide) rfl rfl ?_
      refine A_goto 2 d_MO_livesBy_53 (by decide) ?_
      exact k2 _ _ _ H
set_option maxRecDepth 20000 in
theorem r_MO_livesBy_0 {G : GG} {d : Nat} {Q : AH → Prop} (x1 : Int32) (h : AH) (H : p_MO_livesBy Q x1 h) : Att G T1 m_MO_livesBy (d + 6) 0 [some (.ref 59), some (.int x1), none] [] h 0 0 (vQ Q) := by
  refine A_iconst 0 (by decide) d_MO_livesBy_0 ?_
  refine A_istore_n [some (.ref 59), some (.int x1), some (.int 0)] d_MO_livesBy_1 (by decide) rfl rfl ?_
  obtain ⟨n9, H⟩ := H
  exact r_MO_livesBy_2   n9 _ _ _ H
set_option maxRecDepth 20000 in
theorem ok_MO_livesBy {G : GG} {d : Nat} {Q : AH → Prop} {x1 : Int32} {h : AH} (H : p_MO_livesBy Q x1 h) : WP G T1 m_MO_livesBy (d + 6) [.ref 59, .int x1] h 0 0 (vQ Q) := by
  exact WP.enter 1 (by decide) rfl rfl (r_MO_livesBy_0 x1 h H)
theorem d_Reader_next_0 : decode prog_9_method_11_code 0 = .ok (.aload_n 0, 1) := by decide +kernel
theorem d_Reader_next_1 : decode prog_9_method_11_code 1 = .ok (.getfield 34, 3) := by decide +kernel
theorem d_Reader_next_4 : decode prog_9_method_11_code 4 = .ok (.aload_n 0, 1) := by decide +kernel
theorem d_Reader_next_5 : decode prog_9_method_11_code 5 = .ok (.getfield 21, 3) := by decide +kernel
theorem d_Reader_next_8 : decode prog_9_method_11_code 8 = .ok (.if_icmp .ge 44, 3) := by decide +kernel
theorem d_Reader_next_11 : decode prog_9_method_11_code 11 = .ok (.aload_n 0, 1) := by decide +kernel
theorem d_Reader_next_12 : decode prog_9_method_11_code 12 = .ok (.getfield 9, 3) := by decide +kernel
theorem d_Reader_next_15 : decode prog_9_method_11_code 15 = .ok (.aload_n 0, 1) := by decide +kernel
theorem d_Reader_next_16 : decode prog_9_method_11_code 16 = .ok (.getfield 34, 3) := by decide +kernel
theorem d_Reader_next_19 : decode prog_9_method_11_code 19 = .ok (.iaload, 1) := by decide +kernel
theorem d_Reader_next_20 : decode prog_9_method_11_code 20 = .ok (.bipush 32, 2) := by decide +kernel
theorem d_Reader_next_22 : decode prog_9_method_11_code 22 = .ok (.if_icmp .eq 17, 3) := by decide +kernel
theorem d_Reader_next_25 : decode prog_9_method_11_code 25 = .ok (.aload_n 0, 1) := by decide +kernel
theorem d_Reader_next_26 : decode prog_9_method_11_code 26 = .ok (.getfield 9, 3) := by decide +kernel
theorem d_Reader_next_29 : decode prog_9_method_11_code 29 = .ok (.aload_n 0, 1) := by decide +kernel
theorem d_Reader_next_30 : decode prog_9_method_11_code 30 = .ok (.getfield 34, 3) := by decide +kernel
theorem d_Reader_next_33 : decode prog_9_method_11_code 33 = .ok (.iaload, 1) := by decide +kernel
theorem d_Reader_next_34 : decode prog_9_method_11_code 34 = .ok (.bipush 10, 2) := by decide +kernel
theorem d_Reader_next_36 : decode prog_9_method_11_code 36 = .ok (.if_icmp .ne 16, 3) := by decide +kernel
theorem d_Reader_next_39 : decode prog_9_method_11_code 39 = .ok (.aload_n 0, 1) := by decide +kernel
theorem d_Reader_next_40 : decode prog_9_method_11_code 40 = .ok (.dup, 1) := by decide +kernel
theorem d_Reader_next_41 : decode prog_9_method_11_code 41 = .ok (.getfield 34, 3) := by decide +kernel
theorem d_Reader_next_44 : decode prog_9_method_11_code 44 = .ok (.iconst 1, 1) := by decide +kernel
theorem d_Reader_next_45 : decode prog_9_method_11_code 45 = .ok (.iadd, 1) := by decide +kernel
theorem d_Reader_next_46 : decode prog_9_method_11_code 46 = .ok (.putfield 34, 3) := by decide +kernel
theorem d_Reader_next_49 : decode prog_9_method_11_code 49 = .ok (.goto (-49), 3) := by decide +kernel
theorem d_Reader_next_52 : decode prog_9_method_11_code 52 = .ok (.aload_n 0, 1) := by decide +kernel
theorem d_Reader_next_53 : decode prog_9_method_11_code 53 = .ok (.aload_n 0, 1) := by decide +kernel
theorem d_Reader_next_54 : decode prog_9_method_11_code 54 = .ok (.getfield 34, 3) := by decide +kernel
theorem d_Reader_next_57 : decode prog_9_method_11_code 57 = .ok (.putfield 50, 3) := by decide +kernel
theorem d_Reader_next_60 : decode prog_9_method_11_code 60 = .ok (.aload_n 0, 1) := by decide +kernel
theorem d_Reader_next_61 : decode prog_9_method_11_code 61 = .ok (.getfield 34, 3) := by decide +kernel
theorem d_Reader_next_64 : decode prog_9_method_11_code 64 = .ok (.aload_n 0, 1) := by decide +kernel
theorem d_Reader_next_65 : decode prog_9_method_11_code 65 = .ok (.getfield 21, 3) := by decide +kernel
theorem d_Reader_next_68 : decode prog_9_method_11_code 68 = .ok (.if_icmp .lt 11, 3) := by decide +kernel
theorem d_Reader_next_71 : decode prog_9_method_11_code 71 = .ok (.aload_n 0, 1) := by decide +kernel
theorem d_Reader_next_72 : decode prog_9_method_11_code 72 = .ok (.iconst 0, 1) := by decide +kernel
theorem d_Reader_next_73 : decode prog_9_method_11_code 73 = .ok (.putfield 53, 3) := by decide +kernel
theorem d_Reader_next_76 : decode prog_9_method_11_code 76 = .ok (.goto 51, 3) := by decide +kernel
theorem d_Reader_next_79 : decode prog_9_method_11_code 79 = .ok (.aload_n 0, 1) := by decide +kernel
theorem d_Reader_next_80 : decode prog_9_method_11_code 80 = .ok (.getfield 9, 3) := by decide +kernel
theorem d_Reader_next_83 : decode prog_9_method_11_code 83 = .ok (.aload_n 0, 1) := by decide +kernel
theorem d_Reader_next_84 : decode prog_9_method_11_code 84 = .ok (.getfield 34, 3) := by decide +kernel
theorem d_Reader_next_87 : decode prog_9_method_11_code 87 = .ok (.iaload, 1) := by decide +kernel
theorem d_Reader_next_88 : decode prog_9_method_11_code 88 = .ok (.invokestatic 84, 3) := by decide +kernel
theorem d_Reader_next_91 : decode prog_9_method_11_code 91 = .ok (.ifCond .eq 10, 3) := by decide +kernel
theorem d_Reader_next_94 : decode prog_9_method_11_code 94 = .ok (.aload_n 0, 1) := by decide +kernel
theorem d_Reader_next_95 : decode prog_9_method_11_code 95 = .ok (.invokevirtual 87, 3) := by decide +kernel
theorem d_Reader_next_98 : decode prog_9_method_11_code 98 = .ok (.goto 29, 3) := by decide +kernel
theorem d_Reader_next_101 : decode prog_9_method_11_code 101 = .ok (.aload_n 0, 1) := by decide +kernel
theorem d_Reader_next_102 : decode prog_9_method_11_code 102 = .ok (.getfield 9, 3) := by decide +kernel
theorem d_Reader_next_105 : decode prog_9_method_11_code 105 = .ok (.aload_n 0, 1) := by decide +kernel
theorem d_Reader_next_106 : decode prog_9_method_11_code 106 = .ok (.getfield 34, 3) := by decide +kernel
theorem d_Reader_next_109 : decode prog_9_method_11_code 109 = .ok (.iaload, 1) := by decide +kernel
theorem d_Reader_next_110 : decode prog_9_method_11_code 110 = .ok (.invokestatic 90, 3) := by decide +kernel
theorem d_Reader_next_113 : decode prog_9_method_11_code 113 = .ok (.ifCond .eq 10, 3) := by decide +kernel
theorem d_Reader_next_116 : decode prog_9_method_11_code 116 = .ok (.aload_n 0, 1) := by decide +kernel
theorem d_Reader_next_117 : decode prog_9_method_11_code 117 = .ok (.invokevirtual 93, 3) := by decide +kernel
theorem d_Reader_next_120 : decode prog_9_method_11_code 120 = .ok (.goto 7, 3) := by decide +kernel
theorem d_Reader_next_123 : decode prog_9_method_11_code 123 = .ok (.aload_n 0, 1) := by decide +kernel
theorem d_Reader_next_124 : decode prog_9_method_11_code 124 = .ok (.invokevirtual 96, 3) := by decide +kernel
theorem d_Reader_next_127 : decode prog_9_method_11_code 127 = .ok (.return_, 1) := by decide +kernel
def p_Reader_next_52 (Q : AH → Prop) (h : AH) : Prop := ((((wI h 25 4 (h.1 25 3)).1 25 3) < ((wI h 25 4 (h.1 25 3)).1 25 1) → 0 < rR T1 (wI h 25 4 (h.1 25 3)) 25 0 ∧ vA T1 (wI h 25 4 (h.1 25 3)) (rR T1 (wI h 25 4 (h.1 25 3)) 25 0 - 1) ∧ (rS T1 (wI h 25 4 (h.1 25 3)) (rR T1 (wI h 25 4 (h.1 25 3)) 25 0 - 1)).1 = 100 ∧ inb ((wI h 25 4 (h.1 25 3)).1 25 3) ((rS T1 (wI h 25 4 (h.1 25 3)) (rR T1 (wI h 25 4 (h.1 25 3)) 25 0 - 1)).2) ∧ p_Reader_isLetter (fun r6 h5 => ((r6 = 0 → 0 < rR T1 h5 25 0 ∧ vA T1 h5 (rR T1 h5 25 0 - 1) ∧ (rS T1 h5 (rR T1 h5 25 0 - 1)).1 = 100 ∧ inb (h5.1 25 3) ((rS T1 h5 (rR T1 h5 25 0 - 1)).2) ∧ p_Reader_isDigit (fun r12 h11 => ((r12 = 0 → p_Reader_sign (fun h13 => Q h13) h11) ∧ (¬ r12 = 0 → p_Reader_number (fun h14 => Q h14) h11))) (h5.1 (rR T1 h5 25 0 - 1) (h5.1 25 3)) h5) ∧ (¬ r6 = 0 → p_Reader_word (fun h15 => Q h15) h5))) ((wI h 25 4 (h.1 25 3)).1 (rR T1 (wI h 25 4 (h.1 25 3)) 25 0 - 1) ((wI h 25 4 (h.1 25 3)).1 25 3)) (wI h 25 4 (h.1 25 3))) ∧ (¬ ((wI h 25 4 (h.1 25 3)).1 25 3) < ((wI h 25 4 (h.1 25 3)).1 25 1) → Q (wI (wI h 25 4 (h.1 25 3)) 25 5 0)))
def p_Reader_next_39 (Q : AH → Prop) (K0 : AH → Prop) (h : AH) : Prop := K0 (wI h 25 3 ((h.1 25 3) + 1))
def p_Reader_next_0 (Q : AH → Prop) : Nat → AH → Prop
  | 0 => fun  _ => False
  | n + 1 => fun h => let K0 := p_Reader_next_0 Q n; (((h.1 25 1) ≤ (h.1 25 3) → p_Reader_next_52 Q   h) ∧ (¬ (h.1 25 1) ≤ (h.1 25 3) → 0 < rR T1 h 25 0 ∧ vA T1 h (rR T1 h 25 0 - 1) ∧ (rS T1 h (rR T1 h 25 0 - 1)).1 = 100 ∧ inb (h.1 25 3) ((rS T1 h (rR T1 h 25 0 - 1)).2) ∧ (((h.1 (rR T1 h 25 0 - 1) (h.1 25 3)) = 32 → p_Reader_next_39 Q  K0 h) ∧ (¬ (h.1 (rR T1 h 25 0 - 1) (h.1 25 3)) = 32 → ((¬ (h.1 (rR T1 h 25 0 - 1) (h.1 25 3)) = 10 → p_Reader_next_52 Q   h) ∧ ((h.1 (rR T1 h 25 0 - 1) (h.1 25 3)) = 10 → p_Reader_next_39 Q  K0 h))))))
def p_Reader_next (Q : AH → Prop) (h : AH) : Prop := ∃ n, p_Reader_next_0 Q   n h
set_option maxRecDepth 20000 in
theorem r_Reader_next_52 {G : GG} {d : Nat} {Q : AH → Prop} (h : AH) (H : p_Reader_next_52 Q h) : Att G T1 m_Reader_next (d + 7) 52 [some (.ref 25)] [] h 0 0 (vQ Q) := by
  refine A_aload_n d_Reader_next_52 rfl ?_
  refine A_aload_n d_Reader_next_53 rfl ?_
  refine A_get (v := .int (h.1 25 3)) d_Reader_next_54 (fo_Reader_34_7 rfl) (vA_s (by decide)) rfl rfl ?_
  refine A_putI (k := 4) d_Reader_next_57 (fo_Reader_50_7 rfl) (Or.inr ⟨rfl, _, ft_7_4⟩) (fun z => by cases z) rfl (vA_s (by decide)) rfl rfl rfl ?_
  refine A_aload_n d_Reader_next_60 rfl ?_
  refine A_get (v := .int ((wI h 25 4 (h.1 25 3)).1 25 3)) d_Reader_next_61 (fo_Reader_34_7 rfl) (vA_s (by decide)) rfl rfl ?_
  refine A_aload_n d_Reader_next_64 rfl ?_
  refine A_get (v := .int ((wI h 25 4 (h.1 25 3)).1 25 1)) d_Reader_next_65 (fo_Reader_21_7 rfl) (vA_s (by decide)) rfl rfl ?_
  refine A_icmp_lt 79 d_Reader_next_68 (by decide) (fun z => ?_) (fun z => ?_)
  · have H := H.1 z
    refine A_aload_n d_Reader_next_79 rfl ?_
    obtain ⟨c1, H⟩ := H
    refine A_get (v := .ref (rR T1 (wI h 25 4 (h.1 25 3)) 25 0 - 1)) d_Reader_next_80 (fo_Reader_9_7 rfl) (vA_s (by decide)) rfl (vR_pos c1) ?_
    refine A_aload_n d_Reader_next_83 rfl ?_
    refine A_get (v := .int ((wI h 25 4 (h.1 25 3)).1 25 3)) d_Reader_next_84 (fo_Reader_34_7 rfl) (vA_s (by decide)) rfl rfl ?_
    obtain ⟨c2, H⟩ := H
    obtain ⟨c3, H⟩ := H
    obtain ⟨c4, H⟩ := H
    refine A_iald (n := _) d_Reader_next_87 c2 (rS_ex c3) c4 ?_
    refine A_cI [.int ((wI h 25 4 (h.1 25 3)).1 (rR T1 (wI h 25 4 (h.1 25 3)) 25 0 - 1) ((wI h 25 4 (h.1 25 3)).1 25 3))] [] (ct_Reader_84 rfl) d_Reader_next_88 rfl rfl (by decide) (Nat.le_of_ble_eq_true rfl) trivial (ok_Reader_isLetter (d := d + 5) H) (fun r6 h5 H => ?_)
    refine A_if_eq 101 d_Reader_next_91 (by decide) (fun z => ?_) (fun z => ?_)
    · have H := H.1 z
      refine A_aload_n d_Reader_next_101 rfl ?_
      obtain ⟨c7, H⟩ := H
      refine A_get (v := .ref (rR T1 h5 25 0 - 1)) d_Reader_next_102 (fo_Reader_9_7 rfl) (vA_s (by decide)) rfl (vR_pos c7) ?_
      refine A_aload_n d_Reader_next_105 rfl ?_
      refine A_get (v := .int (h5.1 25 3)) d_Reader_next_106 (fo_Reader_34_7 rfl) (vA_s (by decide)) rfl rfl ?_
      obtain ⟨c8, H⟩ := H
      obtain ⟨c9, H⟩ := H
      obtain ⟨c10, H⟩ := H
      refine A_iald (n := _) d_Reader_next_109 c8 (rS_ex c9) c10 ?_
      refine A_cI [.int (h5.1 (rR T1 h5 25 0 - 1) (h5.1 25 3))] [] (ct_Reader_90 rfl) d_Reader_next_110 rfl rfl (by decide) (Nat.le_of_ble_eq_true rfl) trivial (ok_Reader_isDigit (d := d + 5) H) (fun r12 h11 H => ?_)
      refine A_if_eq 123 d_Reader_next_113 (by decide) (fun z => ?_) (fun z => ?_)
      · have H := H.1 z
        refine A_aload_n d_Reader_next_123 rfl ?_
        refine A_cV [.ref 25] [] (ct_Reader_96 rfl) d_Reader_next_124 rfl rfl (by decide) (Nat.le_of_ble_eq_true rfl) (rcA_o (c := 7) rfl (vA_s (by decide)) rfl (by decide) rfl) (ok_Reader_sign (d := d + 6) H) (fun h13 H => ?_)
        exact A_ret d_Reader_next_127 rfl H
      · have H := H.2 z
        refine A_aload_n d_Reader_next_116 rfl ?_
        refine A_cV [.ref 25] [] (ct_Reader_93 rfl) d_Reader_next_117 rfl rfl (by decide) (Nat.le_of_ble_eq_true rfl) (rcA_o (c := 7) rfl (vA_s (by decide)) rfl (by decide) rfl) (ok_Reader_number (d := d + 4) H) (fun h14 H => ?_)
        refine A_goto 127 d_Reader_next_120 (by decide) ?_
        exact A_ret d_Reader_next_127 rfl H
    · have H := H.2 z
      refine A_aload_n d_Reader_next_94 rfl ?_
      refine A_cV [.ref 25] [] (ct_Reader_87 rfl) d_Reader_next_95 rfl rfl (by decide) (Nat.le_of_ble_eq_true rfl) (rcA_o (c := 7) rfl (vA_s (by decide)) rfl (by decide) rfl) (ok_Reader_word (d := d) H) (fun h15 H => ?_)
      refine A_goto 127 d_Reader_next_98 (by decide) ?_
      exact A_ret d_Reader_next_127 rfl H
  · have H := H.2 z
    refine A_aload_n d_Reader_next_71 rfl ?_
    refine A_iconst 0 (by decide) d_Reader_next_72 ?_
    refine A_putI (k := 5) d_Reader_next_73 (fo_Reader_53_7 rfl) (Or.inr ⟨rfl, _, ft_7_5⟩) (fun z => by cases z) rfl (vA_s (by decide)) rfl rfl rfl ?_
    refine A_goto 127 d_Reader_next_76 (by decide) ?_
    exact A_ret d_Reader_next_127 rfl H
set_option maxRecDepth 20000 in
theorem r_Reader_next_39 {G : GG} {d : Nat} {Q : AH → Prop} {K0 : AH → Prop} (k0 : ∀ h, K0 h → Att G T1 m_Reader_next (d + 7) 0 [some (.ref 25)] [] h 0 0 (vQ Q)) (h : AH) (H : p_Reader_next_39 Q K0 h) : Att G T1 m_Reader_next (d + 7) 39 [some (.ref 25)] [] h 0 0 (vQ Q) := by
  refine A_aload_n d_Reader_next_39 rfl ?_
  refine A_dup rfl d_Reader_next_40 ?_
  refine A_get (v := .int (h.1 25 3)) d_Reader_next_41 (fo_Reader_34_7 rfl) (vA_s (by decide)) rfl rfl ?_
  refine A_iconst 1 (by decide) d_Reader_next_44 ?_
  refine A_iadd d_Reader_next_45 ?_
  refine A_putI (k := 3) d_Reader_next_46 (fo_Reader_34_7 rfl) (Or.inr ⟨rfl, _, ft_7_3⟩) (fun z => by cases z) rfl (vA_s (by decide)) rfl rfl rfl ?_
  refine A_goto 0 d_Reader_next_49 (by decide) ?_
  exact k0 _ H
set_option maxRecDepth 20000 in
theorem r_Reader_next_0 {G : GG} {d : Nat} {Q : AH → Prop} : ∀ (n : Nat) (h : AH), p_Reader_next_0 Q n h → Att G T1 m_Reader_next (d + 7) 0 [some (.ref 25)] [] h 0 0 (vQ Q) := by
  intro n
  induction n with
  | zero => intro h H; exact H.elim
  | succ n k0 =>
    intro h H
    refine A_aload_n d_Reader_next_0 rfl ?_
    refine A_get (v := .int (h.1 25 3)) d_Reader_next_1 (fo_Reader_34_7 rfl) (vA_s (by decide)) rfl rfl ?_
    refine A_aload_n d_Reader_next_4 rfl ?_
    refine A_get (v := .int (h.1 25 1)) d_Reader_next_5 (fo_Reader_21_7 rfl) (vA_s (by decide)) rfl rfl ?_
    refine A_icmp_ge 52 d_Reader_next_8 (by decide) (fun z => ?_) (fun z => ?_)
    · have H := H.1 z
      exact r_Reader_next_52   _ H
    · have H := H.2 z
      refine A_aload_n d_Reader_next_11 rfl ?_
      obtain ⟨c1, H⟩ := H
      refine A_get (v := .ref (rR T1 h 25 0 - 1)) d_Reader_next_12 (fo_Reader_9_7 rfl) (vA_s (by decide)) rfl (vR_pos c1) ?_
      refine A_aload_n d_Reader_next_15 rfl ?_
      refine A_get (v := .int (h.1 25 3)) d_Reader_next_16 (fo_Reader_34_7 rfl) (vA_s (by decide)) rfl rfl ?_
      obtain ⟨c2, H⟩ := H
      obtain ⟨c3, H⟩ := H
      obtain ⟨c4, H⟩ := H
      refine A_iald (n := _) d_Reader_next_19 c2 (rS_ex c3) c4 ?_
      refine A_bipush 32 (by decide) d_Reader_next_20 ?_
      refine A_icmp_eq 39 d_Reader_next_22 (by decide) (fun z => ?_) (fun z => ?_)
      · have H := H.1 z
        exact r_Reader_next_39  k0 _ H
      · have H := H.2 z
        refine A_aload_n d_Reader_next_25 rfl ?_
        refine A_get (v := .ref (rR T1 h 25 0 - 1)) d_Reader_next_26 (fo_Reader_9_7 rfl) (vA_s (by decide)) rfl (vR_pos c1) ?_
        refine A_aload_n d_Reader_next_29 rfl ?_
        refine A_get (v := .int (h.1 25 3)) d_Reader_next_30 (fo_Reader_34_7 rfl) (vA_s (by decide)) rfl rfl ?_
        refine A_iald (n := _) d_Reader_next_33 c2 (rS_ex c3) c4 ?_
        refine A_bipush 10 (by decide) d_Reader_next_34 ?_
        refine A_icmp_ne 52 d_Reader_next_36 (by decide) (fun z => ?_) (fun z => ?_)
        · have H := H.1 z
          exact r_Reader_next_52   _ H
        · have H := H.2 z
          exact r_Reader_next_39  k0 _ H
set_option maxRecDepth 20000 in
theorem r_Reader_next_e {G : GG} {d : Nat} {Q : AH → Prop} (h : AH) (H : p_Reader_next Q h) : Att G T1 m_Reader_next (d + 7) 0 [some (.ref 25)] [] h 0 0 (vQ Q) := by
  obtain ⟨n9, H⟩ := H
  exact r_Reader_next_0   n9 _ H
set_option maxRecDepth 20000 in
theorem ok_Reader_next {G : GG} {d : Nat} {Q : AH → Prop} {h : AH} (H : p_Reader_next Q h) : WP G T1 m_Reader_next (d + 7) [.ref 25] h 0 0 (vQ Q) := by
  exact WP.enter 0 (by decide) rfl rfl (r_Reader_next_e h H)
