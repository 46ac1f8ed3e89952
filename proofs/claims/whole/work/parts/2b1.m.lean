theorem d_MO_frees_0 : decode prog_14_method_59_code 0 = .ok (.aload_n 0, 1) := by decide +kernel
theorem d_MO_frees_1 : decode prog_14_method_59_code 1 = .ok (.iload_n 1, 1) := by decide +kernel
theorem d_MO_frees_2 : decode prog_14_method_59_code 2 = .ok (.invokevirtual 182, 3) := by decide +kernel
theorem d_MO_frees_5 : decode prog_14_method_59_code 5 = .ok (.ifCond .ne 6, 3) := by decide +kernel
theorem d_MO_frees_8 : decode prog_14_method_59_code 8 = .ok (.bipush (-5), 2) := by decide +kernel
theorem d_MO_frees_10 : decode prog_14_method_59_code 10 = .ok (.ireturn, 1) := by decide +kernel
theorem d_MO_frees_11 : decode prog_14_method_59_code 11 = .ok (.iload_n 2, 1) := by decide +kernel
theorem d_MO_frees_12 : decode prog_14_method_59_code 12 = .ok (.invokestatic 185, 3) := by decide +kernel
theorem d_MO_frees_15 : decode prog_14_method_59_code 15 = .ok (.ifCond .eq 12, 3) := by decide +kernel
theorem d_MO_frees_18 : decode prog_14_method_59_code 18 = .ok (.iload_n 3, 1) := by decide +kernel
theorem d_MO_frees_19 : decode prog_14_method_59_code 19 = .ok (.iconst 0, 1) := by decide +kernel
theorem d_MO_frees_20 : decode prog_14_method_59_code 20 = .ok (.iconst 1, 1) := by decide +kernel
theorem d_MO_frees_21 : decode prog_14_method_59_code 21 = .ok (.invokestatic 93, 3) := by decide +kernel
theorem d_MO_frees_24 : decode prog_14_method_59_code 24 = .ok (.ifCond .ne 6, 3) := by decide +kernel
theorem d_MO_frees_27 : decode prog_14_method_59_code 27 = .ok (.bipush (-7), 2) := by decide +kernel
theorem d_MO_frees_29 : decode prog_14_method_59_code 29 = .ok (.ireturn, 1) := by decide +kernel
theorem d_MO_frees_30 : decode prog_14_method_59_code 30 = .ok (.aload_n 0, 1) := by decide +kernel
theorem d_MO_frees_31 : decode prog_14_method_59_code 31 = .ok (.iload_n 2, 1) := by decide +kernel
theorem d_MO_frees_32 : decode prog_14_method_59_code 32 = .ok (.invokevirtual 241, 3) := by decide +kernel
theorem d_MO_frees_35 : decode prog_14_method_59_code 35 = .ok (.aload_n 0, 1) := by decide +kernel
theorem d_MO_frees_36 : decode prog_14_method_59_code 36 = .ok (.getfield 64, 3) := by decide +kernel
theorem d_MO_frees_39 : decode prog_14_method_59_code 39 = .ok (.iload_n 1, 1) := by decide +kernel
theorem d_MO_frees_40 : decode prog_14_method_59_code 40 = .ok (.iaload, 1) := by decide +kernel
theorem d_MO_frees_41 : decode prog_14_method_59_code 41 = .ok (.ifCond .ne 7, 3) := by decide +kernel
theorem d_MO_frees_44 : decode prog_14_method_59_code 44 = .ok (.iconst 1, 1) := by decide +kernel
theorem d_MO_frees_45 : decode prog_14_method_59_code 45 = .ok (.goto 4, 3) := by decide +kernel
theorem d_MO_frees_48 : decode prog_14_method_59_code 48 = .ok (.iconst 0, 1) := by decide +kernel
theorem d_MO_frees_49 : decode prog_14_method_59_code 49 = .ok (.istore 4, 2) := by decide +kernel
theorem d_MO_frees_51 : decode prog_14_method_59_code 51 = .ok (.iconst (-1), 1) := by decide +kernel
theorem d_MO_frees_52 : decode prog_14_method_59_code 52 = .ok (.istore 5, 2) := by decide +kernel
theorem d_MO_frees_54 : decode prog_14_method_59_code 54 = .ok (.iconst 0, 1) := by decide +kernel
theorem d_MO_frees_55 : decode prog_14_method_59_code 55 = .ok (.istore 6, 2) := by decide +kernel
theorem d_MO_frees_57 : decode prog_14_method_59_code 57 = .ok (.aload_n 0, 1) := by decide +kernel
theorem d_MO_frees_58 : decode prog_14_method_59_code 58 = .ok (.invokevirtual 256, 3) := by decide +kernel
theorem d_MO_frees_61 : decode prog_14_method_59_code 61 = .ok (.iconst 0, 1) := by decide +kernel
theorem d_MO_frees_62 : decode prog_14_method_59_code 62 = .ok (.istore 7, 2) := by decide +kernel
theorem d_MO_frees_64 : decode prog_14_method_59_code 64 = .ok (.iload 7, 2) := by decide +kernel
theorem d_MO_frees_66 : decode prog_14_method_59_code 66 = .ok (.aload_n 0, 1) := by decide +kernel
theorem d_MO_frees_67 : decode prog_14_method_59_code 67 = .ok (.getfield 90, 3) := by decide +kernel
theorem d_MO_frees_70 : decode prog_14_method_59_code 70 = .ok (.if_icmp .ge 96, 3) := by decide +kernel
theorem d_MO_frees_73 : decode prog_14_method_59_code 73 = .ok (.iload 4, 2) := by decide +kernel
theorem d_MO_frees_75 : decode prog_14_method_59_code 75 = .ok (.ifCond .ne 91, 3) := by decide +kernel
theorem d_MO_frees_78 : decode prog_14_method_59_code 78 = .ok (.aload_n 0, 1) := by decide +kernel
theorem d_MO_frees_79 : decode prog_14_method_59_code 79 = .ok (.iload 7, 2) := by decide +kernel
theorem d_MO_frees_81 : decode prog_14_method_59_code 81 = .ok (.invokevirtual 97, 3) := by decide +kernel
theorem d_MO_frees_84 : decode prog_14_method_59_code 84 = .ok (.ifCond .eq 76, 3) := by decide +kernel
theorem d_MO_frees_87 : decode prog_14_method_59_code 87 = .ok (.aload_n 0, 1) := by decide +kernel
theorem d_MO_frees_88 : decode prog_14_method_59_code 88 = .ok (.getfield 25, 3) := by decide +kernel
theorem d_MO_frees_91 : decode prog_14_method_59_code 91 = .ok (.iload 7, 2) := by decide +kernel
theorem d_MO_frees_93 : decode prog_14_method_59_code 93 = .ok (.iaload, 1) := by decide +kernel
theorem d_MO_frees_94 : decode prog_14_method_59_code 94 = .ok (.istore 8, 2) := by decide +kernel
theorem d_MO_frees_96 : decode prog_14_method_59_code 96 = .ok (.aload_n 0, 1) := by decide +kernel
theorem d_MO_frees_97 : decode prog_14_method_59_code 97 = .ok (.iload 7, 2) := by decide +kernel
theorem d_MO_frees_99 : decode prog_14_method_59_code 99 = .ok (.invokevirtual 192, 3) := by decide +kernel
theorem d_MO_frees_102 : decode prog_14_method_59_code 102 = .ok (.aload_n 0, 1) := by decide +kernel
theorem d_MO_frees_103 : decode prog_14_method_59_code 103 = .ok (.iload_n 2, 1) := by decide +kernel
theorem d_MO_frees_104 : decode prog_14_method_59_code 104 = .ok (.invokevirtual 241, 3) := by decide +kernel
theorem d_MO_frees_107 : decode prog_14_method_59_code 107 = .ok (.aload_n 0, 1) := by decide +kernel
theorem d_MO_frees_108 : decode prog_14_method_59_code 108 = .ok (.invokevirtual 259, 3) := by decide +kernel
theorem d_MO_frees_111 : decode prog_14_method_59_code 111 = .ok (.aload_n 0, 1) := by decide +kernel
theorem d_MO_frees_112 : decode prog_14_method_59_code 112 = .ok (.getfield 64, 3) := by decide +kernel
theorem d_MO_frees_115 : decode prog_14_method_59_code 115 = .ok (.iload_n 1, 1) := by decide +kernel
theorem d_MO_frees_116 : decode prog_14_method_59_code 116 = .ok (.iaload, 1) := by decide +kernel
theorem d_MO_frees_117 : decode prog_14_method_59_code 117 = .ok (.ifCond .ne 20, 3) := by decide +kernel
theorem d_MO_frees_120 : decode prog_14_method_59_code 120 = .ok (.iload 5, 2) := by decide +kernel
theorem d_MO_frees_122 : decode prog_14_method_59_code 122 = .ok (.iconst (-1), 1) := by decide +kernel
theorem d_MO_frees_123 : decode prog_14_method_59_code 123 = .ok (.if_icmp .ne 14, 3) := by decide +kernel
theorem d_MO_frees_126 : decode prog_14_method_59_code 126 = .ok (.bipush 10, 2) := by decide +kernel
theorem d_MO_frees_128 : decode prog_14_method_59_code 128 = .ok (.iload 7, 2) := by decide +kernel
theorem d_MO_frees_130 : decode prog_14_method_59_code 130 = .ok (.imul, 1) := by decide +kernel
theorem d_MO_frees_131 : decode prog_14_method_59_code 131 = .ok (.iload 8, 2) := by decide +kernel
theorem d_MO_frees_133 : decode prog_14_method_59_code 133 = .ok (.iadd, 1) := by decide +kernel
theorem d_MO_frees_134 : decode prog_14_method_59_code 134 = .ok (.goto 5, 3) := by decide +kernel
theorem d_MO_frees_137 : decode prog_14_method_59_code 137 = .ok (.iload 5, 2) := by decide +kernel
theorem d_MO_frees_139 : decode prog_14_method_59_code 139 = .ok (.istore 5, 2) := by decide +kernel
theorem d_MO_frees_141 : decode prog_14_method_59_code 141 = .ok (.iload 6, 2) := by decide +kernel
theorem d_MO_frees_143 : decode prog_14_method_59_code 143 = .ok (.aload_n 0, 1) := by decide +kernel
theorem d_MO_frees_144 : decode prog_14_method_59_code 144 = .ok (.getfield 64, 3) := by decide +kernel
theorem d_MO_frees_147 : decode prog_14_method_59_code 147 = .ok (.iload_n 1, 1) := by decide +kernel
theorem d_MO_frees_148 : decode prog_14_method_59_code 148 = .ok (.iaload, 1) := by decide +kernel
theorem d_MO_frees_149 : decode prog_14_method_59_code 149 = .ok (.ifCond .ne 7, 3) := by decide +kernel
theorem d_MO_frees_152 : decode prog_14_method_59_code 152 = .ok (.iconst 1, 1) := by decide +kernel
theorem d_MO_frees_153 : decode prog_14_method_59_code 153 = .ok (.goto 4, 3) := by decide +kernel
theorem d_MO_frees_156 : decode prog_14_method_59_code 156 = .ok (.iconst 0, 1) := by decide +kernel
theorem d_MO_frees_157 : decode prog_14_method_59_code 157 = .ok (.iadd, 1) := by decide +kernel
theorem d_MO_frees_158 : decode prog_14_method_59_code 158 = .ok (.istore 6, 2) := by decide +kernel
theorem d_MO_frees_160 : decode prog_14_method_59_code 160 = .ok (.iinc 7 1, 3) := by decide +kernel
theorem d_MO_frees_163 : decode prog_14_method_59_code 163 = .ok (.goto (-99), 3) := by decide +kernel
theorem d_MO_frees_166 : decode prog_14_method_59_code 166 = .ok (.iload_n 3, 1) := by decide +kernel
theorem d_MO_frees_167 : decode prog_14_method_59_code 167 = .ok (.ifCond .ne 8, 3) := by decide +kernel
theorem d_MO_frees_170 : decode prog_14_method_59_code 170 = .ok (.iload 5, 2) := by decide +kernel
theorem d_MO_frees_172 : decode prog_14_method_59_code 172 = .ok (.goto 5, 3) := by decide +kernel
theorem d_MO_frees_175 : decode prog_14_method_59_code 175 = .ok (.iload 6, 2) := by decide +kernel
theorem d_MO_frees_177 : decode prog_14_method_59_code 177 = .ok (.ireturn, 1) := by decide +kernel
def p_MO_frees_166 (Q : Int32 → AH → Prop) (x3 : Int32) (x5 : Int32) (x6 : Int32) (h : AH) : Prop := ((¬ x3 = 0 → Q x6 h) ∧ (x3 = 0 → Q x5 h))
def p_MO_frees_160 (Q : Int32 → AH → Prop) (K64 : Int32 → Int32 → Int32 → Int32 → Int32 → Int32 → Int32 → AH → Prop) (x1 : Int32) (x2 : Int32) (x3 : Int32) (x4 : Int32) (x5 : Int32) (x6 : Int32) (x7 : Int32) (h : AH) : Prop := K64 x1 x2 x3 x4 x5 x6 (x7 + 1) h
def p_MO_frees_157 (Q : Int32 → AH → Prop) (K64 : Int32 → Int32 → Int32 → Int32 → Int32 → Int32 → Int32 → AH → Prop) (x1 : Int32) (x2 : Int32) (x3 : Int32) (x4 : Int32) (x5 : Int32) (x7 : Int32) (s0 : Int32) (s1 : Int32) (h : AH) : Prop := p_MO_frees_160 Q  K64 x1 x2 x3 x4 x5 (s0 + s1) x7 h
def p_MO_frees_139 (Q : Int32 → AH → Prop) (K64 : Int32 → Int32 → Int32 → Int32 → Int32 → Int32 → Int32 → AH → Prop) (x1 : Int32) (x2 : Int32) (x3 : Int32) (x4 : Int32) (x6 : Int32) (x7 : Int32) (s0 : Int32) (h : AH) : Prop := inb x1 7 ∧ ((¬ (h.1 78 x1) = 0 → p_MO_frees_157 Q  K64 x1 x2 x3 x4 s0 x7 x6 0 h) ∧ ((h.1 78 x1) = 0 → p_MO_frees_157 Q  K64 x1 x2 x3 x4 s0 x7 x6 1 h))
def p_MO_frees_137 (Q : Int32 → AH → Prop) (K64 : Int32 → Int32 → Int32 → Int32 → Int32 → Int32 → Int32 → AH → Prop) (x1 : Int32) (x2 : Int32) (x3 : Int32) (x4 : Int32) (x5 : Int32) (x6 : Int32) (x7 : Int32) (h : AH) : Prop := p_MO_frees_139 Q  K64 x1 x2 x3 x4 x6 x7 x5 h
def p_MO_frees_64 (Q : Int32 → AH → Prop) : Nat → Int32 → Int32 → Int32 → Int32 → Int32 → Int32 → Int32 → AH → Prop
  | 0 => fun _ _ _ _ _ _ _ _ => False
  | n + 1 => fun x1 x2 x3 x4 x5 x6 x7 h => let K64 := p_MO_frees_64 Q n; (((h.1 59 0) ≤ x7 → p_MO_frees_166 Q   x3 x5 x6 h) ∧ (¬ (h.1 59 0) ≤ x7 → ((¬ x4 = 0 → p_MO_frees_166 Q   x3 x5 x6 h) ∧ (x4 = 0 → p_MO_isLesser (fun r2 h1 => ((r2 = 0 → p_MO_frees_160 Q  K64 x1 x2 x3 x4 x5 x6 x7 h1) ∧ (¬ r2 = 0 → inb x7 7 ∧ p_MO_comesFree (fun h4 => p_MO_lives (fun h5 => p_MO_laysBack (fun h6 => inb x1 7 ∧ ((¬ (h6.1 78 x1) = 0 → p_MO_frees_137 Q  K64 x1 x2 x3 x4 x5 x6 x7 h6) ∧ ((h6.1 78 x1) = 0 → ((¬ x5 = (-1) → p_MO_frees_137 Q  K64 x1 x2 x3 x4 x5 x6 x7 h6) ∧ (x5 = (-1) → p_MO_frees_139 Q  K64 x1 x2 x3 x4 x6 x7 ((10 * x7) + (h1.1 65 x7)) h6))))) h5) x2 h4) x7 h1))) x7 h))))
def p_MO_frees_49 (Q : Int32 → AH → Prop) (x1 : Int32) (x2 : Int32) (x3 : Int32) (s0 : Int32) (h : AH) : Prop := p_MO_keeps (fun h1 => ∃ n, p_MO_frees_64 Q   n x1 x2 x3 s0 (-1) 0 0 h1) h
def p_MO_frees (Q : Int32 → AH → Prop) (x1 : Int32) (x2 : Int32) (x3 : Int32) (h : AH) : Prop := p_MO_isHouse (fun r2 h1 => ((¬ r2 = 0 → p_MO_isMany (fun r4 h3 => ((r4 = 0 → Q (-7) h3) ∧ (¬ r4 = 0 → p_MO_in (fun r6 h5 => ((¬ r6 = 0 → p_MO_lives (fun h7 => inb x1 7 ∧ ((¬ (h7.1 78 x1) = 0 → p_MO_frees_49 Q   x1 x2 x3 0 h7) ∧ ((h7.1 78 x1) = 0 → p_MO_frees_49 Q   x1 x2 x3 1 h7))) x2 h5) ∧ (r6 = 0 → Q (-7) h5))) x3 0 1 h3))) x2 h1) ∧ (r2 = 0 → Q (-5) h1))) x1 h
set_option maxRecDepth 20000 in
theorem r_MO_frees_166 {G : GG} {d : Nat} {Q : Int32 → AH → Prop} (x3 : Int32) (x5 : Int32) (x6 : Int32) (h : AH) (H : p_MO_frees_166 Q x3 x5 x6 h) : Att G T1 m_MO_frees (d + 8) 166 [none, none, none, some (.int x3), none, some (.int x5), some (.int x6), none, none] [] h 0 0 (iQ Q) := by
  refine A_iload_n d_MO_frees_166 rfl ?_
  refine A_if_ne 175 d_MO_frees_167 (by decide) (fun z => ?_) (fun z => ?_)
  · have H := H.1 z
    refine A_iload d_MO_frees_175 rfl ?_
    exact A_iret d_MO_frees_177 rfl rfl H
  · have H := H.2 z
    refine A_iload d_MO_frees_170 rfl ?_
    refine A_goto 177 d_MO_frees_172 (by decide) ?_
    exact A_iret d_MO_frees_177 rfl rfl H
set_option maxRecDepth 20000 in
theorem r_MO_frees_160 {G : GG} {d : Nat} {Q : Int32 → AH → Prop} {K64 : Int32 → Int32 → Int32 → Int32 → Int32 → Int32 → Int32 → AH → Prop} (k64 : ∀ x1 x2 x3 x4 x5 x6 x7 h, K64 x1 x2 x3 x4 x5 x6 x7 h → Att G T1 m_MO_frees (d + 8) 64 [some (.ref 59), some (.int x1), some (.int x2), some (.int x3), some (.int x4), some (.int x5), some (.int x6), some (.int x7), none] [] h 0 0 (iQ Q)) (x1 : Int32) (x2 : Int32) (x3 : Int32) (x4 : Int32) (x5 : Int32) (x6 : Int32) (x7 : Int32) (h : AH) (H : p_MO_frees_160 Q K64 x1 x2 x3 x4 x5 x6 x7 h) : Att G T1 m_MO_frees (d + 8) 160 [some (.ref 59), some (.int x1), some (.int x2), some (.int x3), some (.int x4), some (.int x5), some (.int x6), some (.int x7), none] [] h 0 0 (iQ Q) := by
  refine A_iinc 1 [some (.ref 59), some (.int x1), some (.int x2), some (.int x3), some (.int x4), some (.int x5), some (.int x6), some (.int (x7 + 1)), none] d_MO_frees_160 rfl (by decide) (by decide) rfl rfl ?_
  refine A_goto 64 d_MO_frees_163 (by decide) ?_
  exact k64 _ _ _ _ _ _ _ _ H
set_option maxRecDepth 20000 in
theorem r_MO_frees_157 {G : GG} {d : Nat} {Q : Int32 → AH → Prop} {K64 : Int32 → Int32 → Int32 → Int32 → Int32 → Int32 → Int32 → AH → Prop} (k64 : ∀ x1 x2 x3 x4 x5 x6 x7 h, K64 x1 x2 x3 x4 x5 x6 x7 h → Att G T1 m_MO_frees (d + 8) 64 [some (.ref 59), some (.int x1), some (.int x2), some (.int x3), some (.int x4), some (.int x5), some (.int x6), some (.int x7), none] [] h 0 0 (iQ Q)) (x1 : Int32) (x2 : Int32) (x3 : Int32) (x4 : Int32) (x5 : Int32) (x7 : Int32) (s0 : Int32) (s1 : Int32) (h : AH) (H : p_MO_frees_157 Q K64 x1 x2 x3 x4 x5 x7 s0 s1 h) : Att G T1 m_MO_frees (d + 8) 157 [some (.ref 59), some (.int x1), some (.int x2), some (.int x3), some (.int x4), some (.int x5), none, some (.int x7), none] [.int s1, .int s0] h 0 0 (iQ Q) := by
  refine A_iadd d_MO_frees_157 ?_
  refine A_istore [some (.ref 59), some (.int x1), some (.int x2), some (.int x3), some (.int x4), some (.int x5), some (.int (s0 + s1)), some (.int x7), none] d_MO_frees_158 (by decide) rfl rfl ?_
  exact r_MO_frees_160  k64 _ _ _ _ _ _ _ _ H
set_option maxRecDepth 20000 in
theorem r_MO_frees_139 {G : GG} {d : Nat} {Q : Int32 → AH → Prop} {K64 : Int32 → Int32 → Int32 → Int32 → Int32 → Int32 → Int32 → AH → Prop} (k64 : ∀ x1 x2 x3 x4 x5 x6 x7 h, K64 x1 x2 x3 x4 x5 x6 x7 h → Att G T1 m_MO_frees (d + 8) 64 [some (.ref 59), some (.int x1), some (.int x2), some (.int x3), some (.int x4), some (.int x5), some (.int x6), some (.int x7), none] [] h 0 0 (iQ Q)) (x1 : Int32) (x2 : Int32) (x3 : Int32) (x4 : Int32) (x6 : Int32) (x7 : Int32) (s0 : Int32) (h : AH) (H : p_MO_frees_139 Q K64 x1 x2 x3 x4 x6 x7 s0 h) : Att G T1 m_MO_frees (d + 8) 139 [some (.ref 59), some (.int x1), some (.int x2), some (.int x3), some (.int x4), none, some (.int x6), some (.int x7), none] [.int s0] h 0 0 (iQ Q) := by
  refine A_istore [some (.ref 59), some (.int x1), some (.int x2), some (.int x3), some (.int x4), some (.int s0), some (.int x6), some (.int x7), none] d_MO_frees_139 (by decide) rfl rfl ?_
  refine A_iload d_MO_frees_141 rfl ?_
  refine A_aload_n d_MO_frees_143 rfl ?_
  refine A_get (v := .ref 78) d_MO_frees_144 (fo_MO_64_12 rfl) (vA_s (by decide)) rfl (by first | rfl | (show Value.int _ = Value.int _; simp [wI, wL, wR, wC, up])) ?_
  refine A_iload_n d_MO_frees_147 rfl ?_
  obtain ⟨c1, H⟩ := H
  refine A_ialdv (n := 7) (v := (h.1 78 x1)) d_MO_frees_148 (vA_s (by decide)) rfl c1 rfl ?_
  refine A_if_ne 156 d_MO_frees_149 (by decide) (fun z => ?_) (fun z => ?_)
  · have H := H.1 z
    refine A_iconst 0 (by decide) d_MO_frees_156 ?_
    refine A_sub (L' := [some (.ref 59), some (.int x1), some (.int x2), some (.int x3), some (.int x4), some (.int s0), none, some (.int x7), none]) ⟨rfl, rfl, rfl, rfl, rfl, rfl, rfl, trivial⟩ ?_
    exact r_MO_frees_157  k64 _ _ _ _ _ _ _ _ _ H
  · have H := H.2 z
    refine A_iconst 1 (by decide) d_MO_frees_152 ?_
    refine A_goto 157 d_MO_frees_153 (by decide) ?_
    refine A_sub (L' := [some (.ref 59), some (.int x1), some (.int x2), some (.int x3), some (.int x4), some (.int s0), none, some (.int x7), none]) ⟨rfl, rfl, rfl, rfl, rfl, rfl, rfl, trivial⟩ ?_
    exact r_MO_frees_157  k64 _ _ _ _ _ _ _ _ _ H
set_option maxRecDepth 20000 in
theorem r_MO_frees_137 {G : GG} {d : Nat} {Q : Int32 → AH → Prop} {K64 : Int32 → Int32 → Int32 → Int32 → Int32 → Int32 → Int32 → AH → Prop} (k64 : ∀ x1 x2 x3 x4 x5 x6 x7 h, K64 x1 x2 x3 x4 x5 x6 x7 h → Att G T1 m_MO_frees (d + 8) 64 [some (.ref 59), some (.int x1), some (.int x2), some (.int x3), some (.int x4), some (.int x5), some (.int x6), some (.int x7), none] [] h 0 0 (iQ Q)) (x1 : Int32) (x2 : Int32) (x3 : Int32) (x4 : Int32) (x5 : Int32) (x6 : Int32) (x7 : Int32) (h : AH) (H : p_MO_frees_137 Q K64 x1 x2 x3 x4 x5 x6 x7 h) : Att G T1 m_MO_frees (d + 8) 137 [some (.ref 59), some (.int x1), some (.int x2), some (.int x3), some (.int x4), some (.int x5), some (.int x6), some (.int x7), none] [] h 0 0 (iQ Q) := by
  refine A_iload d_MO_frees_137 rfl ?_
  refine A_sub (L' := [some (.ref 59), some (.int x1), some (.int x2), some (.int x3), some (.int x4), none, some (.int x6), some (.int x7), none]) ⟨rfl, rfl, rfl, rfl, rfl, rfl, rfl, trivial⟩ ?_
  exact r_MO_frees_139  k64 _ _ _ _ _ _ _ _ H
set_option maxRecDepth 20000 in
theorem r_MO_frees_64 {G : GG} {d : Nat} {Q : Int32 → AH → Prop} : ∀ (n : Nat) (x1 : Int32) (x2 : Int32) (x3 : Int32) (x4 : Int32) (x5 : Int32) (x6 : Int32) (x7 : Int32) (h : AH), p_MO_frees_64 Q n x1 x2 x3 x4 x5 x6 x7 h → Att G T1 m_MO_frees (d + 8) 64 [some (.ref 59), some (.int x1), some (.int x2), some (.int x3), some (.int x4), some (.int x5), some (.int x6), some (.int x7), none] [] h 0 0 (iQ Q) := by
  intro n
  induction n with
  | zero => intro x1 x2 x3 x4 x5 x6 x7 h H; exact H.elim
  | succ n k64 =>
    intro x1 x2 x3 x4 x5 x6 x7 h H
    refine A_iload d_MO_frees_64 rfl ?_
    refine A_aload_n d_MO_frees_66 rfl ?_
    refine A_get (v := .int (h.1 59 0)) d_MO_frees_67 (fo_MO_90_12 rfl) (vA_s (by decide)) rfl (by first | rfl | (show Value.int _ = Value.int _; simp [wI, wL, wR, wC, up])) ?_
    refine A_icmp_ge 166 d_MO_frees_70 (by decide) (fun z => ?_) (fun z => ?_)
    · have H := H.1 z
      refine A_sub (L' := [none, none, none, some (.int x3), none, some (.int x5), some (.int x6), none, none]) ⟨rfl, rfl, rfl, trivial⟩ ?_
      exact r_MO_frees_166   _ _ _ _ H
    · have H := H.2 z
      refine A_iload d_MO_frees_73 rfl ?_
      refine A_if_ne 166 d_MO_frees_75 (by decide) (fun z => ?_) (fun z => ?_)
      · have H := H.1 z
        refine A_sub (L' := [none, none, none, some (.int x3), none, some (.int x5), some (.int x6), none, none]) ⟨rfl, rfl, rfl, trivial⟩ ?_
        exact r_MO_frees_166   _ _ _ _ H
      · have H := H.2 z
        refine A_aload_n d_MO_frees_78 rfl ?_
        refine A_iload d_MO_frees_79 rfl ?_
        refine A_cI [.ref 59, .int x7] [] (ct_MO_97 rfl) d_MO_frees_81 rfl rfl (by decide) (Nat.le_of_ble_eq_true rfl) (rcA_o (c := 12) rfl (vA_s (by decide)) rfl (by decide) rfl) (ok_MO_isLesser (d := d + 7) H) (fun r2 h1 H => ?_)
        refine A_if_eq 160 d_MO_frees_84 (by decide) (fun z => ?_) (fun z => ?_)
        · have H := H.1 z
          exact r_MO_frees_160  k64 _ _ _ _ _ _ _ _ H
        · have H := H.2 z
          refine A_aload_n d_MO_frees_87 rfl ?_
          refine A_get (v := .ref 65) d_MO_frees_88 (fo_MO_25_12 rfl) (vA_s (by decide)) rfl (by first | rfl | (show Value.int _ = Value.int _; simp [wI, wL, wR, wC, up])) ?_
          refine A_iload d_MO_frees_91 rfl ?_
          obtain ⟨c3, H⟩ := H
          refine A_ialdv (n := 7) (v := (h1.1 65 x7)) d_MO_frees_93 (vA_s (by decide)) rfl c3 rfl ?_
          refine A_istore [some (.ref 59), some (.int x1), some (.int x2), some (.int x3), some (.int x4), some (.int x5), some (.int x6), some (.int x7), some (.int (h1.1 65 x7))] d_MO_frees_94 (by decide) rfl rfl ?_
          refine A_aload_n d_MO_frees_96 rfl ?_
          refine A_iload d_MO_frees_97 rfl ?_
          refine A_cV [.ref 59, .int x7] [] (ct_MO_192 rfl) d_MO_frees_99 rfl rfl (by decide) (Nat.le_of_ble_eq_true rfl) (rcA_o (c := 12) rfl (vA_s (by decide)) rfl (by decide) rfl) (ok_MO_comesFree (d := d + 7) H) (fun h4 H => ?_)
          refine A_aload_n d_MO_frees_102 rfl ?_
          refine A_iload_n d_MO_frees_103 rfl ?_
          refine A_cV [.ref 59, .int x2] [] (ct_MO_241 rfl) d_MO_frees_104 rfl rfl (by decide) (Nat.le_of_ble_eq_true rfl) (rcA_o (c := 12) rfl (vA_s (by decide)) rfl (by decide) rfl) (ok_MO_lives (d := d) H) (fun h5 H => ?_)
          refine A_aload_n d_MO_frees_107 rfl ?_
          refine A_cV [.ref 59] [] (ct_MO_259 rfl) d_MO_frees_108 rfl rfl (by decide) (Nat.le_of_ble_eq_true rfl) (rcA_o (c := 12) rfl (vA_s (by decide)) rfl (by decide) rfl) (ok_MO_laysBack (d := d + 7) H) (fun h6 H => ?_)
          refine A_aload_n d_MO_frees_111 rfl ?_
          refine A_get (v := .ref 78) d_MO_frees_112 (fo_MO_64_12 rfl) (vA_s (by decide)) rfl (by first | rfl | (show Value.int _ = Value.int _; simp [wI, wL, wR, wC, up])) ?_
          refine A_iload_n d_MO_frees_115 rfl ?_
          obtain ⟨c7, H⟩ := H
          refine A_ialdv (n := 7) (v := (h6.1 78 x1)) d_MO_frees_116 (vA_s (by decide)) rfl c7 rfl ?_
          refine A_if_ne 137 d_MO_frees_117 (by decide) (fun z => ?_) (fun z => ?_)
          · have H := H.1 z
            refine A_sub (L' := [some (.ref 59), some (.int x1), some (.int x2), some (.int x3), some (.int x4), some (.int x5), some (.int x6), some (.int x7), none]) ⟨rfl, rfl, rfl, rfl, rfl, rfl, rfl, rfl, trivial⟩ ?_
            exact r_MO_frees_137  k64 _ _ _ _ _ _ _ _ H
          · have H := H.2 z
            refine A_iload d_MO_frees_120 rfl ?_
            refine A_iconst (-1) (by decide) d_MO_frees_122 ?_
            refine A_icmp_ne 137 d_MO_frees_123 (by decide) (fun z => ?_) (fun z => ?_)
            · have H := H.1 z
              refine A_sub (L' := [some (.ref 59), some (.int x1), some (.int x2), some (.int x3), some (.int x4), some (.int x5), some (.int x6), some (.int x7), none]) ⟨rfl, rfl, rfl, rfl, rfl, rfl, rfl, rfl, trivial⟩ ?_
              exact r_MO_frees_137  k64 _ _ _ _ _ _ _ _ H
            · have H := H.2 z
              refine A_bipush 10 (by decide) d_MO_frees_126 ?_
              refine A_iload d_MO_frees_128 rfl ?_
              refine A_imul d_MO_frees_130 ?_
              refine A_iload d_MO_frees_131 rfl ?_
              refine A_iadd d_MO_frees_133 ?_
              refine A_goto 139 d_MO_frees_134 (by decide) ?_
              refine A_sub (L' := [some (.ref 59), some (.int x1), some (.int x2), some (.int x3), some (.int x4), none, some (.int x6), some (.int x7), none]) ⟨rfl, rfl, rfl, rfl, rfl, rfl, rfl, trivial⟩ ?_
              exact r_MO_frees_139  k64 _ _ _ _ _ _ _ _ H
set_option maxRecDepth 20000 in
theorem r_MO_frees_49 {G : GG} {d : Nat} {Q : Int32 → AH → Prop} (x1 : Int32) (x2 : Int32) (x3 : Int32) (s0 : Int32) (h : AH) (H : p_MO_frees_49 Q x1 x2 x3 s0 h) : Att G T1 m_MO_frees (d + 8) 49 [some (.ref 59), some (.int x1), some (.int x2), some (.int x3), none, none, none, none, none] [.int s0] h 0 0 (iQ Q) := by
  refine A_istore [some (.ref 59), some (.int x1), some (.int x2), some (.int x3), some (.int s0), none, none, none, none] d_MO_frees_49 (by decide) rfl rfl ?_
  refine A_iconst (-1) (by decide) d_MO_frees_51 ?_
  refine A_istore [some (.ref 59), some (.int x1), some (.int x2), some (.int x3), some (.int s0), some (.int (-1)), none, none, none] d_MO_frees_52 (by decide) rfl rfl ?_
  refine A_iconst 0 (by decide) d_MO_frees_54 ?_
  refine A_istore [some (.ref 59), some (.int x1), some (.int x2), some (.int x3), some (.int s0), some (.int (-1)), some (.int 0), none, none] d_MO_frees_55 (by decide) rfl rfl ?_
  refine A_aload_n d_MO_frees_57 rfl ?_
  refine A_cV [.ref 59] [] (ct_MO_256 rfl) d_MO_frees_58 rfl rfl (by decide) (Nat.le_of_ble_eq_true rfl) (rcA_o (c := 12) rfl (vA_s (by decide)) rfl (by decide) rfl) (ok_MO_keeps (d := d + 7) H) (fun h1 H => ?_)
  refine A_iconst 0 (by decide) d_MO_frees_61 ?_
  refine A_istore [some (.ref 59), some (.int x1), some (.int x2), some (.int x3), some (.int s0), some (.int (-1)), some (.int 0), some (.int 0), none] d_MO_frees_62 (by decide) rfl rfl ?_
  obtain ⟨n9, H⟩ := H
  exact r_MO_frees_64   n9 _ _ _ _ _ _ _ _ H
set_option maxRecDepth 20000 in
theorem r_MO_frees_0 {G : GG} {d : Nat} {Q : Int32 → AH → Prop} (x1 : Int32) (x2 : Int32) (x3 : Int32) (h : AH) (H : p_MO_frees Q x1 x2 x3 h) : Att G T1 m_MO_frees (d + 8) 0 [some (.ref 59), some (.int x1), some (.int x2), some (.int x3), none, none, none, none, none] [] h 0 0 (iQ Q) := by
  refine A_aload_n d_MO_frees_0 rfl ?_
  refine A_iload_n d_MO_frees_1 rfl ?_
  refine A_cI [.ref 59, .int x1] [] (ct_MO_182 rfl) d_MO_frees_2 rfl rfl (by decide) (Nat.le_of_ble_eq_true rfl) (rcA_o (c := 12) rfl (vA_s (by decide)) rfl (by decide) rfl) (ok_MO_isHouse (d := d + 6) H) (fun r2 h1 H => ?_)
  refine A_if_ne 11 d_MO_frees_5 (by decide) (fun z => ?_) (fun z => ?_)
  · have H := H.1 z
    refine A_iload_n d_MO_frees_11 rfl ?_
    refine A_cI [.int x2] [] (ct_MO_185 rfl) d_MO_frees_12 rfl rfl (by decide) (Nat.le_of_ble_eq_true rfl) trivial (ok_MO_isMany (d := d + 6) H) (fun r4 h3 H => ?_)
    refine A_if_eq 27 d_MO_frees_15 (by decide) (fun z => ?_) (fun z => ?_)
    · have H := H.1 z
      refine A_bipush (-7) (by decide) d_MO_frees_27 ?_
      exact A_iret d_MO_frees_29 rfl rfl H
    · have H := H.2 z
      refine A_iload_n d_MO_frees_18 rfl ?_
      refine A_iconst 0 (by decide) d_MO_frees_19 ?_
      refine A_iconst 1 (by decide) d_MO_frees_20 ?_
      refine A_cI [.int x3, .int 0, .int 1] [] (ct_MO_93 rfl) d_MO_frees_21 rfl rfl (by decide) (Nat.le_of_ble_eq_true rfl) trivial (ok_MO_in (d := d + 7) H) (fun r6 h5 H => ?_)
      refine A_if_ne 30 d_MO_frees_24 (by decide) (fun z => ?_) (fun z => ?_)
      · have H := H.1 z
        refine A_aload_n d_MO_frees_30 rfl ?_
        refine A_iload_n d_MO_frees_31 rfl ?_
        refine A_cV [.ref 59, .int x2] [] (ct_MO_241 rfl) d_MO_frees_32 rfl rfl (by decide) (Nat.le_of_ble_eq_true rfl) (rcA_o (c := 12) rfl (vA_s (by decide)) rfl (by decide) rfl) (ok_MO_lives (d := d) H) (fun h7 H => ?_)
        refine A_aload_n d_MO_frees_35 rfl ?_
        refine A_get (v := .ref 78) d_MO_frees_36 (fo_MO_64_12 rfl) (vA_s (by decide)) rfl (by first | rfl | (show Value.int _ = Value.int _; simp [wI, wL, wR, wC, up])) ?_
        refine A_iload_n d_MO_frees_39 rfl ?_
        obtain ⟨c8, H⟩ := H
        refine A_ialdv (n := 7) (v := (h7.1 78 x1)) d_MO_frees_40 (vA_s (by decide)) rfl c8 rfl ?_
        refine A_if_ne 48 d_MO_frees_41 (by decide) (fun z => ?_) (fun z => ?_)
        · have H := H.1 z
          refine A_iconst 0 (by decide) d_MO_frees_48 ?_
          exact r_MO_frees_49   _ _ _ _ _ H
        · have H := H.2 z
          refine A_iconst 1 (by decide) d_MO_frees_44 ?_
          refine A_goto 49 d_MO_frees_45 (by decide) ?_
          exact r_MO_frees_49   _ _ _ _ _ H
      · have H := H.2 z
        refine A_bipush (-7) (by decide) d_MO_frees_27 ?_
        exact A_iret d_MO_frees_29 rfl rfl H
  · have H := H.2 z
    refine A_bipush (-5) (by decide) d_MO_frees_8 ?_
    exact A_iret d_MO_frees_10 rfl rfl H
set_option maxRecDepth 20000 in
theorem ok_MO_frees {G : GG} {d : Nat} {Q : Int32 → AH → Prop} {x1 : Int32} {x2 : Int32} {x3 : Int32} {h : AH} (H : p_MO_frees Q x1 x2 x3 h) : WP G T1 m_MO_frees (d + 8) [.ref 59, .int x1, .int x2, .int x3] h 0 0 (iQ Q) := by
  exact WP.enter 5 (by decide) rfl rfl (r_MO_frees_0 x1 x2 x3 h H)
theorem d_MO_night_0 : decode prog_14_method_61_code 0 = .ok (.iload_n 1, 1) := by decide +kernel
theorem d_MO_night_1 : decode prog_14_method_61_code 1 = .ok (.invokestatic 185, 3) := by decide +kernel
theorem d_MO_night_4 : decode prog_14_method_61_code 4 = .ok (.ifCond .ne 6, 3) := by decide +kernel
theorem d_MO_night_7 : decode prog_14_method_61_code 7 = .ok (.bipush (-2), 2) := by decide +kernel
theorem d_MO_night_9 : decode prog_14_method_61_code 9 = .ok (.ireturn, 1) := by decide +kernel
theorem d_MO_night_10 : decode prog_14_method_61_code 10 = .ok (.aload_n 0, 1) := by decide +kernel
theorem d_MO_night_11 : decode prog_14_method_61_code 11 = .ok (.iload_n 1, 1) := by decide +kernel
theorem d_MO_night_12 : decode prog_14_method_61_code 12 = .ok (.invokevirtual 241, 3) := by decide +kernel
theorem d_MO_night_15 : decode prog_14_method_61_code 15 = .ok (.iconst 0, 1) := by decide +kernel
theorem d_MO_night_16 : decode prog_14_method_61_code 16 = .ok (.istore_n 2, 1) := by decide +kernel
theorem d_MO_night_17 : decode prog_14_method_61_code 17 = .ok (.iload_n 2, 1) := by decide +kernel
theorem d_MO_night_18 : decode prog_14_method_61_code 18 = .ok (.aload_n 0, 1) := by decide +kernel
theorem d_MO_night_19 : decode prog_14_method_61_code 19 = .ok (.getfield 90, 3) := by decide +kernel
theorem d_MO_night_22 : decode prog_14_method_61_code 22 = .ok (.if_icmp .ge 21, 3) := by decide +kernel
theorem d_MO_night_25 : decode prog_14_method_61_code 25 = .ok (.aload_n 0, 1) := by decide +kernel
theorem d_MO_night_26 : decode prog_14_method_61_code 26 = .ok (.getfield 19, 3) := by decide +kernel
theorem d_MO_night_29 : decode prog_14_method_61_code 29 = .ok (.iload_n 2, 1) := by decide +kernel
theorem d_MO_night_30 : decode prog_14_method_61_code 30 = .ok (.aload_n 0, 1) := by decide +kernel
theorem d_MO_night_31 : decode prog_14_method_61_code 31 = .ok (.getfield 64, 3) := by decide +kernel
theorem d_MO_night_34 : decode prog_14_method_61_code 34 = .ok (.iload_n 2, 1) := by decide +kernel
theorem d_MO_night_35 : decode prog_14_method_61_code 35 = .ok (.iaload, 1) := by decide +kernel
theorem d_MO_night_36 : decode prog_14_method_61_code 36 = .ok (.iastore, 1) := by decide +kernel
theorem d_MO_night_37 : decode prog_14_method_61_code 37 = .ok (.iinc 2 1, 3) := by decide +kernel
theorem d_MO_night_40 : decode prog_14_method_61_code 40 = .ok (.goto (-23), 3) := by decide +kernel
theorem d_MO_night_43 : decode prog_14_method_61_code 43 = .ok (.aload_n 0, 1) := by decide +kernel
theorem d_MO_night_44 : decode prog_14_method_61_code 44 = .ok (.invokevirtual 250, 3) := by decide +kernel
theorem d_MO_night_47 : decode prog_14_method_61_code 47 = .ok (.ireturn, 1) := by decide +kernel
def p_MO_night_17 (Q : Int32 → AH → Prop) : Nat → Int32 → AH → Prop
  | 0 => fun _ _ => False
  | n + 1 => fun x2 h => let K17 := p_MO_night_17 Q n; (((h.1 59 0) ≤ x2 → p_MO_downNow (fun r2 h1 => Q r2 h1) h) ∧ (¬ (h.1 59 0) ≤ x2 → inb x2 7 ∧ K17 (x2 + 1) (wI h 63 x2 (h.1 78 x2))))
def p_MO_night (Q : Int32 → AH → Prop) (x1 : Int32) (h : AH) : Prop := p_MO_isMany (fun r2 h1 => ((¬ r2 = 0 → p_MO_lives (fun h3 => ∃ n, p_MO_night_17 Q   n 0 h3) x1 h1) ∧ (r2 = 0 → Q (-2) h1))) x1 h
set_option maxRecDepth 20000 in
theorem r_MO_night_17 {G : GG} {d : Nat} {Q : Int32 → AH → Prop} : ∀ (n : Nat) (x2 : Int32) (h : AH), p_MO_night_17 Q n x2 h → Att G T1 m_MO_night (d + 8) 17 [some (.ref 59), none, some (.int x2)] [] h 0 0 (iQ Q) := by
  intro n
  induction n with
  | zero => intro x2 h H; exact H.elim
  | succ n k17 =>
    intro x2 h H
    refine A_iload_n d_MO_night_17 rfl ?_
    refine A_aload_n d_MO_night_18 rfl ?_
    refine A_get (v := .int (h.1 59 0)) d_MO_night_19 (fo_MO_90_12 rfl) (vA_s (by decide)) rfl (by first | rfl | (show Value.int _ = Value.int _; simp [wI, wL, wR, wC, up])) ?_
    refine A_icmp_ge 43 d_MO_night_22 (by decide) (fun z => ?_) (fun z => ?_)
    · have H := H.1 z
      refine A_aload_n d_MO_night_43 rfl ?_
      refine A_cI [.ref 59] [] (ct_MO_250 rfl) d_MO_night_44 rfl rfl (by decide) (Nat.le_of_ble_eq_true rfl) (rcA_o (c := 12) rfl (vA_s (by decide)) rfl (by decide) rfl) (ok_MO_downNow (d := d + 7) H) (fun r2 h1 H => ?_)
      exact A_iret d_MO_night_47 rfl rfl H
    · have H := H.2 z
      refine A_aload_n d_MO_night_25 rfl ?_
      refine A_get (v := .ref 63) d_MO_night_26 (fo_MO_19_12 rfl) (vA_s (by decide)) rfl (by first | rfl | (show Value.int _ = Value.int _; simp [wI, wL, wR, wC, up])) ?_
      refine A_iload_n d_MO_night_29 rfl ?_
      refine A_aload_n d_MO_night_30 rfl ?_
      refine A_get (v := .ref 78) d_MO_night_31 (fo_MO_64_12 rfl) (vA_s (by decide)) rfl (by first | rfl | (show Value.int _ = Value.int _; simp [wI, wL, wR, wC, up])) ?_
      refine A_iload_n d_MO_night_34 rfl ?_
      obtain ⟨c3, H⟩ := H
      refine A_ialdv (n := 7) (v := (h.1 78 x2)) d_MO_night_35 (vA_s (by decide)) rfl c3 rfl ?_
      refine A_iast (n := 7) d_MO_night_36 (vA_s (by decide)) rfl c3 ?_
      refine A_iinc 1 [some (.ref 59), none, some (.int (x2 + 1))] d_MO_night_37 rfl (by decide) (by decide) rfl rfl ?_
      refine A_goto 17 d_MO_night_40 (by decide) ?_
      exact k17 _ _ H
set_option maxRecDepth 20000 in
theorem r_MO_night_0 {G : GG} {d : Nat} {Q : Int32 → AH → Prop} (x1 : Int32) (h : AH) (H : p_MO_night Q x1 h) : Att G T1 m_MO_night (d + 8) 0 [some (.ref 59), some (.int x1), none] [] h 0 0 (iQ Q) := by
  refine A_iload_n d_MO_night_0 rfl ?_
  refine A_cI [.int x1] [] (ct_MO_185 rfl) d_MO_night_1 rfl rfl (by decide) (Nat.le_of_ble_eq_true rfl) trivial (ok_MO_isMany (d := d + 6) H) (fun r2 h1 H => ?_)
  refine A_if_ne 10 d_MO_night_4 (by decide) (fun z => ?_) (fun z => ?_)
  · have H := H.1 z
    refine A_aload_n d_MO_night_10 rfl ?_
    refine A_iload_n d_MO_night_11 rfl ?_
    refine A_cV [.ref 59, .int x1] [] (ct_MO_241 rfl) d_MO_night_12 rfl rfl (by decide) (Nat.le_of_ble_eq_true rfl) (rcA_o (c := 12) rfl (vA_s (by decide)) rfl (by decide) rfl) (ok_MO_lives (d := d) H) (fun h3 H => ?_)
    refine A_iconst 0 (by decide) d_MO_night_15 ?_
    refine A_istore_n [some (.ref 59), some (.int x1), some (.int 0)] d_MO_night_16 (by decide) rfl rfl ?_
    refine A_sub (L' := [some (.ref 59), none, some (.int 0)]) ⟨rfl, rfl, trivial⟩ ?_
    obtain ⟨n9, H⟩ := H
    exact r_MO_night_17   n9 _ _ H
  · have H := H.2 z
    refine A_bipush (-2) (by decide) d_MO_night_7 ?_
    exact A_iret d_MO_night_9 rfl rfl H
set_option maxRecDepth 20000 in
theorem ok_MO_night {G : GG} {d : Nat} {Q : Int32 → AH → Prop} {x1 : Int32} {h : AH} (H : p_MO_night Q x1 h) : WP G T1 m_MO_night (d + 8) [.ref 59, .int x1] h 0 0 (iQ Q) := by
  exact WP.enter 1 (by decide) rfl rfl (r_MO_night_0 x1 h H)
theorem d_MO_unlike_0 : decode prog_14_method_65_code 0 = .ok (.aload_n 0, 1) := by decide +kernel
theorem d_MO_unlike_1 : decode prog_14_method_65_code 1 = .ok (.iload_n 2, 1) := by decide +kernel
theorem d_MO_unlike_2 : decode prog_14_method_65_code 2 = .ok (.invokevirtual 241, 3) := by decide +kernel
theorem d_MO_unlike_5 : decode prog_14_method_65_code 5 = .ok (.iconst 0, 1) := by decide +kernel
theorem d_MO_unlike_6 : decode prog_14_method_65_code 6 = .ok (.istore_n 3, 1) := by decide +kernel
theorem d_MO_unlike_7 : decode prog_14_method_65_code 7 = .ok (.iload_n 3, 1) := by decide +kernel
theorem d_MO_unlike_8 : decode prog_14_method_65_code 8 = .ok (.aload_n 0, 1) := by decide +kernel
theorem d_MO_unlike_9 : decode prog_14_method_65_code 9 = .ok (.getfield 90, 3) := by decide +kernel
theorem d_MO_unlike_12 : decode prog_14_method_65_code 12 = .ok (.if_icmp .ge 31, 3) := by decide +kernel
theorem d_MO_unlike_15 : decode prog_14_method_65_code 15 = .ok (.aload_n 0, 1) := by decide +kernel
theorem d_MO_unlike_16 : decode prog_14_method_65_code 16 = .ok (.getfield 46, 3) := by decide +kernel
theorem d_MO_unlike_19 : decode prog_14_method_65_code 19 = .ok (.bipush 40, 2) := by decide +kernel
theorem d_MO_unlike_21 : decode prog_14_method_65_code 21 = .ok (.iload_n 1, 1) := by decide +kernel
theorem d_MO_unlike_22 : decode prog_14_method_65_code 22 = .ok (.imul, 1) := by decide +kernel
theorem d_MO_unlike_23 : decode prog_14_method_65_code 23 = .ok (.iload_n 3, 1) := by decide +kernel
theorem d_MO_unlike_24 : decode prog_14_method_65_code 24 = .ok (.iadd, 1) := by decide +kernel
theorem d_MO_unlike_25 : decode prog_14_method_65_code 25 = .ok (.iaload, 1) := by decide +kernel
theorem d_MO_unlike_26 : decode prog_14_method_65_code 26 = .ok (.aload_n 0, 1) := by decide +kernel
theorem d_MO_unlike_27 : decode prog_14_method_65_code 27 = .ok (.getfield 64, 3) := by decide +kernel
theorem d_MO_unlike_30 : decode prog_14_method_65_code 30 = .ok (.iload_n 3, 1) := by decide +kernel
theorem d_MO_unlike_31 : decode prog_14_method_65_code 31 = .ok (.iaload, 1) := by decide +kernel
theorem d_MO_unlike_32 : decode prog_14_method_65_code 32 = .ok (.if_icmp .eq 5, 3) := by decide +kernel
theorem d_MO_unlike_35 : decode prog_14_method_65_code 35 = .ok (.iload_n 3, 1) := by decide +kernel
theorem d_MO_unlike_36 : decode prog_14_method_65_code 36 = .ok (.ireturn, 1) := by decide +kernel
theorem d_MO_unlike_37 : decode prog_14_method_65_code 37 = .ok (.iinc 3 1, 3) := by decide +kernel
theorem d_MO_unlike_40 : decode prog_14_method_65_code 40 = .ok (.goto (-33), 3) := by decide +kernel
theorem d_MO_unlike_43 : decode prog_14_method_65_code 43 = .ok (.iconst (-1), 1) := by decide +kernel
theorem d_MO_unlike_44 : decode prog_14_method_65_code 44 = .ok (.ireturn, 1) := by decide +kernel
def p_MO_unlike_7 (Q : Int32 → AH → Prop) : Nat → Int32 → Int32 → AH → Prop
  | 0 => fun _ _ _ => False
  | n + 1 => fun x1 x3 h => let K7 := p_MO_unlike_7 Q n; (((h.1 59 0) ≤ x3 → Q (-1) h) ∧ (¬ (h.1 59 0) ≤ x3 → inb ((40 * x1) + x3) 160 ∧ inb x3 7 ∧ (((h.1 72 ((40 * x1) + x3)) = (h.1 78 x3) → K7 x1 (x3 + 1) h) ∧ (¬ (h.1 72 ((40 * x1) + x3)) = (h.1 78 x3) → Q x3 h))))
def p_MO_unlike (Q : Int32 → AH → Prop) (x1 : Int32) (x2 : Int32) (h : AH) : Prop := p_MO_lives (fun h1 => ∃ n, p_MO_unlike_7 Q   n x1 0 h1) x2 h
set_option maxRecDepth 20000 in
theorem r_MO_unlike_7 {G : GG} {d : Nat} {Q : Int32 → AH → Prop} : ∀ (n : Nat) (x1 : Int32) (x3 : Int32) (h : AH), p_MO_unlike_7 Q n x1 x3 h → Att G T1 m_MO_unlike (d + 8) 7 [some (.ref 59), some (.int x1), none, some (.int x3)] [] h 0 0 (iQ Q) := by
  intro n
  induction n with
  | zero => intro x1 x3 h H; exact H.elim
  | succ n k7 =>
    intro x1 x3 h H
    refine A_iload_n d_MO_unlike_7 rfl ?_
    refine A_aload_n d_MO_unlike_8 rfl ?_
    refine A_get (v := .int (h.1 59 0)) d_MO_unlike_9 (fo_MO_90_12 rfl) (vA_s (by decide)) rfl (by first | rfl | (show Value.int _ = Value.int _; simp [wI, wL, wR, wC, up])) ?_
    refine A_icmp_ge 43 d_MO_unlike_12 (by decide) (fun z => ?_) (fun z => ?_)
    · have H := H.1 z
      refine A_iconst (-1) (by decide) d_MO_unlike_43 ?_
      exact A_iret d_MO_unlike_44 rfl rfl H
    · have H := H.2 z
      refine A_aload_n d_MO_unlike_15 rfl ?_
      refine A_get (v := .ref 72) d_MO_unlike_16 (fo_MO_46_12 rfl) (vA_s (by decide)) rfl (by first | rfl | (show Value.int _ = Value.int _; simp [wI, wL, wR, wC, up])) ?_
      refine A_bipush 40 (by decide) d_MO_unlike_19 ?_
      refine A_iload_n d_MO_unlike_21 rfl ?_
      refine A_imul d_MO_unlike_22 ?_
      refine A_iload_n d_MO_unlike_23 rfl ?_
      refine A_iadd d_MO_unlike_24 ?_
      obtain ⟨c1, H⟩ := H
      refine A_ialdv (n := 160) (v := (h.1 72 ((40 * x1) + x3))) d_MO_unlike_25 (vA_s (by decide)) rfl c1 rfl ?_
      refine A_aload_n d_MO_unlike_26 rfl ?_
      refine A_get (v := .ref 78) d_MO_unlike_27 (fo_MO_64_12 rfl) (vA_s (by decide)) rfl (by first | rfl | (show Value.int _ = Value.int _; simp [wI, wL, wR, wC, up])) ?_
      refine A_iload_n d_MO_unlike_30 rfl ?_
      obtain ⟨c2, H⟩ := H
      refine A_ialdv (n := 7) (v := (h.1 78 x3)) d_MO_unlike_31 (vA_s (by decide)) rfl c2 rfl ?_
      refine A_icmp_eq 37 d_MO_unlike_32 (by decide) (fun z => ?_) (fun z => ?_)
      · have H := H.1 z
        refine A_iinc 1 [some (.ref 59), some (.int x1), none, some (.int (x3 + 1))] d_MO_unlike_37 rfl (by decide) (by decide) rfl rfl ?_
        refine A_goto 7 d_MO_unlike_40 (by decide) ?_
        exact k7 _ _ _ H
      · have H := H.2 z
        refine A_iload_n d_MO_unlike_35 rfl ?_
        exact A_iret d_MO_unlike_36 rfl rfl H
set_option maxRecDepth 20000 in
theorem r_MO_unlike_0 {G : GG} {d : Nat} {Q : Int32 → AH → Prop} (x1 : Int32) (x2 : Int32) (h : AH) (H : p_MO_unlike Q x1 x2 h) : Att G T1 m_MO_unlike (d + 8) 0 [some (.ref 59), some (.int x1), some (.int x2), none] [] h 0 0 (iQ Q) := by
  refine A_aload_n d_MO_unlike_0 rfl ?_
  refine A_iload_n d_MO_unlike_1 rfl ?_
  refine A_cV [.ref 59, .int x2] [] (ct_MO_241 rfl) d_MO_unlike_2 rfl rfl (by decide) (Nat.le_of_ble_eq_true rfl) (rcA_o (c := 12) rfl (vA_s (by decide)) rfl (by decide) rfl) (ok_MO_lives (d := d) H) (fun h1 H => ?_)
  refine A_iconst 0 (by decide) d_MO_unlike_5 ?_
  refine A_istore_n [some (.ref 59), some (.int x1), some (.int x2), some (.int 0)] d_MO_unlike_6 (by decide) rfl rfl ?_
  refine A_sub (L' := [some (.ref 59), some (.int x1), none, some (.int 0)]) ⟨rfl, rfl, rfl, trivial⟩ ?_
  obtain ⟨n9, H⟩ := H
  exact r_MO_unlike_7   n9 _ _ _ H
set_option maxRecDepth 20000 in
theorem ok_MO_unlike {G : GG} {d : Nat} {Q : Int32 → AH → Prop} {x1 : Int32} {x2 : Int32} {h : AH} (H : p_MO_unlike Q x1 x2 h) : WP G T1 m_MO_unlike (d + 8) [.ref 59, .int x1, .int x2] h 0 0 (iQ Q) := by
  exact WP.enter 1 (by decide) rfl rfl (r_MO_unlike_0 x1 x2 h H)
theorem d_MO_film_0 : decode prog_14_method_70_code 0 = .ok (.iload_n 1, 1) := by decide +kernel
theorem d_MO_film_1 : decode prog_14_method_70_code 1 = .ok (.iconst 0, 1) := by decide +kernel
theorem d_MO_film_2 : decode prog_14_method_70_code 2 = .ok (.iconst 3, 1) := by decide +kernel
theorem d_MO_film_3 : decode prog_14_method_70_code 3 = .ok (.invokestatic 93, 3) := by decide +kernel
theorem d_MO_film_6 : decode prog_14_method_70_code 6 = .ok (.ifCond .ne 6, 3) := by decide +kernel
theorem d_MO_film_9 : decode prog_14_method_70_code 9 = .ok (.bipush (-2), 2) := by decide +kernel
theorem d_MO_film_11 : decode prog_14_method_70_code 11 = .ok (.ireturn, 1) := by decide +kernel
theorem d_MO_film_12 : decode prog_14_method_70_code 12 = .ok (.iload_n 2, 1) := by decide +kernel
theorem d_MO_film_13 : decode prog_14_method_70_code 13 = .ok (.invokestatic 185, 3) := by decide +kernel
theorem d_MO_film_16 : decode prog_14_method_70_code 16 = .ok (.ifCond .ne 6, 3) := by decide +kernel
theorem d_MO_film_19 : decode prog_14_method_70_code 19 = .ok (.bipush (-7), 2) := by decide +kernel
theorem d_MO_film_21 : decode prog_14_method_70_code 21 = .ok (.ireturn, 1) := by decide +kernel
theorem d_MO_film_22 : decode prog_14_method_70_code 22 = .ok (.aload_n 0, 1) := by decide +kernel
theorem d_MO_film_23 : decode prog_14_method_70_code 23 = .ok (.iload_n 2, 1) := by decide +kernel
theorem d_MO_film_24 : decode prog_14_method_70_code 24 = .ok (.invokevirtual 241, 3) := by decide +kernel
theorem d_MO_film_27 : decode prog_14_method_70_code 27 = .ok (.aload_n 0, 1) := by decide +kernel
theorem d_MO_film_28 : decode prog_14_method_70_code 28 = .ok (.getfield 40, 3) := by decide +kernel
theorem d_MO_film_31 : decode prog_14_method_70_code 31 = .ok (.iload_n 1, 1) := by decide +kernel
theorem d_MO_film_32 : decode prog_14_method_70_code 32 = .ok (.iconst 2, 1) := by decide +kernel
theorem d_MO_film_33 : decode prog_14_method_70_code 33 = .ok (.iastore, 1) := by decide +kernel
theorem d_MO_film_34 : decode prog_14_method_70_code 34 = .ok (.aload_n 0, 1) := by decide +kernel
theorem d_MO_film_35 : decode prog_14_method_70_code 35 = .ok (.getfield 43, 3) := by decide +kernel
theorem d_MO_film_38 : decode prog_14_method_70_code 38 = .ok (.iload_n 1, 1) := by decide +kernel
theorem d_MO_film_39 : decode prog_14_method_70_code 39 = .ok (.aload_n 0, 1) := by decide +kernel
theorem d_MO_film_40 : decode prog_14_method_70_code 40 = .ok (.getfield 90, 3) := by decide +kernel
theorem d_MO_film_43 : decode prog_14_method_70_code 43 = .ok (.iastore, 1) := by decide +kernel
theorem d_MO_film_44 : decode prog_14_method_70_code 44 = .ok (.iconst 0, 1) := by decide +kernel
theorem d_MO_film_45 : decode prog_14_method_70_code 45 = .ok (.istore_n 3, 1) := by decide +kernel
theorem d_MO_film_46 : decode prog_14_method_70_code 46 = .ok (.iload_n 3, 1) := by decide +kernel
theorem d_MO_film_47 : decode prog_14_method_70_code 47 = .ok (.bipush 40, 2) := by decide +kernel
theorem d_MO_film_49 : decode prog_14_method_70_code 49 = .ok (.if_icmp .ge 38, 3) := by decide +kernel
theorem d_MO_film_52 : decode prog_14_method_70_code 52 = .ok (.aload_n 0, 1) := by decide +kernel
theorem d_MO_film_53 : decode prog_14_method_70_code 53 = .ok (.getfield 46, 3) := by decide +kernel
theorem d_MO_film_56 : decode prog_14_method_70_code 56 = .ok (.bipush 40, 2) := by decide +kernel
theorem d_MO_film_58 : decode prog_14_method_70_code 58 = .ok (.iload_n 1, 1) := by decide +kernel
theorem d_MO_film_59 : decode prog_14_method_70_code 59 = .ok (.imul, 1) := by decide +kernel
theorem d_MO_film_60 : decode prog_14_method_70_code 60 = .ok (.iload_n 3, 1) := by decide +kernel
theorem d_MO_film_61 : decode prog_14_method_70_code 61 = .ok (.iadd, 1) := by decide +kernel
theorem d_MO_film_62 : decode prog_14_method_70_code 62 = .ok (.iload_n 3, 1) := by decide +kernel
theorem d_MO_film_63 : decode prog_14_method_70_code 63 = .ok (.aload_n 0, 1) := by decide +kernel
theorem d_MO_film_64 : decode prog_14_method_70_code 64 = .ok (.getfield 90, 3) := by decide +kernel
theorem d_MO_film_67 : decode prog_14_method_70_code 67 = .ok (.if_icmp .ge 12, 3) := by decide +kernel
theorem d_MO_film_70 : decode prog_14_method_70_code 70 = .ok (.aload_n 0, 1) := by decide +kernel
theorem d_MO_film_71 : decode prog_14_method_70_code 71 = .ok (.getfield 64, 3) := by decide +kernel
theorem d_MO_film_74 : decode prog_14_method_70_code 74 = .ok (.iload_n 3, 1) := by decide +kernel
theorem d_MO_film_75 : decode prog_14_method_70_code 75 = .ok (.iaload, 1) := by decide +kernel
theorem d_MO_film_76 : decode prog_14_method_70_code 76 = .ok (.goto 4, 3) := by decide +kernel
theorem d_MO_film_79 : decode prog_14_method_70_code 79 = .ok (.iconst 0, 1) := by decide +kernel
theorem d_MO_film_80 : decode prog_14_method_70_code 80 = .ok (.iastore, 1) := by decide +kernel
theorem d_MO_film_81 : decode prog_14_method_70_code 81 = .ok (.iinc 3 1, 3) := by decide +kernel
theorem d_MO_film_84 : decode prog_14_method_70_code 84 = .ok (.goto (-38), 3) := by decide +kernel
theorem d_MO_film_87 : decode prog_14_method_70_code 87 = .ok (.aload_n 0, 1) := by decide +kernel
theorem d_MO_film_88 : decode prog_14_method_70_code 88 = .ok (.getfield 90, 3) := by decide +kernel
theorem d_MO_film_91 : decode prog_14_method_70_code 91 = .ok (.ireturn, 1) := by decide +kernel
def p_MO_film_80 (Q : Int32 → AH → Prop) (K46 : Int32 → Int32 → AH → Prop) (x1 : Int32) (x3 : Int32) (s1 : Int32) (s2 : Int32) (h : AH) : Prop := inb s1 160 ∧ K46 x1 (x3 + 1) (wI h 72 s1 s2)
def p_MO_film_46 (Q : Int32 → AH → Prop) : Nat → Int32 → Int32 → AH → Prop
  | 0 => fun _ _ _ => False
  | n + 1 => fun x1 x3 h => let K46 := p_MO_film_46 Q n; ((40 ≤ x3 → Q (h.1 59 0) h) ∧ (¬ 40 ≤ x3 → (((h.1 59 0) ≤ x3 → p_MO_film_80 Q  K46 x1 x3 ((40 * x1) + x3) 0 h) ∧ (¬ (h.1 59 0) ≤ x3 → inb x3 7 ∧ p_MO_film_80 Q  K46 x1 x3 ((40 * x1) + x3) (h.1 78 x3) h))))
def p_MO_film (Q : Int32 → AH → Prop) (x1 : Int32) (x2 : Int32) (h : AH) : Prop := p_MO_in (fun r2 h1 => ((¬ r2 = 0 → p_MO_isMany (fun r4 h3 => ((¬ r4 = 0 → p_MO_lives (fun h5 => inb x1 4 ∧ ∃ n, p_MO_film_46 Q   n x1 0 (wI (wI h5 70 x1 2) 71 x1 (h5.1 59 0))) x2 h3) ∧ (r4 = 0 → Q (-7) h3))) x2 h1) ∧ (r2 = 0 → Q (-2) h1))) x1 0 3 h
set_option maxRecDepth 20000 in
theorem r_MO_film_80 {G : GG} {d : Nat} {Q : Int32 → AH → Prop} {K46 : Int32 → Int32 → AH → Prop} (k46 : ∀ x1 x3 h, K46 x1 x3 h → Att G T1 m_MO_film (d + 8) 46 [some (.ref 59), some (.int x1), none, some (.int x3)] [] h 0 0 (iQ Q)) (x1 : Int32) (x3 : Int32) (s1 : Int32) (s2 : Int32) (h : AH) (H : p_MO_film_80 Q K46 x1 x3 s1 s2 h) : Att G T1 m_MO_film (d + 8) 80 [some (.ref 59), some (.int x1), none, some (.int x3)] [.int s2, .int s1, .ref 72] h 0 0 (iQ Q) := by
  obtain ⟨c1, H⟩ := H
  refine A_iast (n := 160) d_MO_film_80 (vA_s (by decide)) rfl c1 ?_
  refine A_iinc 1 [some (.ref 59), some (.int x1), none, some (.int (x3 + 1))] d_MO_film_81 rfl (by decide) (by decide) rfl rfl ?_
  refine A_goto 46 d_MO_film_84 (by decide) ?_
  exact k46 _ _ _ H
set_option maxRecDepth 20000 in
theorem r_MO_film_46 {G : GG} {d : Nat} {Q : Int32 → AH → Prop} : ∀ (n : Nat) (x1 : Int32) (x3 : Int32) (h : AH), p_MO_film_46 Q n x1 x3 h → Att G T1 m_MO_film (d + 8) 46 [some (.ref 59), some (.int x1), none, some (.int x3)] [] h 0 0 (iQ Q) := by
  intro n
  induction n with
  | zero => intro x1 x3 h H; exact H.elim
  | succ n k46 =>
    intro x1 x3 h H
    refine A_iload_n d_MO_film_46 rfl ?_
    refine A_bipush 40 (by decide) d_MO_film_47 ?_
    refine A_icmp_ge 87 d_MO_film_49 (by decide) (fun z => ?_) (fun z => ?_)
    · have H := H.1 z
      refine A_aload_n d_MO_film_87 rfl ?_
      refine A_get (v := .int (h.1 59 0)) d_MO_film_88 (fo_MO_90_12 rfl) (vA_s (by decide)) rfl (by first | rfl | (show Value.int _ = Value.int _; simp [wI, wL, wR, wC, up])) ?_
      exact A_iret d_MO_film_91 rfl rfl H
    · have H := H.2 z
      refine A_aload_n d_MO_film_52 rfl ?_
      refine A_get (v := .ref 72) d_MO_film_53 (fo_MO_46_12 rfl) (vA_s (by decide)) rfl (by first | rfl | (show Value.int _ = Value.int _; simp [wI, wL, wR, wC, up])) ?_
      refine A_bipush 40 (by decide) d_MO_film_56 ?_
      refine A_iload_n d_MO_film_58 rfl ?_
      refine A_imul d_MO_film_59 ?_
      refine A_iload_n d_MO_film_60 rfl ?_
      refine A_iadd d_MO_film_61 ?_
      refine A_iload_n d_MO_film_62 rfl ?_
      refine A_aload_n d_MO_film_63 rfl ?_
      refine A_get (v := .int (h.1 59 0)) d_MO_film_64 (fo_MO_90_12 rfl) (vA_s (by decide)) rfl (by first | rfl | (show Value.int _ = Value.int _; simp [wI, wL, wR, wC, up])) ?_
      refine A_icmp_ge 79 d_MO_film_67 (by decide) (fun z => ?_) (fun z => ?_)
      · have H := H.1 z
        refine A_iconst 0 (by decide) d_MO_film_79 ?_
        exact r_MO_film_80  k46 _ _ _ _ _ H
      · have H := H.2 z
        refine A_aload_n d_MO_film_70 rfl ?_
        refine A_get (v := .ref 78) d_MO_film_71 (fo_MO_64_12 rfl) (vA_s (by decide)) rfl (by first | rfl | (show Value.int _ = Value.int _; simp [wI, wL, wR, wC, up])) ?_
        refine A_iload_n d_MO_film_74 rfl ?_
        obtain ⟨c1, H⟩ := H
        refine A_ialdv (n := 7) (v := (h.1 78 x3)) d_MO_film_75 (vA_s (by decide)) rfl c1 rfl ?_
        refine A_goto 80 d_MO_film_76 (by decide) ?_
        exact r_MO_film_80  k46 _ _ _ _ _ H
set_option maxRecDepth 20000 in
theorem r_MO_film_0 {G : GG} {d : Nat} {Q : Int32 → AH → Prop} (x1 : Int32) (x2 : Int32) (h : AH) (H : p_MO_film Q x1 x2 h) : Att G T1 m_MO_film (d + 8) 0 [some (.ref 59), some (.int x1), some (.int x2), none] [] h 0 0 (iQ Q) := by
  refine A_iload_n d_MO_film_0 rfl ?_
  refine A_iconst 0 (by decide) d_MO_film_1 ?_
  refine A_iconst 3 (by decide) d_MO_film_2 ?_
  refine A_cI [.int x1, .int 0, .int 3] [] (ct_MO_93 rfl) d_MO_film_3 rfl rfl (by decide) (Nat.le_of_ble_eq_true rfl) trivial (ok_MO_in (d := d + 7) H) (fun r2 h1 H => ?_)
  refine A_if_ne 12 d_MO_film_6 (by decide) (fun z => ?_) (fun z => ?_)
  · have H := H.1 z
    refine A_iload_n d_MO_film_12 rfl ?_
    refine A_cI [.int x2] [] (ct_MO_185 rfl) d_MO_film_13 rfl rfl (by decide) (Nat.le_of_ble_eq_true rfl) trivial (ok_MO_isMany (d := d + 6) H) (fun r4 h3 H => ?_)
    refine A_if_ne 22 d_MO_film_16 (by decide) (fun z => ?_) (fun z => ?_)
    · have H := H.1 z
      refine A_aload_n d_MO_film_22 rfl ?_
      refine A_iload_n d_MO_film_23 rfl ?_
      refine A_cV [.ref 59, .int x2] [] (ct_MO_241 rfl) d_MO_film_24 rfl rfl (by decide) (Nat.le_of_ble_eq_true rfl) (rcA_o (c := 12) rfl (vA_s (by decide)) rfl (by decide) rfl) (ok_MO_lives (d := d) H) (fun h5 H => ?_)
      refine A_aload_n d_MO_film_27 rfl ?_
      refine A_get (v := .ref 70) d_MO_film_28 (fo_MO_40_12 rfl) (vA_s (by decide)) rfl (by first | rfl | (show Value.int _ = Value.int _; simp [wI, wL, wR, wC, up])) ?_
      refine A_iload_n d_MO_film_31 rfl ?_
      refine A_iconst 2 (by decide) d_MO_film_32 ?_
      obtain ⟨c6, H⟩ := H
      refine A_iast (n := 4) d_MO_film_33 (vA_s (by decide)) rfl c6 ?_
      refine A_aload_n d_MO_film_34 rfl ?_
      refine A_get (v := .ref 71) d_MO_film_35 (fo_MO_43_12 rfl) (vA_s (by decide)) rfl (by first | rfl | (show Value.int _ = Value.int _; simp [wI, wL, wR, wC, up])) ?_
      refine A_iload_n d_MO_film_38 rfl ?_
      refine A_aload_n d_MO_film_39 rfl ?_
      refine A_get (v := .int (h5.1 59 0)) d_MO_film_40 (fo_MO_90_12 rfl) (vA_s (by decide)) rfl (by first | rfl | (show Value.int _ = Value.int _; simp [wI, wL, wR, wC, up])) ?_
      refine A_iast (n := 4) d_MO_film_43 (vA_s (by decide)) rfl c6 ?_
      refine A_iconst 0 (by decide) d_MO_film_44 ?_
      refine A_istore_n [some (.ref 59), some (.int x1), some (.int x2), some (.int 0)] d_MO_film_45 (by decide) rfl rfl ?_
      refine A_sub (L' := [some (.ref 59), some (.int x1), none, some (.int 0)]) ⟨rfl, rfl, rfl, trivial⟩ ?_
      obtain ⟨n9, H⟩ := H
      exact r_MO_film_46   n9 _ _ _ H
    · have H := H.2 z
      refine A_bipush (-7) (by decide) d_MO_film_19 ?_
      exact A_iret d_MO_film_21 rfl rfl H
  · have H := H.2 z
    refine A_bipush (-2) (by decide) d_MO_film_9 ?_
    exact A_iret d_MO_film_11 rfl rfl H
set_option maxRecDepth 20000 in
theorem ok_MO_film {G : GG} {d : Nat} {Q : Int32 → AH → Prop} {x1 : Int32} {x2 : Int32} {h : AH} (H : p_MO_film Q x1 x2 h) : WP G T1 m_MO_film (d + 8) [.ref 59, .int x1, .int x2] h 0 0 (iQ Q) := by
  exact WP.enter 1 (by decide) rfl rfl (r_MO_film_0 x1 x2 h H)
theorem d_MO_drawn_0 : decode prog_14_method_73_code 0 = .ok (.iload_n 1, 1) := by decide +kernel
theorem d_MO_drawn_1 : decode prog_14_method_73_code 1 = .ok (.iload_n 2, 1) := by decide +kernel
theorem d_MO_drawn_2 : decode prog_14_method_73_code 2 = .ok (.iload_n 3, 1) := by decide +kernel
theorem d_MO_drawn_3 : decode prog_14_method_73_code 3 = .ok (.invokestatic 272, 3) := by decide +kernel
theorem d_MO_drawn_6 : decode prog_14_method_73_code 6 = .ok (.ifCond .eq 13, 3) := by decide +kernel
theorem d_MO_drawn_9 : decode prog_14_method_73_code 9 = .ok (.aload_n 0, 1) := by decide +kernel
theorem d_MO_drawn_10 : decode prog_14_method_73_code 10 = .ok (.iload_n 1, 1) := by decide +kernel
theorem d_MO_drawn_11 : decode prog_14_method_73_code 11 = .ok (.iload_n 2, 1) := by decide +kernel
theorem d_MO_drawn_12 : decode prog_14_method_73_code 12 = .ok (.iload_n 3, 1) := by decide +kernel
theorem d_MO_drawn_13 : decode prog_14_method_73_code 13 = .ok (.invokevirtual 275, 3) := by decide +kernel
theorem d_MO_drawn_16 : decode prog_14_method_73_code 16 = .ok (.goto 5, 3) := by decide +kernel
theorem d_MO_drawn_19 : decode prog_14_method_73_code 19 = .ok (.bipush (-2), 2) := by decide +kernel
theorem d_MO_drawn_21 : decode prog_14_method_73_code 21 = .ok (.ireturn, 1) := by decide +kernel
def p_MO_drawn (Q : Int32 → AH → Prop) (x1 : Int32) (x2 : Int32) (x3 : Int32) (h : AH) : Prop := p_MO_isDrawn (fun r2 h1 => ((r2 = 0 → Q (-2) h1) ∧ (¬ r2 = 0 → p_MO_downsBy (fun r4 h3 => Q r4 h3) x1 x2 x3 h1))) x1 x2 x3 h
set_option maxRecDepth 20000 in
theorem r_MO_drawn_0 {G : GG} {d : Nat} {Q : Int32 → AH → Prop} (x1 : Int32) (x2 : Int32) (x3 : Int32) (h : AH) (H : p_MO_drawn Q x1 x2 x3 h) : Att G T1 m_MO_drawn (d + 8) 0 [some (.ref 59), some (.int x1), some (.int x2), some (.int x3)] [] h 0 0 (iQ Q) := by
  refine A_iload_n d_MO_drawn_0 rfl ?_
  refine A_iload_n d_MO_drawn_1 rfl ?_
  refine A_iload_n d_MO_drawn_2 rfl ?_
  refine A_cI [.int x1, .int x2, .int x3] [] (ct_MO_272 rfl) d_MO_drawn_3 rfl rfl (by decide) (Nat.le_of_ble_eq_true rfl) trivial (ok_MO_isDrawn (d := d + 5) H) (fun r2 h1 H => ?_)
  refine A_if_eq 19 d_MO_drawn_6 (by decide) (fun z => ?_) (fun z => ?_)
  · have H := H.1 z
    refine A_bipush (-2) (by decide) d_MO_drawn_19 ?_
    exact A_iret d_MO_drawn_21 rfl rfl H
  · have H := H.2 z
    refine A_aload_n d_MO_drawn_9 rfl ?_
    refine A_iload_n d_MO_drawn_10 rfl ?_
    refine A_iload_n d_MO_drawn_11 rfl ?_
    refine A_iload_n d_MO_drawn_12 rfl ?_
    refine A_cI [.ref 59, .int x1, .int x2, .int x3] [] (ct_MO_275 rfl) d_MO_drawn_13 rfl rfl (by decide) (Nat.le_of_ble_eq_true rfl) (rcA_o (c := 12) rfl (vA_s (by decide)) rfl (by decide) rfl) (ok_MO_downsBy (d := d) H) (fun r4 h3 H => ?_)
    refine A_goto 21 d_MO_drawn_16 (by decide) ?_
    exact A_iret d_MO_drawn_21 rfl rfl H
set_option maxRecDepth 20000 in
theorem ok_MO_drawn {G : GG} {d : Nat} {Q : Int32 → AH → Prop} {x1 : Int32} {x2 : Int32} {x3 : Int32} {h : AH} (H : p_MO_drawn Q x1 x2 x3 h) : WP G T1 m_MO_drawn (d + 8) [.ref 59, .int x1, .int x2, .int x3] h 0 0 (iQ Q) := by
  exact WP.enter 0 (by decide) rfl rfl (r_MO_drawn_0 x1 x2 x3 h H)
theorem d_MO_odds_0 : decode prog_14_method_75_code 0 = .ok (.iload_n 1, 1) := by decide +kernel
theorem d_MO_odds_1 : decode prog_14_method_75_code 1 = .ok (.iload_n 2, 1) := by decide +kernel
theorem d_MO_odds_2 : decode prog_14_method_75_code 2 = .ok (.iload_n 3, 1) := by decide +kernel
theorem d_MO_odds_3 : decode prog_14_method_75_code 3 = .ok (.invokestatic 272, 3) := by decide +kernel
theorem d_MO_odds_6 : decode prog_14_method_75_code 6 = .ok (.ifCond .eq 13, 3) := by decide +kernel
theorem d_MO_odds_9 : decode prog_14_method_75_code 9 = .ok (.iload 4, 2) := by decide +kernel
theorem d_MO_odds_11 : decode prog_14_method_75_code 11 = .ok (.iconst 0, 1) := by decide +kernel
theorem d_MO_odds_12 : decode prog_14_method_75_code 12 = .ok (.iconst 1, 1) := by decide +kernel
theorem d_MO_odds_13 : decode prog_14_method_75_code 13 = .ok (.invokestatic 93, 3) := by decide +kernel
theorem d_MO_odds_16 : decode prog_14_method_75_code 16 = .ok (.ifCond .ne 7, 3) := by decide +kernel
theorem d_MO_odds_19 : decode prog_14_method_75_code 19 = .ok (.ldc2_w 278, 3) := by decide +kernel
theorem d_MO_odds_22 : decode prog_14_method_75_code 22 = .ok (.lreturn, 1) := by decide +kernel
theorem d_MO_odds_23 : decode prog_14_method_75_code 23 = .ok (.lconst 0, 1) := by decide +kernel
theorem d_MO_odds_24 : decode prog_14_method_75_code 24 = .ok (.lstore 5, 2) := by decide +kernel
theorem d_MO_odds_26 : decode prog_14_method_75_code 26 = .ok (.iconst 0, 1) := by decide +kernel
theorem d_MO_odds_27 : decode prog_14_method_75_code 27 = .ok (.istore 7, 2) := by decide +kernel
theorem d_MO_odds_29 : decode prog_14_method_75_code 29 = .ok (.iload 7, 2) := by decide +kernel
theorem d_MO_odds_31 : decode prog_14_method_75_code 31 = .ok (.bipush 20, 2) := by decide +kernel
theorem d_MO_odds_33 : decode prog_14_method_75_code 33 = .ok (.if_icmp .ge 36, 3) := by decide +kernel
theorem d_MO_odds_36 : decode prog_14_method_75_code 36 = .ok (.lload 5, 2) := by decide +kernel
theorem d_MO_odds_38 : decode prog_14_method_75_code 38 = .ok (.aload_n 0, 1) := by decide +kernel
theorem d_MO_odds_39 : decode prog_14_method_75_code 39 = .ok (.iload_n 1, 1) := by decide +kernel
theorem d_MO_odds_40 : decode prog_14_method_75_code 40 = .ok (.iload 7, 2) := by decide +kernel
theorem d_MO_odds_42 : decode prog_14_method_75_code 42 = .ok (.iadd, 1) := by decide +kernel
theorem d_MO_odds_43 : decode prog_14_method_75_code 43 = .ok (.iload_n 2, 1) := by decide +kernel
theorem d_MO_odds_44 : decode prog_14_method_75_code 44 = .ok (.iload_n 3, 1) := by decide +kernel
theorem d_MO_odds_45 : decode prog_14_method_75_code 45 = .ok (.invokevirtual 275, 3) := by decide +kernel
theorem d_MO_odds_48 : decode prog_14_method_75_code 48 = .ok (.aload_n 0, 1) := by decide +kernel
theorem d_MO_odds_49 : decode prog_14_method_75_code 49 = .ok (.getfield 90, 3) := by decide +kernel
theorem d_MO_odds_52 : decode prog_14_method_75_code 52 = .ok (.if_icmp .ne 7, 3) := by decide +kernel
theorem d_MO_odds_55 : decode prog_14_method_75_code 55 = .ok (.lconst 1, 1) := by decide +kernel
theorem d_MO_odds_56 : decode prog_14_method_75_code 56 = .ok (.goto 4, 3) := by decide +kernel
theorem d_MO_odds_59 : decode prog_14_method_75_code 59 = .ok (.lconst 0, 1) := by decide +kernel
theorem d_MO_odds_60 : decode prog_14_method_75_code 60 = .ok (.ladd, 1) := by decide +kernel
theorem d_MO_odds_61 : decode prog_14_method_75_code 61 = .ok (.lstore 5, 2) := by decide +kernel
theorem d_MO_odds_63 : decode prog_14_method_75_code 63 = .ok (.iinc 7 1, 3) := by decide +kernel
theorem d_MO_odds_66 : decode prog_14_method_75_code 66 = .ok (.goto (-37), 3) := by decide +kernel
theorem d_MO_odds_69 : decode prog_14_method_75_code 69 = .ok (.lload 5, 2) := by decide +kernel
theorem d_MO_odds_71 : decode prog_14_method_75_code 71 = .ok (.ldc2_w 280, 3) := by decide +kernel
theorem d_MO_odds_74 : decode prog_14_method_75_code 74 = .ok (.iload 4, 2) := by decide +kernel
theorem d_MO_odds_76 : decode prog_14_method_75_code 76 = .ok (.invokestatic 282, 3) := by decide +kernel
theorem d_MO_odds_79 : decode prog_14_method_75_code 79 = .ok (.lreturn, 1) := by decide +kernel
def p_MO_odds_60 (Q : Int64 → AH → Prop) (K29 : Int32 → Int32 → Int32 → Int32 → Int64 → Int32 → AH → Prop) (x1 : Int32) (x2 : Int32) (x3 : Int32) (x4 : Int32) (x7 : Int32) (s0 : Int64) (s1 : Int64) (h : AH) : Prop := K29 x1 x2 x3 x4 (s0 + s1) (x7 + 1) h
def p_MO_odds_29 (Q : Int64 → AH → Prop) : Nat → Int32 → Int32 → Int32 → Int32 → Int64 → Int32 → AH → Prop
  | 0 => fun _ _ _ _ _ _ _ => False
  | n + 1 => fun x1 x2 x3 x4 y5 x7 h => let K29 := p_MO_odds_29 Q n; ((20 ≤ x7 → p_MO_lowest (fun r2 h1 => Q r2 h1) y5 20 x4 h) ∧ (¬ 20 ≤ x7 → p_MO_downsBy (fun r4 h3 => ((¬ r4 = (h3.1 59 0) → p_MO_odds_60 Q  K29 x1 x2 x3 x4 x7 y5 0 h3) ∧ (r4 = (h3.1 59 0) → p_MO_odds_60 Q  K29 x1 x2 x3 x4 x7 y5 1 h3))) (x1 + x7) x2 x3 h))
def p_MO_odds (Q : Int64 → AH → Prop) (x1 : Int32) (x2 : Int32) (x3 : Int32) (x4 : Int32) (h : AH) : Prop := p_MO_isDrawn (fun r2 h1 => ((r2 = 0 → Q (-4611686018427387904) h1) ∧ (¬ r2 = 0 → p_MO_in (fun r4 h3 => ((¬ r4 = 0 → ∃ n, p_MO_odds_29 Q   n x1 x2 x3 x4 0 0 h3) ∧ (r4 = 0 → Q (-4611686018427387904) h3))) x4 0 1 h1))) x1 x2 x3 h
set_option maxRecDepth 20000 in
theorem r_MO_odds_60 {G : GG} {d : Nat} {Q : Int64 → AH → Prop} {K29 : Int32 → Int32 → Int32 → Int32 → Int64 → Int32 → AH → Prop} (k29 : ∀ x1 x2 x3 x4 y5 x7 h, K29 x1 x2 x3 x4 y5 x7 h → Att G T1 m_MO_odds (d + 8) 29 [some (.ref 59), some (.int x1), some (.int x2), some (.int x3), some (.int x4), some (.long y5), none, some (.int x7)] [] h 0 0 (lQ Q)) (x1 : Int32) (x2 : Int32) (x3 : Int32) (x4 : Int32) (x7 : Int32) (s0 : Int64) (s1 : Int64) (h : AH) (H : p_MO_odds_60 Q K29 x1 x2 x3 x4 x7 s0 s1 h) : Att G T1 m_MO_odds (d + 8) 60 [some (.ref 59), some (.int x1), some (.int x2), some (.int x3), some (.int x4), none, none, some (.int x7)] [.long s1, .long s0] h 0 0 (lQ Q) := by
  refine A_ladd d_MO_odds_60 ?_
  refine A_lstore [some (.ref 59), some (.int x1), some (.int x2), some (.int x3), some (.int x4), some (.long (s0 + s1)), none, some (.int x7)] d_MO_odds_61 (by decide) rfl rfl ?_
  refine A_iinc 1 [some (.ref 59), some (.int x1), some (.int x2), some (.int x3), some (.int x4), some (.long (s0 + s1)), none, some (.int (x7 + 1))] d_MO_odds_63 rfl (by decide) (by decide) rfl rfl ?_
  refine A_goto 29 d_MO_odds_66 (by decide) ?_
  exact k29 _ _ _ _ _ _ _ H
set_option maxRecDepth 20000 in
theorem r_MO_odds_29 {G : GG} {d : Nat} {Q : Int64 → AH → Prop} : ∀ (n : Nat) (x1 : Int32) (x2 : Int32) (x3 : Int32) (x4 : Int32) (y5 : Int64) (x7 : Int32) (h : AH), p_MO_odds_29 Q n x1 x2 x3 x4 y5 x7 h → Att G T1 m_MO_odds (d + 8) 29 [some (.ref 59), some (.int x1), some (.int x2), some (.int x3), some (.int x4), some (.long y5), none, some (.int x7)] [] h 0 0 (lQ Q) := by
  intro n
  induction n with
  | zero => intro x1 x2 x3 x4 y5 x7 h H; exact H.elim
  | succ n k29 =>
    intro x1 x2 x3 x4 y5 x7 h H
    refine A_iload d_MO_odds_29 rfl ?_
    refine A_bipush 20 (by decide) d_MO_odds_31 ?_
    refine A_icmp_ge 69 d_MO_odds_33 (by decide) (fun z => ?_) (fun z => ?_)
    · have H := H.1 z
      refine A_lload d_MO_odds_69 rfl ?_
      refine A_ldc2 20 d_MO_odds_71 (tG 1245 (by decide +kernel) (by decide +kernel)) ?_
      refine A_iload d_MO_odds_74 rfl ?_
      refine A_cL [.long y5, .long 20, .int x4] [] (ct_MO_282 rfl) d_MO_odds_76 rfl rfl (by decide) (Nat.le_of_ble_eq_true rfl) trivial (ok_MO_lowest (d := d + 7) H) (fun r2 h1 H => ?_)
      exact A_lret d_MO_odds_79 rfl H
    · have H := H.2 z
      refine A_lload d_MO_odds_36 rfl ?_
      refine A_aload_n d_MO_odds_38 rfl ?_
      refine A_iload_n d_MO_odds_39 rfl ?_
      refine A_iload d_MO_odds_40 rfl ?_
      refine A_iadd d_MO_odds_42 ?_
      refine A_iload_n d_MO_odds_43 rfl ?_
      refine A_iload_n d_MO_odds_44 rfl ?_
      refine A_cI [.ref 59, .int (x1 + x7), .int x2, .int x3] [.long y5] (ct_MO_275 rfl) d_MO_odds_45 rfl rfl (by decide) (Nat.le_of_ble_eq_true rfl) (rcA_o (c := 12) rfl (vA_s (by decide)) rfl (by decide) rfl) (ok_MO_downsBy (d := d) H) (fun r4 h3 H => ?_)
      refine A_aload_n d_MO_odds_48 rfl ?_
      refine A_get (v := .int (h3.1 59 0)) d_MO_odds_49 (fo_MO_90_12 rfl) (vA_s (by decide)) rfl (by first | rfl | (show Value.int _ = Value.int _; simp [wI, wL, wR, wC, up])) ?_
      refine A_icmp_ne 59 d_MO_odds_52 (by decide) (fun z => ?_) (fun z => ?_)
      · have H := H.1 z
        refine A_lconst 0 (by decide) d_MO_odds_59 ?_
        refine A_sub (L' := [some (.ref 59), some (.int x1), some (.int x2), some (.int x3), some (.int x4), none, none, some (.int x7)]) ⟨rfl, rfl, rfl, rfl, rfl, rfl, trivial⟩ ?_
        exact r_MO_odds_60  k29 _ _ _ _ _ _ _ _ H
      · have H := H.2 z
        refine A_lconst 1 (by decide) d_MO_odds_55 ?_
        refine A_goto 60 d_MO_odds_56 (by decide) ?_
        refine A_sub (L' := [some (.ref 59), some (.int x1), some (.int x2), some (.int x3), some (.int x4), none, none, some (.int x7)]) ⟨rfl, rfl, rfl, rfl, rfl, rfl, trivial⟩ ?_
        exact r_MO_odds_60  k29 _ _ _ _ _ _ _ _ H
set_option maxRecDepth 20000 in
theorem r_MO_odds_0 {G : GG} {d : Nat} {Q : Int64 → AH → Prop} (x1 : Int32) (x2 : Int32) (x3 : Int32) (x4 : Int32) (h : AH) (H : p_MO_odds Q x1 x2 x3 x4 h) : Att G T1 m_MO_odds (d + 8) 0 [some (.ref 59), some (.int x1), some (.int x2), some (.int x3), some (.int x4), none, none, none] [] h 0 0 (lQ Q) := by
  refine A_iload_n d_MO_odds_0 rfl ?_
  refine A_iload_n d_MO_odds_1 rfl ?_
  refine A_iload_n d_MO_odds_2 rfl ?_
  refine A_cI [.int x1, .int x2, .int x3] [] (ct_MO_272 rfl) d_MO_odds_3 rfl rfl (by decide) (Nat.le_of_ble_eq_true rfl) trivial (ok_MO_isDrawn (d := d + 5) H) (fun r2 h1 H => ?_)
  refine A_if_eq 19 d_MO_odds_6 (by decide) (fun z => ?_) (fun z => ?_)
  · have H := H.1 z
    refine A_ldc2 (-4611686018427387904) d_MO_odds_19 (tG 1244 (by decide +kernel) (by decide +kernel)) ?_
    exact A_lret d_MO_odds_22 rfl H
  · have H := H.2 z
    refine A_iload d_MO_odds_9 rfl ?_
    refine A_iconst 0 (by decide) d_MO_odds_11 ?_
    refine A_iconst 1 (by decide) d_MO_odds_12 ?_
    refine A_cI [.int x4, .int 0, .int 1] [] (ct_MO_93 rfl) d_MO_odds_13 rfl rfl (by decide) (Nat.le_of_ble_eq_true rfl) trivial (ok_MO_in (d := d + 7) H) (fun r4 h3 H => ?_)
    refine A_if_ne 23 d_MO_odds_16 (by decide) (fun z => ?_) (fun z => ?_)
    · have H := H.1 z
      refine A_lconst 0 (by decide) d_MO_odds_23 ?_
      refine A_lstore [some (.ref 59), some (.int x1), some (.int x2), some (.int x3), some (.int x4), some (.long 0), none, none] d_MO_odds_24 (by decide) rfl rfl ?_
      refine A_iconst 0 (by decide) d_MO_odds_26 ?_
      refine A_istore [some (.ref 59), some (.int x1), some (.int x2), some (.int x3), some (.int x4), some (.long 0), none, some (.int 0)] d_MO_odds_27 (by decide) rfl rfl ?_
      obtain ⟨n9, H⟩ := H
      exact r_MO_odds_29   n9 _ _ _ _ _ _ _ H
    · have H := H.2 z
      refine A_ldc2 (-4611686018427387904) d_MO_odds_19 (tG 1244 (by decide +kernel) (by decide +kernel)) ?_
      exact A_lret d_MO_odds_22 rfl H
set_option maxRecDepth 20000 in
theorem ok_MO_odds {G : GG} {d : Nat} {Q : Int64 → AH → Prop} {x1 : Int32} {x2 : Int32} {x3 : Int32} {x4 : Int32} {h : AH} (H : p_MO_odds Q x1 x2 x3 x4 h) : WP G T1 m_MO_odds (d + 8) [.ref 59, .int x1, .int x2, .int x3, .int x4] h 0 0 (lQ Q) := by
  exact WP.enter 3 (by decide) rfl rfl (r_MO_odds_0 x1 x2 x3 x4 h H)
theorem d_Reader_read_0 : decode prog_9_method_2_code 0 = .ok (.aload_n 0, 1) := by decide +kernel
theorem d_Reader_read_1 : decode prog_9_method_2_code 1 = .ok (.aload_n 1, 1) := by decide +kernel
theorem d_Reader_read_2 : decode prog_9_method_2_code 2 = .ok (.putfield 9, 3) := by decide +kernel
theorem d_Reader_read_5 : decode prog_9_method_2_code 5 = .ok (.aload_n 0, 1) := by decide +kernel
theorem d_Reader_read_6 : decode prog_9_method_2_code 6 = .ok (.iload_n 2, 1) := by decide +kernel
theorem d_Reader_read_7 : decode prog_9_method_2_code 7 = .ok (.aload_n 1, 1) := by decide +kernel
theorem d_Reader_read_8 : decode prog_9_method_2_code 8 = .ok (.arraylength, 1) := by decide +kernel
theorem d_Reader_read_9 : decode prog_9_method_2_code 9 = .ok (.invokestatic 15, 3) := by decide +kernel
theorem d_Reader_read_12 : decode prog_9_method_2_code 12 = .ok (.putfield 21, 3) := by decide +kernel
theorem d_Reader_read_15 : decode prog_9_method_2_code 15 = .ok (.aload_n 0, 1) := by decide +kernel
theorem d_Reader_read_16 : decode prog_9_method_2_code 16 = .ok (.aload_n 3, 1) := by decide +kernel
theorem d_Reader_read_17 : decode prog_9_method_2_code 17 = .ok (.putfield 25, 3) := by decide +kernel
theorem d_Reader_read_20 : decode prog_9_method_2_code 20 = .ok (.aload_n 0, 1) := by decide +kernel
theorem d_Reader_read_21 : decode prog_9_method_2_code 21 = .ok (.getfield 25, 3) := by decide +kernel
theorem d_Reader_read_24 : decode prog_9_method_2_code 24 = .ok (.iconst 0, 1) := by decide +kernel
theorem d_Reader_read_25 : decode prog_9_method_2_code 25 = .ok (.putfield 29, 3) := by decide +kernel
theorem d_Reader_read_28 : decode prog_9_method_2_code 28 = .ok (.aload_n 0, 1) := by decide +kernel
theorem d_Reader_read_29 : decode prog_9_method_2_code 29 = .ok (.iconst 0, 1) := by decide +kernel
theorem d_Reader_read_30 : decode prog_9_method_2_code 30 = .ok (.putfield 34, 3) := by decide +kernel
theorem d_Reader_read_33 : decode prog_9_method_2_code 33 = .ok (.aload_n 0, 1) := by decide +kernel
theorem d_Reader_read_34 : decode prog_9_method_2_code 34 = .ok (.invokevirtual 37, 3) := by decide +kernel
theorem d_Reader_read_37 : decode prog_9_method_2_code 37 = .ok (.iconst 0, 1) := by decide +kernel
theorem d_Reader_read_38 : decode prog_9_method_2_code 38 = .ok (.istore 4, 2) := by decide +kernel
theorem d_Reader_read_40 : decode prog_9_method_2_code 40 = .ok (.iload 4, 2) := by decide +kernel
theorem d_Reader_read_42 : decode prog_9_method_2_code 42 = .ok (.iconst 3, 1) := by decide +kernel
theorem d_Reader_read_43 : decode prog_9_method_2_code 43 = .ok (.if_icmp .ge 79, 3) := by decide +kernel
theorem d_Reader_read_46 : decode prog_9_method_2_code 46 = .ok (.aload_n 0, 1) := by decide +kernel
theorem d_Reader_read_47 : decode prog_9_method_2_code 47 = .ok (.getfield 25, 3) := by decide +kernel
theorem d_Reader_read_50 : decode prog_9_method_2_code 50 = .ok (.getfield 40, 3) := by decide +kernel
theorem d_Reader_read_53 : decode prog_9_method_2_code 53 = .ok (.iload 4, 2) := by decide +kernel
theorem d_Reader_read_55 : decode prog_9_method_2_code 55 = .ok (.aload_n 0, 1) := by decide +kernel
theorem d_Reader_read_56 : decode prog_9_method_2_code 56 = .ok (.getfield 25, 3) := by decide +kernel
theorem d_Reader_read_59 : decode prog_9_method_2_code 59 = .ok (.getfield 29, 3) := by decide +kernel
theorem d_Reader_read_62 : decode prog_9_method_2_code 62 = .ok (.iastore, 1) := by decide +kernel
theorem d_Reader_read_63 : decode prog_9_method_2_code 63 = .ok (.aload_n 0, 1) := by decide +kernel
theorem d_Reader_read_64 : decode prog_9_method_2_code 64 = .ok (.bipush 7, 2) := by decide +kernel
theorem d_Reader_read_66 : decode prog_9_method_2_code 66 = .ok (.iload 4, 2) := by decide +kernel
theorem d_Reader_read_68 : decode prog_9_method_2_code 68 = .ok (.iadd, 1) := by decide +kernel
theorem d_Reader_read_69 : decode prog_9_method_2_code 69 = .ok (.invokevirtual 43, 3) := by decide +kernel
theorem d_Reader_read_72 : decode prog_9_method_2_code 72 = .ok (.ifCond .eq 20, 3) := by decide +kernel
theorem d_Reader_read_75 : decode prog_9_method_2_code 75 = .ok (.aload_n 0, 1) := by decide +kernel
theorem d_Reader_read_76 : decode prog_9_method_2_code 76 = .ok (.iconst 0, 1) := by decide +kernel
theorem d_Reader_read_77 : decode prog_9_method_2_code 77 = .ok (.invokevirtual 47, 3) := by decide +kernel
theorem d_Reader_read_80 : decode prog_9_method_2_code 80 = .ok (.ifCond .eq 12, 3) := by decide +kernel
theorem d_Reader_read_83 : decode prog_9_method_2_code 83 = .ok (.aload_n 0, 1) := by decide +kernel
theorem d_Reader_read_84 : decode prog_9_method_2_code 84 = .ok (.bipush 59, 2) := by decide +kernel
theorem d_Reader_read_86 : decode prog_9_method_2_code 86 = .ok (.invokevirtual 43, 3) := by decide +kernel
theorem d_Reader_read_89 : decode prog_9_method_2_code 89 = .ok (.ifCond .ne 8, 3) := by decide +kernel
theorem d_Reader_read_92 : decode prog_9_method_2_code 92 = .ok (.aload_n 0, 1) := by decide +kernel
theorem d_Reader_read_93 : decode prog_9_method_2_code 93 = .ok (.getfield 50, 3) := by decide +kernel
theorem d_Reader_read_96 : decode prog_9_method_2_code 96 = .ok (.ireturn, 1) := by decide +kernel
theorem d_Reader_read_97 : decode prog_9_method_2_code 97 = .ok (.aload_n 0, 1) := by decide +kernel
theorem d_Reader_read_98 : decode prog_9_method_2_code 98 = .ok (.getfield 25, 3) := by decide +kernel
theorem d_Reader_read_101 : decode prog_9_method_2_code 101 = .ok (.getfield 40, 3) := by decide +kernel
theorem d_Reader_read_104 : decode prog_9_method_2_code 104 = .ok (.iload 4, 2) := by decide +kernel
theorem d_Reader_read_106 : decode prog_9_method_2_code 106 = .ok (.iconst 1, 1) := by decide +kernel
theorem d_Reader_read_107 : decode prog_9_method_2_code 107 = .ok (.iadd, 1) := by decide +kernel
theorem d_Reader_read_108 : decode prog_9_method_2_code 108 = .ok (.aload_n 0, 1) := by decide +kernel
theorem d_Reader_read_109 : decode prog_9_method_2_code 109 = .ok (.getfield 25, 3) := by decide +kernel
theorem d_Reader_read_112 : decode prog_9_method_2_code 112 = .ok (.getfield 29, 3) := by decide +kernel
theorem d_Reader_read_115 : decode prog_9_method_2_code 115 = .ok (.iastore, 1) := by decide +kernel
theorem d_Reader_read_116 : decode prog_9_method_2_code 116 = .ok (.iinc 4 1, 3) := by decide +kernel
theorem d_Reader_read_119 : decode prog_9_method_2_code 119 = .ok (.goto (-79), 3) := by decide +kernel
theorem d_Reader_read_122 : decode prog_9_method_2_code 122 = .ok (.aload_n 0, 1) := by decide +kernel
theorem d_Reader_read_123 : decode prog_9_method_2_code 123 = .ok (.getfield 53, 3) := by decide +kernel
theorem d_Reader_read_126 : decode prog_9_method_2_code 126 = .ok (.ifCond .ne 7, 3) := by decide +kernel
theorem d_Reader_read_129 : decode prog_9_method_2_code 129 = .ok (.iconst (-1), 1) := by decide +kernel
theorem d_Reader_read_130 : decode prog_9_method_2_code 130 = .ok (.goto 7, 3) := by decide +kernel
theorem d_Reader_read_133 : decode prog_9_method_2_code 133 = .ok (.aload_n 0, 1) := by decide +kernel
theorem d_Reader_read_134 : decode prog_9_method_2_code 134 = .ok (.getfield 50, 3) := by decide +kernel
theorem d_Reader_read_137 : decode prog_9_method_2_code 137 = .ok (.ireturn, 1) := by decide +kernel
def p_Reader_read_40 (Q : Int32 → AH → Prop) (P_Reader_either : (Int32 → AH → Prop) → Int32 → AH → Prop) : Nat → Int32 → AH → Prop
  | 0 => fun _ _ => False
  | n + 1 => fun x4 h => let K40 := p_Reader_read_40 Q P_Reader_either n; ((3 ≤ x4 → ((¬ (h.1 25 5) = 0 → Q (h.1 25 4) h) ∧ ((h.1 25 5) = 0 → Q (-1) h))) ∧ (¬ 3 ≤ x4 → 0 < rR T1 h 25 2 ∧ vA T1 h (rR T1 h 25 2 - 1) ∧ (rS T1 h (rR T1 h 25 2 - 1)).1 = 6 ∧ 0 < rR T1 h (rR T1 h 25 2 - 1) 1 ∧ vA T1 h (rR T1 h (rR T1 h 25 2 - 1) 1 - 1) ∧ (rS T1 h (rR T1 h (rR T1 h 25 2 - 1) 1 - 1)).1 = 100 ∧ inb x4 ((rS T1 h (rR T1 h (rR T1 h 25 2 - 1) 1 - 1)).2) ∧ p_Reader_take (fun r9 h8 => ((r9 = 0 → Q (h8.1 25 4) h8) ∧ (¬ r9 = 0 → P_Reader_either (fun r11 h10 => ((r11 = 0 → Q (h10.1 25 4) h10) ∧ (¬ r11 = 0 → p_Reader_take (fun r13 h12 => ((¬ r13 = 0 → 0 < rR T1 h12 25 2 ∧ vA T1 h12 (rR T1 h12 25 2 - 1) ∧ (rS T1 h12 (rR T1 h12 25 2 - 1)).1 = 6 ∧ 0 < rR T1 h12 (rR T1 h12 25 2 - 1) 1 ∧ vA T1 h12 (rR T1 h12 (rR T1 h12 25 2 - 1) 1 - 1) ∧ (rS T1 h12 (rR T1 h12 (rR T1 h12 25 2 - 1) 1 - 1)).1 = 100 ∧ inb (x4 + 1) ((rS T1 h12 (rR T1 h12 (rR T1 h12 25 2 - 1) 1 - 1)).2) ∧ K40 (x4 + 1) (wI h12 (rR T1 h12 (rR T1 h12 25 2 - 1) 1 - 1) (x4 + 1) (h12.1 (rR T1 h12 25 2 - 1) 2))) ∧ (r13 = 0 → Q (h12.1 25 4) h12))) 59 h10))) 0 h8))) (7 + x4) (wI h (rR T1 h (rR T1 h 25 2 - 1) 1 - 1) x4 (h.1 (rR T1 h 25 2 - 1) 2))))
def p_Reader_read (Q : Int32 → AH → Prop) (P_Reader_either : (Int32 → AH → Prop) → Int32 → AH → Prop) (a1 : Nat) (x2 : Int32) (a3 : Nat) (h : AH) : Prop := vA T1 (wR h 25 0 (a1 + 1)) a1 ∧ (rS T1 (wR h 25 0 (a1 + 1)) a1).1 = 100 ∧ p_Math_min (fun r4 h3 => 0 < rR T1 (wR h3 25 2 (a3 + 1)) 25 2 ∧ vA T1 (wR h3 25 2 (a3 + 1)) (rR T1 (wR h3 25 2 (a3 + 1)) 25 2 - 1) ∧ (rS T1 (wR h3 25 2 (a3 + 1)) (rR T1 (wR h3 25 2 (a3 + 1)) 25 2 - 1)).1 = 6 ∧ p_Reader_next (fun h8 => ∃ n, p_Reader_read_40 Q P_Reader_either  n 0 h8) (wI (wI (wR (wI h3 25 1 r4) 25 2 (a3 + 1)) (rR T1 (wR h3 25 2 (a3 + 1)) 25 2 - 1) 2 0) 25 3 0)) x2 (Int32.ofNat (rS T1 (wR h 25 0 (a1 + 1)) a1).2) (wR h 25 0 (a1 + 1))
set_option maxRecDepth 20000 in
theorem r_Reader_read_40 {G : GG} {d : Nat} {Q : Int32 → AH → Prop} {P_Reader_either : (Int32 → AH → Prop) → Int32 → AH → Prop} (hP_Reader_either : ∀ Q x1 h, P_Reader_either Q x1 h → WP G T1 m_Reader_either (d + 8) [.ref 25, .int x1] h 0 0 (iQ Q)) : ∀ (n : Nat) (x4 : Int32) (h : AH), p_Reader_read_40 Q P_Reader_either n x4 h → Att G T1 m_Reader_read (d + 9) 40 [some (.ref 25), none, none, none, some (.int x4)] [] h 0 0 (iQ Q) := by
  intro n
  induction n with
  | zero => intro x4 h H; exact H.elim
  | succ n k40 =>
    intro x4 h H
    refine A_iload d_Reader_read_40 rfl ?_
    refine A_iconst 3 (by decide) d_Reader_read_42 ?_
    refine A_icmp_ge 122 d_Reader_read_43 (by decide) (fun z => ?_) (fun z => ?_)
    · have H := H.1 z
      refine A_aload_n d_Reader_read_122 rfl ?_
      refine A_get (v := .int (h.1 25 5)) d_Reader_read_123 (fo_Reader_53_7 rfl) (vA_s (by decide)) rfl (by first | rfl | (show Value.int _ = Value.int _; simp [wI, wL, wR, wC, up])) ?_
      refine A_if_ne 133 d_Reader_read_126 (by decide) (fun z => ?_) (fun z => ?_)
      · have H := H.1 z
        refine A_aload_n d_Reader_read_133 rfl ?_
        refine A_get (v := .int (h.1 25 4)) d_Reader_read_134 (fo_Reader_50_7 rfl) (vA_s (by decide)) rfl (by first | rfl | (show Value.int _ = Value.int _; simp [wI, wL, wR, wC, up])) ?_
        exact A_iret d_Reader_read_137 rfl rfl H
      · have H := H.2 z
        refine A_iconst (-1) (by decide) d_Reader_read_129 ?_
        refine A_goto 137 d_Reader_read_130 (by decide) ?_
        exact A_iret d_Reader_read_137 rfl rfl H
    · have H := H.2 z
      refine A_aload_n d_Reader_read_46 rfl ?_
      obtain ⟨c1, H⟩ := H
      refine A_get (v := .ref (rR T1 h 25 2 - 1)) d_Reader_read_47 (fo_Reader_25_7 rfl) (vA_s (by decide)) rfl (vR_pos c1) ?_
      obtain ⟨c2, H⟩ := H
      obtain ⟨c3, H⟩ := H
      obtain ⟨c4, H⟩ := H
      refine A_get (v := .ref (rR T1 h (rR T1 h 25 2 - 1) 1 - 1)) d_Reader_read_50 (fo_Reader_40_6 rfl) c2 c3 (vR_pos c4) ?_
      refine A_iload d_Reader_read_53 rfl ?_
      refine A_aload_n d_Reader_read_55 rfl ?_
      refine A_get (v := .ref (rR T1 h 25 2 - 1)) d_Reader_read_56 (fo_Reader_25_7 rfl) (vA_s (by decide)) rfl (vR_pos c1) ?_
      refine A_get (v := .int (h.1 (rR T1 h 25 2 - 1) 2)) d_Reader_read_59 (fo_Reader_29_6 rfl) c2 c3 (by first | rfl | (show Value.int _ = Value.int _; simp [wI, wL, wR, wC, up])) ?_
      obtain ⟨c5, H⟩ := H
      obtain ⟨c6, H⟩ := H
      obtain ⟨c7, H⟩ := H
      refine A_iast (n := _) d_Reader_read_62 c5 (rS_ex c6) c7 ?_
      refine A_aload_n d_Reader_read_63 rfl ?_
      refine A_bipush 7 (by decide) d_Reader_read_64 ?_
      refine A_iload d_Reader_read_66 rfl ?_
      refine A_iadd d_Reader_read_68 ?_
      refine A_cI [.ref 25, .int (7 + x4)] [] (ct_Reader_43 rfl) d_Reader_read_69 rfl rfl (by decide) (Nat.le_of_ble_eq_true rfl) (rcA_o (c := 7) rfl (vA_s (by decide)) rfl (by decide) rfl) (ok_Reader_take (d := d) H) (fun r9 h8 H => ?_)
      refine A_if_eq 92 d_Reader_read_72 (by decide) (fun z => ?_) (fun z => ?_)
      · have H := H.1 z
        refine A_aload_n d_Reader_read_92 rfl ?_
        refine A_get (v := .int (h8.1 25 4)) d_Reader_read_93 (fo_Reader_50_7 rfl) (vA_s (by decide)) rfl (by first | rfl | (show Value.int _ = Value.int _; simp [wI, wL, wR, wC, up])) ?_
        exact A_iret d_Reader_read_96 rfl rfl H
      · have H := H.2 z
        refine A_aload_n d_Reader_read_75 rfl ?_
        refine A_iconst 0 (by decide) d_Reader_read_76 ?_
        refine A_cI [.ref 25, .int 0] [] (ct_Reader_47 rfl) d_Reader_read_77 rfl rfl (by decide) (Nat.le_of_ble_eq_true rfl) (rcA_o (c := 7) rfl (vA_s (by decide)) rfl (by decide) rfl) (hP_Reader_either _ _ _ H) (fun r11 h10 H => ?_)
        refine A_if_eq 92 d_Reader_read_80 (by decide) (fun z => ?_) (fun z => ?_)
        · have H := H.1 z
          refine A_aload_n d_Reader_read_92 rfl ?_
          refine A_get (v := .int (h10.1 25 4)) d_Reader_read_93 (fo_Reader_50_7 rfl) (vA_s (by decide)) rfl (by first | rfl | (show Value.int _ = Value.int _; simp [wI, wL, wR, wC, up])) ?_
          exact A_iret d_Reader_read_96 rfl rfl H
        · have H := H.2 z
          refine A_aload_n d_Reader_read_83 rfl ?_
          refine A_bipush 59 (by decide) d_Reader_read_84 ?_
          refine A_cI [.ref 25, .int 59] [] (ct_Reader_43 rfl) d_Reader_read_86 rfl rfl (by decide) (Nat.le_of_ble_eq_true rfl) (rcA_o (c := 7) rfl (vA_s (by decide)) rfl (by decide) rfl) (ok_Reader_take (d := d) H) (fun r13 h12 H => ?_)
          refine A_if_ne 97 d_Reader_read_89 (by decide) (fun z => ?_) (fun z => ?_)
          · have H := H.1 z
            refine A_aload_n d_Reader_read_97 rfl ?_
            obtain ⟨c14, H⟩ := H
            refine A_get (v := .ref (rR T1 h12 25 2 - 1)) d_Reader_read_98 (fo_Reader_25_7 rfl) (vA_s (by decide)) rfl (vR_pos c14) ?_
            obtain ⟨c15, H⟩ := H
            obtain ⟨c16, H⟩ := H
            obtain ⟨c17, H⟩ := H
            refine A_get (v := .ref (rR T1 h12 (rR T1 h12 25 2 - 1) 1 - 1)) d_Reader_read_101 (fo_Reader_40_6 rfl) c15 c16 (vR_pos c17) ?_
            refine A_iload d_Reader_read_104 rfl ?_
            refine A_iconst 1 (by decide) d_Reader_read_106 ?_
            refine A_iadd d_Reader_read_107 ?_
            refine A_aload_n d_Reader_read_108 rfl ?_
            refine A_get (v := .ref (rR T1 h12 25 2 - 1)) d_Reader_read_109 (fo_Reader_25_7 rfl) (vA_s (by decide)) rfl (vR_pos c14) ?_
            refine A_get (v := .int (h12.1 (rR T1 h12 25 2 - 1) 2)) d_Reader_read_112 (fo_Reader_29_6 rfl) c15 c16 (by first | rfl | (show Value.int _ = Value.int _; simp [wI, wL, wR, wC, up])) ?_
            obtain ⟨c18, H⟩ := H
            obtain ⟨c19, H⟩ := H
            obtain ⟨c20, H⟩ := H
            refine A_iast (n := _) d_Reader_read_115 c18 (rS_ex c19) c20 ?_
            refine A_iinc 1 [some (.ref 25), none, none, none, some (.int (x4 + 1))] d_Reader_read_116 rfl (by decide) (by decide) rfl rfl ?_
            refine A_goto 40 d_Reader_read_119 (by decide) ?_
            exact k40 _ _ H
          · have H := H.2 z
            refine A_aload_n d_Reader_read_92 rfl ?_
            refine A_get (v := .int (h12.1 25 4)) d_Reader_read_93 (fo_Reader_50_7 rfl) (vA_s (by decide)) rfl (by first | rfl | (show Value.int _ = Value.int _; simp [wI, wL, wR, wC, up])) ?_
            exact A_iret d_Reader_read_96 rfl rfl H
set_option maxRecDepth 20000 in
theorem r_Reader_read_0 {G : GG} {d : Nat} {Q : Int32 → AH → Prop} {P_Reader_either : (Int32 → AH → Prop) → Int32 → AH → Prop} (hP_Reader_either : ∀ Q x1 h, P_Reader_either Q x1 h → WP G T1 m_Reader_either (d + 8) [.ref 25, .int x1] h 0 0 (iQ Q)) (a1 : Nat) (x2 : Int32) (a3 : Nat) (h : AH) (H : p_Reader_read Q P_Reader_either a1 x2 a3 h) : Att G T1 m_Reader_read (d + 9) 0 [some (.ref 25), some (.ref a1), some (.int x2), some (.ref a3), none] [] h 0 0 (iQ Q) := by
  refine A_aload_n d_Reader_read_0 rfl ?_
  refine A_aload_n d_Reader_read_1 rfl ?_
  refine A_putR (k := 0) d_Reader_read_2 (fo_Reader_9_7 rfl) (Or.inr ⟨rfl, _, ft_7_0⟩) (fun z => by cases z) rfl (vA_s (by decide)) rfl rfl (fun _ => rfl) (fun _ => rfl) ?_
  refine A_aload_n d_Reader_read_5 rfl ?_
  refine A_iload_n d_Reader_read_6 rfl ?_
  refine A_aload_n d_Reader_read_7 rfl ?_
  obtain ⟨c1, H⟩ := H
  obtain ⟨c2, H⟩ := H
  refine A_alenI d_Reader_read_8 c1 (rS_ex c2) ?_
  refine A_cI [.int x2, .int (Int32.ofNat (rS T1 (wR h 25 0 (a1 + 1)) a1).2)] [.ref 25] (ct_Reader_15 rfl) d_Reader_read_9 rfl rfl (by decide) (Nat.le_of_ble_eq_true rfl) trivial (ok_Math_min (d := d + 8) H) (fun r4 h3 H => ?_)
  refine A_putI (k := 1) d_Reader_read_12 (fo_Reader_21_7 rfl) (Or.inr ⟨rfl, _, ft_7_1⟩) (fun z => by cases z) rfl (vA_s (by decide)) rfl rfl rfl ?_
  refine A_aload_n d_Reader_read_15 rfl ?_
  refine A_aload_n d_Reader_read_16 rfl ?_
  refine A_putR (k := 2) d_Reader_read_17 (fo_Reader_25_7 rfl) (Or.inr ⟨rfl, _, ft_7_2⟩) (fun z => by cases z) rfl (vA_s (by decide)) rfl rfl (fun _ => rfl) (fun _ => rfl) ?_
  refine A_aload_n d_Reader_read_20 rfl ?_
  obtain ⟨c5, H⟩ := H
  refine A_get (v := .ref (rR T1 (wR h3 25 2 (a3 + 1)) 25 2 - 1)) d_Reader_read_21 (fo_Reader_25_7 rfl) (vA_s (by decide)) rfl (vR_pos c5) ?_
  refine A_iconst 0 (by decide) d_Reader_read_24 ?_
  obtain ⟨c6, H⟩ := H
  obtain ⟨c7, H⟩ := H
  refine A_putI (k := 2) d_Reader_read_25 (fo_Reader_29_6 rfl) (Or.inr ⟨rfl, _, ft_6_2⟩) (fun z => by cases z) rfl c6 c7 rfl rfl ?_
  refine A_aload_n d_Reader_read_28 rfl ?_
  refine A_iconst 0 (by decide) d_Reader_read_29 ?_
  refine A_putI (k := 3) d_Reader_read_30 (fo_Reader_34_7 rfl) (Or.inr ⟨rfl, _, ft_7_3⟩) (fun z => by cases z) rfl (vA_s (by decide)) rfl rfl rfl ?_
  refine A_aload_n d_Reader_read_33 rfl ?_
  refine A_cV [.ref 25] [] (ct_Reader_37 rfl) d_Reader_read_34 rfl rfl (by decide) (Nat.le_of_ble_eq_true rfl) (rcA_o (c := 7) rfl (vA_s (by decide)) rfl (by decide) rfl) (ok_Reader_next (d := d + 1) H) (fun h8 H => ?_)
  refine A_iconst 0 (by decide) d_Reader_read_37 ?_
  refine A_istore [some (.ref 25), some (.ref a1), some (.int x2), some (.ref a3), some (.int 0)] d_Reader_read_38 (by decide) rfl rfl ?_
  refine A_sub (L' := [some (.ref 25), none, none, none, some (.int 0)]) ⟨rfl, rfl, trivial⟩ ?_
  obtain ⟨n9, H⟩ := H
  exact r_Reader_read_40 hP_Reader_either  n9 _ _ H
set_option maxRecDepth 20000 in
theorem ok_Reader_read {G : GG} {d : Nat} {Q : Int32 → AH → Prop} {P_Reader_either : (Int32 → AH → Prop) → Int32 → AH → Prop} (hP_Reader_either : ∀ Q x1 h, P_Reader_either Q x1 h → WP G T1 m_Reader_either (d + 8) [.ref 25, .int x1] h 0 0 (iQ Q)) {a1 : Nat} {x2 : Int32} {a3 : Nat} {h : AH} (H : p_Reader_read Q P_Reader_either a1 x2 a3 h) : WP G T1 m_Reader_read (d + 9) [.ref 25, .ref a1, .int x2, .ref a3] h 0 0 (iQ Q) := by
  exact WP.enter 1 (by decide) rfl rfl (r_Reader_read_0 hP_Reader_either a1 x2 a3 h H)
theorem d_Reader_one_0 : decode prog_9_method_10_code 0 = .ok (.aload_n 0, 1) := by decide +kernel
theorem d_Reader_one_1 : decode prog_9_method_10_code 1 = .ok (.getfield 53, 3) := by decide +kernel
theorem d_Reader_one_4 : decode prog_9_method_10_code 4 = .ok (.iconst 2, 1) := by decide +kernel
theorem d_Reader_one_5 : decode prog_9_method_10_code 5 = .ok (.if_icmp .ne 20, 3) := by decide +kernel
theorem d_Reader_one_8 : decode prog_9_method_10_code 8 = .ok (.aload_n 0, 1) := by decide +kernel
theorem d_Reader_one_9 : decode prog_9_method_10_code 9 = .ok (.getfield 25, 3) := by decide +kernel
theorem d_Reader_one_12 : decode prog_9_method_10_code 12 = .ok (.aload_n 0, 1) := by decide +kernel
theorem d_Reader_one_13 : decode prog_9_method_10_code 13 = .ok (.getfield 78, 3) := by decide +kernel
theorem d_Reader_one_16 : decode prog_9_method_10_code 16 = .ok (.invokevirtual 59, 3) := by decide +kernel
theorem d_Reader_one_19 : decode prog_9_method_10_code 19 = .ok (.aload_n 0, 1) := by decide +kernel
theorem d_Reader_one_20 : decode prog_9_method_10_code 20 = .ok (.invokevirtual 37, 3) := by decide +kernel
theorem d_Reader_one_23 : decode prog_9_method_10_code 23 = .ok (.iconst 1, 1) := by decide +kernel
theorem d_Reader_one_24 : decode prog_9_method_10_code 24 = .ok (.ireturn, 1) := by decide +kernel
theorem d_Reader_one_25 : decode prog_9_method_10_code 25 = .ok (.aload_n 0, 1) := by decide +kernel
theorem d_Reader_one_26 : decode prog_9_method_10_code 26 = .ok (.getfield 53, 3) := by decide +kernel
theorem d_Reader_one_29 : decode prog_9_method_10_code 29 = .ok (.iconst 3, 1) := by decide +kernel
theorem d_Reader_one_30 : decode prog_9_method_10_code 30 = .ok (.if_icmp .ne 20, 3) := by decide +kernel
theorem d_Reader_one_33 : decode prog_9_method_10_code 33 = .ok (.aload_n 0, 1) := by decide +kernel
theorem d_Reader_one_34 : decode prog_9_method_10_code 34 = .ok (.getfield 25, 3) := by decide +kernel
theorem d_Reader_one_37 : decode prog_9_method_10_code 37 = .ok (.aload_n 0, 1) := by decide +kernel
theorem d_Reader_one_38 : decode prog_9_method_10_code 38 = .ok (.getfield 78, 3) := by decide +kernel
theorem d_Reader_one_41 : decode prog_9_method_10_code 41 = .ok (.invokevirtual 81, 3) := by decide +kernel
theorem d_Reader_one_44 : decode prog_9_method_10_code 44 = .ok (.aload_n 0, 1) := by decide +kernel
theorem d_Reader_one_45 : decode prog_9_method_10_code 45 = .ok (.invokevirtual 37, 3) := by decide +kernel
theorem d_Reader_one_48 : decode prog_9_method_10_code 48 = .ok (.iconst 1, 1) := by decide +kernel
theorem d_Reader_one_49 : decode prog_9_method_10_code 49 = .ok (.ireturn, 1) := by decide +kernel
theorem d_Reader_one_50 : decode prog_9_method_10_code 50 = .ok (.aload_n 0, 1) := by decide +kernel
theorem d_Reader_one_51 : decode prog_9_method_10_code 51 = .ok (.getfield 53, 3) := by decide +kernel
theorem d_Reader_one_54 : decode prog_9_method_10_code 54 = .ok (.bipush 45, 2) := by decide +kernel
theorem d_Reader_one_56 : decode prog_9_method_10_code 56 = .ok (.if_icmp .eq 12, 3) := by decide +kernel
theorem d_Reader_one_59 : decode prog_9_method_10_code 59 = .ok (.aload_n 0, 1) := by decide +kernel
theorem d_Reader_one_60 : decode prog_9_method_10_code 60 = .ok (.getfield 53, 3) := by decide +kernel
theorem d_Reader_one_63 : decode prog_9_method_10_code 63 = .ok (.bipush 40, 2) := by decide +kernel
theorem d_Reader_one_65 : decode prog_9_method_10_code 65 = .ok (.if_icmp .ne 8, 3) := by decide +kernel
theorem d_Reader_one_68 : decode prog_9_method_10_code 68 = .ok (.iload_n 1, 1) := by decide +kernel
theorem d_Reader_one_69 : decode prog_9_method_10_code 69 = .ok (.iconst 5, 1) := by decide +kernel
theorem d_Reader_one_70 : decode prog_9_method_10_code 70 = .ok (.if_icmp .lt 5, 3) := by decide +kernel
theorem d_Reader_one_73 : decode prog_9_method_10_code 73 = .ok (.iconst 0, 1) := by decide +kernel
theorem d_Reader_one_74 : decode prog_9_method_10_code 74 = .ok (.ireturn, 1) := by decide +kernel
theorem d_Reader_one_75 : decode prog_9_method_10_code 75 = .ok (.aload_n 0, 1) := by decide +kernel
theorem d_Reader_one_76 : decode prog_9_method_10_code 76 = .ok (.getfield 53, 3) := by decide +kernel
theorem d_Reader_one_79 : decode prog_9_method_10_code 79 = .ok (.bipush 45, 2) := by decide +kernel
theorem d_Reader_one_81 : decode prog_9_method_10_code 81 = .ok (.if_icmp .ne 7, 3) := by decide +kernel
theorem d_Reader_one_84 : decode prog_9_method_10_code 84 = .ok (.iconst 1, 1) := by decide +kernel
theorem d_Reader_one_85 : decode prog_9_method_10_code 85 = .ok (.goto 4, 3) := by decide +kernel
theorem d_Reader_one_88 : decode prog_9_method_10_code 88 = .ok (.iconst 0, 1) := by decide +kernel
theorem d_Reader_one_89 : decode prog_9_method_10_code 89 = .ok (.istore_n 2, 1) := by decide +kernel
theorem d_Reader_one_90 : decode prog_9_method_10_code 90 = .ok (.aload_n 0, 1) := by decide +kernel
theorem d_Reader_one_91 : decode prog_9_method_10_code 91 = .ok (.invokevirtual 37, 3) := by decide +kernel
theorem d_Reader_one_94 : decode prog_9_method_10_code 94 = .ok (.iload_n 2, 1) := by decide +kernel
theorem d_Reader_one_95 : decode prog_9_method_10_code 95 = .ok (.ifCond .ne 28, 3) := by decide +kernel
theorem d_Reader_one_98 : decode prog_9_method_10_code 98 = .ok (.aload_n 0, 1) := by decide +kernel
theorem d_Reader_one_99 : decode prog_9_method_10_code 99 = .ok (.iload_n 1, 1) := by decide +kernel
theorem d_Reader_one_100 : decode prog_9_method_10_code 100 = .ok (.iconst 1, 1) := by decide +kernel
theorem d_Reader_one_101 : decode prog_9_method_10_code 101 = .ok (.iadd, 1) := by decide +kernel
theorem d_Reader_one_102 : decode prog_9_method_10_code 102 = .ok (.invokevirtual 47, 3) := by decide +kernel
theorem d_Reader_one_105 : decode prog_9_method_10_code 105 = .ok (.ifCond .eq 16, 3) := by decide +kernel
theorem d_Reader_one_108 : decode prog_9_method_10_code 108 = .ok (.aload_n 0, 1) := by decide +kernel
theorem d_Reader_one_109 : decode prog_9_method_10_code 109 = .ok (.bipush 41, 2) := by decide +kernel
theorem d_Reader_one_111 : decode prog_9_method_10_code 111 = .ok (.invokevirtual 43, 3) := by decide +kernel
theorem d_Reader_one_114 : decode prog_9_method_10_code 114 = .ok (.ifCond .eq 7, 3) := by decide +kernel
theorem d_Reader_one_117 : decode prog_9_method_10_code 117 = .ok (.iconst 1, 1) := by decide +kernel
theorem d_Reader_one_118 : decode prog_9_method_10_code 118 = .ok (.goto 4, 3) := by decide +kernel
theorem d_Reader_one_121 : decode prog_9_method_10_code 121 = .ok (.iconst 0, 1) := by decide +kernel
theorem d_Reader_one_122 : decode prog_9_method_10_code 122 = .ok (.ireturn, 1) := by decide +kernel
theorem d_Reader_one_123 : decode prog_9_method_10_code 123 = .ok (.aload_n 0, 1) := by decide +kernel
theorem d_Reader_one_124 : decode prog_9_method_10_code 124 = .ok (.iload_n 1, 1) := by decide +kernel
theorem d_Reader_one_125 : decode prog_9_method_10_code 125 = .ok (.iconst 1, 1) := by decide +kernel
theorem d_Reader_one_126 : decode prog_9_method_10_code 126 = .ok (.iadd, 1) := by decide +kernel
theorem d_Reader_one_127 : decode prog_9_method_10_code 127 = .ok (.invokevirtual 75, 3) := by decide +kernel
theorem d_Reader_one_130 : decode prog_9_method_10_code 130 = .ok (.ifCond .ne 5, 3) := by decide +kernel
theorem d_Reader_one_133 : decode prog_9_method_10_code 133 = .ok (.iconst 0, 1) := by decide +kernel
theorem d_Reader_one_134 : decode prog_9_method_10_code 134 = .ok (.ireturn, 1) := by decide +kernel
theorem d_Reader_one_135 : decode prog_9_method_10_code 135 = .ok (.aload_n 0, 1) := by decide +kernel
theorem d_Reader_one_136 : decode prog_9_method_10_code 136 = .ok (.getfield 25, 3) := by decide +kernel
theorem d_Reader_one_139 : decode prog_9_method_10_code 139 = .ok (.bipush (-10), 2) := by decide +kernel
theorem d_Reader_one_141 : decode prog_9_method_10_code 141 = .ok (.invokevirtual 59, 3) := by decide +kernel
theorem d_Reader_one_144 : decode prog_9_method_10_code 144 = .ok (.iconst 1, 1) := by decide +kernel
theorem d_Reader_one_145 : decode prog_9_method_10_code 145 = .ok (.ireturn, 1) := by decide +kernel
def p_Reader_one_89 (Q : Int32 → AH → Prop) (P_Reader_either : (Int32 → AH → Prop) → Int32 → AH → Prop) (P_Reader_one : (Int32 → AH → Prop) → Int32 → AH → Prop) (x1 : Int32) (s0 : Int32) (h : AH) : Prop := p_Reader_next (fun h1 => ((¬ s0 = 0 → P_Reader_one (fun r3 h2 => ((¬ r3 = 0 → 0 < rR T1 h2 25 2 ∧ vA T1 h2 (rR T1 h2 25 2 - 1) ∧ (rS T1 h2 (rR T1 h2 25 2 - 1)).1 = 6 ∧ p_Law_add (fun h7 => Q 1 h7) (rR T1 h2 25 2 - 1) (-10) h2) ∧ (r3 = 0 → Q 0 h2))) (x1 + 1) h1) ∧ (s0 = 0 → P_Reader_either (fun r9 h8 => ((r9 = 0 → Q 0 h8) ∧ (¬ r9 = 0 → p_Reader_take (fun r11 h10 => ((r11 = 0 → Q 0 h10) ∧ (¬ r11 = 0 → Q 1 h10))) 41 h8))) (x1 + 1) h1))) h
def p_Reader_one_68 (Q : Int32 → AH → Prop) (P_Reader_either : (Int32 → AH → Prop) → Int32 → AH → Prop) (P_Reader_one : (Int32 → AH → Prop) → Int32 → AH → Prop) (x1 : Int32) (h : AH) : Prop := ((x1 < 5 → ((¬ (h.1 25 5) = 45 → p_Reader_one_89 Q P_Reader_either P_Reader_one  x1 0 h) ∧ ((h.1 25 5) = 45 → p_Reader_one_89 Q P_Reader_either P_Reader_one  x1 1 h))) ∧ (¬ x1 < 5 → Q 0 h))
def p_Reader_one (Q : Int32 → AH → Prop) (P_Reader_either : (Int32 → AH → Prop) → Int32 → AH → Prop) (P_Reader_one : (Int32 → AH → Prop) → Int32 → AH → Prop) (x1 : Int32) (h : AH) : Prop := ((¬ (h.1 25 5) = 2 → ((¬ (h.1 25 5) = 3 → (((h.1 25 5) = 45 → p_Reader_one_68 Q P_Reader_either P_Reader_one  x1 h) ∧ (¬ (h.1 25 5) = 45 → ((¬ (h.1 25 5) = 40 → Q 0 h) ∧ ((h.1 25 5) = 40 → p_Reader_one_68 Q P_Reader_either P_Reader_one  x1 h))))) ∧ ((h.1 25 5) = 3 → 0 < rR T1 h 25 2 ∧ vA T1 h (rR T1 h 25 2 - 1) ∧ (rS T1 h (rR T1 h 25 2 - 1)).1 = 6 ∧ p_Law_addName (fun h4 => p_Reader_next (fun h5 => Q 1 h5) h4) (rR T1 h 25 2 - 1) (h.1 25 6) h))) ∧ ((h.1 25 5) = 2 → 0 < rR T1 h 25 2 ∧ vA T1 h (rR T1 h 25 2 - 1) ∧ (rS T1 h (rR T1 h 25 2 - 1)).1 = 6 ∧ p_Law_add (fun h9 => p_Reader_next (fun h10 => Q 1 h10) h9) (rR T1 h 25 2 - 1) (h.1 25 6) h))
set_option maxRecDepth 20000 in
theorem r_Reader_one_89 {G : GG} {d : Nat} {Q : Int32 → AH → Prop} {P_Reader_either : (Int32 → AH → Prop) → Int32 → AH → Prop} {P_Reader_one : (Int32 → AH → Prop) → Int32 → AH → Prop} (hP_Reader_either : ∀ Q x1 h, P_Reader_either Q x1 h → WP G T1 m_Reader_either (d + 8) [.ref 25, .int x1] h 0 0 (iQ Q)) (hP_Reader_one : ∀ Q x1 h, P_Reader_one Q x1 h → WP G T1 m_Reader_one (d + 8) [.ref 25, .int x1] h 0 0 (iQ Q)) (x1 : Int32) (s0 : Int32) (h : AH) (H : p_Reader_one_89 Q P_Reader_either P_Reader_one x1 s0 h) : Att G T1 m_Reader_one (d + 9) 89 [some (.ref 25), some (.int x1), none] [.int s0] h 0 0 (iQ Q) := by
  refine A_istore_n [some (.ref 25), some (.int x1), some (.int s0)] d_Reader_one_89 (by decide) rfl rfl ?_
  refine A_aload_n d_Reader_one_90 rfl ?_
  refine A_cV [.ref 25] [] (ct_Reader_37 rfl) d_Reader_one_91 rfl rfl (by decide) (Nat.le_of_ble_eq_true rfl) (rcA_o (c := 7) rfl (vA_s (by decide)) rfl (by decide) rfl) (ok_Reader_next (d := d + 1) H) (fun h1 H => ?_)
  refine A_iload_n d_Reader_one_94 rfl ?_
  refine A_if_ne 123 d_Reader_one_95 (by decide) (fun z => ?_) (fun z => ?_)
  · have H := H.1 z
    refine A_aload_n d_Reader_one_123 rfl ?_
    refine A_iload_n d_Reader_one_124 rfl ?_
    refine A_iconst 1 (by decide) d_Reader_one_125 ?_
    refine A_iadd d_Reader_one_126 ?_
    refine A_cI [.ref 25, .int (x1 + 1)] [] (ct_Reader_75 rfl) d_Reader_one_127 rfl rfl (by decide) (Nat.le_of_ble_eq_true rfl) (rcA_o (c := 7) rfl (vA_s (by decide)) rfl (by decide) rfl) (hP_Reader_one _ _ _ H) (fun r3 h2 H => ?_)
    refine A_if_ne 135 d_Reader_one_130 (by decide) (fun z => ?_) (fun z => ?_)
    · have H := H.1 z
      refine A_aload_n d_Reader_one_135 rfl ?_
      obtain ⟨c4, H⟩ := H
      refine A_get (v := .ref (rR T1 h2 25 2 - 1)) d_Reader_one_136 (fo_Reader_25_7 rfl) (vA_s (by decide)) rfl (vR_pos c4) ?_
      refine A_bipush (-10) (by decide) d_Reader_one_139 ?_
      obtain ⟨c5, H⟩ := H
      obtain ⟨c6, H⟩ := H
      refine A_cV [.ref (rR T1 h2 25 2 - 1), .int (-10)] [] (ct_Reader_59 rfl) d_Reader_one_141 rfl rfl (by decide) (Nat.le_of_ble_eq_true rfl) (rcA_o (c := 6) rfl c5 c6 (by decide) rfl) (ok_Law_add (d := d + 8) H) (fun h7 H => ?_)
      refine A_iconst 1 (by decide) d_Reader_one_144 ?_
      exact A_iret d_Reader_one_145 rfl rfl H
    · have H := H.2 z
      refine A_iconst 0 (by decide) d_Reader_one_133 ?_
      exact A_iret d_Reader_one_134 rfl rfl H
  · have H := H.2 z
    refine A_aload_n d_Reader_one_98 rfl ?_
    refine A_iload_n d_Reader_one_99 rfl ?_
    refine A_iconst 1 (by decide) d_Reader_one_100 ?_
    refine A_iadd d_Reader_one_101 ?_
    refine A_cI [.ref 25, .int (x1 + 1)] [] (ct_Reader_47 rfl) d_Reader_one_102 rfl rfl (by decide) (Nat.le_of_ble_eq_true rfl) (rcA_o (c := 7) rfl (vA_s (by decide)) rfl (by decide) rfl) (hP_Reader_either _ _ _ H) (fun r9 h8 H => ?_)
    refine A_if_eq 121 d_Reader_one_105 (by decide) (fun z => ?_) (fun z => ?_)
    · have H := H.1 z
      refine A_iconst 0 (by decide) d_Reader_one_121 ?_
      exact A_iret d_Reader_one_122 rfl rfl H
    · have H := H.2 z
      refine A_aload_n d_Reader_one_108 rfl ?_
      refine A_bipush 41 (by decide) d_Reader_one_109 ?_
      refine A_cI [.ref 25, .int 41] [] (ct_Reader_43 rfl) d_Reader_one_111 rfl rfl (by decide) (Nat.le_of_ble_eq_true rfl) (rcA_o (c := 7) rfl (vA_s (by decide)) rfl (by decide) rfl) (ok_Reader_take (d := d) H) (fun r11 h10 H => ?_)
      refine A_if_eq 121 d_Reader_one_114 (by decide) (fun z => ?_) (fun z => ?_)
      · have H := H.1 z
        refine A_iconst 0 (by decide) d_Reader_one_121 ?_
        exact A_iret d_Reader_one_122 rfl rfl H
      · have H := H.2 z
        refine A_iconst 1 (by decide) d_Reader_one_117 ?_
        refine A_goto 122 d_Reader_one_118 (by decide) ?_
        exact A_iret d_Reader_one_122 rfl rfl H
set_option maxRecDepth 20000 in
theorem r_Reader_one_68 {G : GG} {d : Nat} {Q : Int32 → AH → Prop} {P_Reader_either : (Int32 → AH → Prop) → Int32 → AH → Prop} {P_Reader_one : (Int32 → AH → Prop) → Int32 → AH → Prop} (hP_Reader_either : ∀ Q x1 h, P_Reader_either Q x1 h → WP G T1 m_Reader_either (d + 8) [.ref 25, .int x1] h 0 0 (iQ Q)) (hP_Reader_one : ∀ Q x1 h, P_Reader_one Q x1 h → WP G T1 m_Reader_one (d + 8) [.ref 25, .int x1] h 0 0 (iQ Q)) (x1 : Int32) (h : AH) (H : p_Reader_one_68 Q P_Reader_either P_Reader_one x1 h) : Att G T1 m_Reader_one (d + 9) 68 [some (.ref 25), some (.int x1), none] [] h 0 0 (iQ Q) := by
  refine A_iload_n d_Reader_one_68 rfl ?_
  refine A_iconst 5 (by decide) d_Reader_one_69 ?_
  refine A_icmp_lt 75 d_Reader_one_70 (by decide) (fun z => ?_) (fun z => ?_)
  · have H := H.1 z
    refine A_aload_n d_Reader_one_75 rfl ?_
    refine A_get (v := .int (h.1 25 5)) d_Reader_one_76 (fo_Reader_53_7 rfl) (vA_s (by decide)) rfl (by first | rfl | (show Value.int _ = Value.int _; simp [wI, wL, wR, wC, up])) ?_
    refine A_bipush 45 (by decide) d_Reader_one_79 ?_
    refine A_icmp_ne 88 d_Reader_one_81 (by decide) (fun z => ?_) (fun z => ?_)
    · have H := H.1 z
      refine A_iconst 0 (by decide) d_Reader_one_88 ?_
      exact r_Reader_one_89 hP_Reader_either hP_Reader_one  _ _ _ H
    · have H := H.2 z
      refine A_iconst 1 (by decide) d_Reader_one_84 ?_
      refine A_goto 89 d_Reader_one_85 (by decide) ?_
      exact r_Reader_one_89 hP_Reader_either hP_Reader_one  _ _ _ H
  · have H := H.2 z
    refine A_iconst 0 (by decide) d_Reader_one_73 ?_
    exact A_iret d_Reader_one_74 rfl rfl H
set_option maxRecDepth 20000 in
theorem r_Reader_one_0 {G : GG} {d : Nat} {Q : Int32 → AH → Prop} {P_Reader_either : (Int32 → AH → Prop) → Int32 → AH → Prop} {P_Reader_one : (Int32 → AH → Prop) → Int32 → AH → Prop} (hP_Reader_either : ∀ Q x1 h, P_Reader_either Q x1 h → WP G T1 m_Reader_either (d + 8) [.ref 25, .int x1] h 0 0 (iQ Q)) (hP_Reader_one : ∀ Q x1 h, P_Reader_one Q x1 h → WP G T1 m_Reader_one (d + 8) [.ref 25, .int x1] h 0 0 (iQ Q)) (x1 : Int32) (h : AH) (H : p_Reader_one Q P_Reader_either P_Reader_one x1 h) : Att G T1 m_Reader_one (d + 9) 0 [some (.ref 25), some (.int x1), none] [] h 0 0 (iQ Q) := by
  refine A_aload_n d_Reader_one_0 rfl ?_
  refine A_get (v := .int (h.1 25 5)) d_Reader_one_1 (fo_Reader_53_7 rfl) (vA_s (by decide)) rfl (by first | rfl | (show Value.int _ = Value.int _; simp [wI, wL, wR, wC, up])) ?_
  refine A_iconst 2 (by decide) d_Reader_one_4 ?_
  refine A_icmp_ne 25 d_Reader_one_5 (by decide) (fun z => ?_) (fun z => ?_)
  · have H := H.1 z
    refine A_aload_n d_Reader_one_25 rfl ?_
    refine A_get (v := .int (h.1 25 5)) d_Reader_one_26 (fo_Reader_53_7 rfl) (vA_s (by decide)) rfl (by first | rfl | (show Value.int _ = Value.int _; simp [wI, wL, wR, wC, up])) ?_
    refine A_iconst 3 (by decide) d_Reader_one_29 ?_
    refine A_icmp_ne 50 d_Reader_one_30 (by decide) (fun z => ?_) (fun z => ?_)
    · have H := H.1 z
      refine A_aload_n d_Reader_one_50 rfl ?_
      refine A_get (v := .int (h.1 25 5)) d_Reader_one_51 (fo_Reader_53_7 rfl) (vA_s (by decide)) rfl (by first | rfl | (show Value.int _ = Value.int _; simp [wI, wL, wR, wC, up])) ?_
      refine A_bipush 45 (by decide) d_Reader_one_54 ?_
      refine A_icmp_eq 68 d_Reader_one_56 (by decide) (fun z => ?_) (fun z => ?_)
      · have H := H.1 z
        exact r_Reader_one_68 hP_Reader_either hP_Reader_one  _ _ H
      · have H := H.2 z
        refine A_aload_n d_Reader_one_59 rfl ?_
        refine A_get (v := .int (h.1 25 5)) d_Reader_one_60 (fo_Reader_53_7 rfl) (vA_s (by decide)) rfl (by first | rfl | (show Value.int _ = Value.int _; simp [wI, wL, wR, wC, up])) ?_
        refine A_bipush 40 (by decide) d_Reader_one_63 ?_
        refine A_icmp_ne 73 d_Reader_one_65 (by decide) (fun z => ?_) (fun z => ?_)
        · have H := H.1 z
          refine A_iconst 0 (by decide) d_Reader_one_73 ?_
          exact A_iret d_Reader_one_74 rfl rfl H
        · have H := H.2 z
          exact r_Reader_one_68 hP_Reader_either hP_Reader_one  _ _ H
    · have H := H.2 z
      refine A_aload_n d_Reader_one_33 rfl ?_
      obtain ⟨c1, H⟩ := H
      refine A_get (v := .ref (rR T1 h 25 2 - 1)) d_Reader_one_34 (fo_Reader_25_7 rfl) (vA_s (by decide)) rfl (vR_pos c1) ?_
      refine A_aload_n d_Reader_one_37 rfl ?_
      refine A_get (v := .int (h.1 25 6)) d_Reader_one_38 (fo_Reader_78_7 rfl) (vA_s (by decide)) rfl (by first | rfl | (show Value.int _ = Value.int _; simp [wI, wL, wR, wC, up])) ?_
      obtain ⟨c2, H⟩ := H
      obtain ⟨c3, H⟩ := H
      refine A_cV [.ref (rR T1 h 25 2 - 1), .int (h.1 25 6)] [] (ct_Reader_81 rfl) d_Reader_one_41 rfl rfl (by decide) (Nat.le_of_ble_eq_true rfl) (rcA_o (c := 6) rfl c2 c3 (by decide) rfl) (ok_Law_addName (d := d + 7) H) (fun h4 H => ?_)
      refine A_aload_n d_Reader_one_44 rfl ?_
      refine A_cV [.ref 25] [] (ct_Reader_37 rfl) d_Reader_one_45 rfl rfl (by decide) (Nat.le_of_ble_eq_true rfl) (rcA_o (c := 7) rfl (vA_s (by decide)) rfl (by decide) rfl) (ok_Reader_next (d := d + 1) H) (fun h5 H => ?_)
      refine A_iconst 1 (by decide) d_Reader_one_48 ?_
      exact A_iret d_Reader_one_49 rfl rfl H
  · have H := H.2 z
    refine A_aload_n d_Reader_one_8 rfl ?_
    obtain ⟨c6, H⟩ := H
    refine A_get (v := .ref (rR T1 h 25 2 - 1)) d_Reader_one_9 (fo_Reader_25_7 rfl) (vA_s (by decide)) rfl (vR_pos c6) ?_
    refine A_aload_n d_Reader_one_12 rfl ?_
    refine A_get (v := .int (h.1 25 6)) d_Reader_one_13 (fo_Reader_78_7 rfl) (vA_s (by decide)) rfl (by first | rfl | (show Value.int _ = Value.int _; simp [wI, wL, wR, wC, up])) ?_
    obtain ⟨c7, H⟩ := H
    obtain ⟨c8, H⟩ := H
    refine A_cV [.ref (rR T1 h 25 2 - 1), .int (h.1 25 6)] [] (ct_Reader_59 rfl) d_Reader_one_16 rfl rfl (by decide) (Nat.le_of_ble_eq_true rfl) (rcA_o (c := 6) rfl c7 c8 (by decide) rfl) (ok_Law_add (d := d + 8) H) (fun h9 H => ?_)
    refine A_aload_n d_Reader_one_19 rfl ?_
    refine A_cV [.ref 25] [] (ct_Reader_37 rfl) d_Reader_one_20 rfl rfl (by decide) (Nat.le_of_ble_eq_true rfl) (rcA_o (c := 7) rfl (vA_s (by decide)) rfl (by decide) rfl) (ok_Reader_next (d := d + 1) H) (fun h10 H => ?_)
    refine A_iconst 1 (by decide) d_Reader_one_23 ?_
    exact A_iret d_Reader_one_24 rfl rfl H
set_option maxRecDepth 20000 in
theorem ok_Reader_one {G : GG} {d : Nat} {Q : Int32 → AH → Prop} {P_Reader_either : (Int32 → AH → Prop) → Int32 → AH → Prop} {P_Reader_one : (Int32 → AH → Prop) → Int32 → AH → Prop} (hP_Reader_either : ∀ Q x1 h, P_Reader_either Q x1 h → WP G T1 m_Reader_either (d + 8) [.ref 25, .int x1] h 0 0 (iQ Q)) (hP_Reader_one : ∀ Q x1 h, P_Reader_one Q x1 h → WP G T1 m_Reader_one (d + 8) [.ref 25, .int x1] h 0 0 (iQ Q)) {x1 : Int32} {h : AH} (H : p_Reader_one Q P_Reader_either P_Reader_one x1 h) : WP G T1 m_Reader_one (d + 9) [.ref 25, .int x1] h 0 0 (iQ Q) := by
  exact WP.enter 1 (by decide) rfl rfl (r_Reader_one_0 hP_Reader_either hP_Reader_one x1 h H)
theorem d_MO_when_0 : decode prog_14_method_49_code 0 = .ok (.aload_n 0, 1) := by decide +kernel
theorem d_MO_when_1 : decode prog_14_method_49_code 1 = .ok (.iload_n 1, 1) := by decide +kernel
theorem d_MO_when_2 : decode prog_14_method_49_code 2 = .ok (.invokevirtual 182, 3) := by decide +kernel
theorem d_MO_when_5 : decode prog_14_method_49_code 5 = .ok (.ifCond .eq 11, 3) := by decide +kernel
theorem d_MO_when_8 : decode prog_14_method_49_code 8 = .ok (.aload_n 0, 1) := by decide +kernel
theorem d_MO_when_9 : decode prog_14_method_49_code 9 = .ok (.iload_n 1, 1) := by decide +kernel
theorem d_MO_when_10 : decode prog_14_method_49_code 10 = .ok (.invokevirtual 247, 3) := by decide +kernel
theorem d_MO_when_13 : decode prog_14_method_49_code 13 = .ok (.goto 5, 3) := by decide +kernel
theorem d_MO_when_16 : decode prog_14_method_49_code 16 = .ok (.bipush (-5), 2) := by decide +kernel
theorem d_MO_when_18 : decode prog_14_method_49_code 18 = .ok (.ireturn, 1) := by decide +kernel
def p_MO_when (Q : Int32 → AH → Prop) (x1 : Int32) (h : AH) : Prop := p_MO_isHouse (fun r2 h1 => ((r2 = 0 → Q (-5) h1) ∧ (¬ r2 = 0 → p_MO_whenOf (fun r4 h3 => Q r4 h3) x1 h1))) x1 h
set_option maxRecDepth 20000 in
theorem r_MO_when_0 {G : GG} {d : Nat} {Q : Int32 → AH → Prop} (x1 : Int32) (h : AH) (H : p_MO_when Q x1 h) : Att G T1 m_MO_when (d + 9) 0 [some (.ref 59), some (.int x1)] [] h 0 0 (iQ Q) := by
  refine A_aload_n d_MO_when_0 rfl ?_
  refine A_iload_n d_MO_when_1 rfl ?_
  refine A_cI [.ref 59, .int x1] [] (ct_MO_182 rfl) d_MO_when_2 rfl rfl (by decide) (Nat.le_of_ble_eq_true rfl) (rcA_o (c := 12) rfl (vA_s (by decide)) rfl (by decide) rfl) (ok_MO_isHouse (d := d + 7) H) (fun r2 h1 H => ?_)
  refine A_if_eq 16 d_MO_when_5 (by decide) (fun z => ?_) (fun z => ?_)
  · have H := H.1 z
    refine A_bipush (-5) (by decide) d_MO_when_16 ?_
    exact A_iret d_MO_when_18 rfl rfl H
  · have H := H.2 z
    refine A_aload_n d_MO_when_8 rfl ?_
    refine A_iload_n d_MO_when_9 rfl ?_
    refine A_cI [.ref 59, .int x1] [] (ct_MO_247 rfl) d_MO_when_10 rfl rfl (by decide) (Nat.le_of_ble_eq_true rfl) (rcA_o (c := 12) rfl (vA_s (by decide)) rfl (by decide) rfl) (ok_MO_whenOf (d := d) H) (fun r4 h3 H => ?_)
    refine A_goto 18 d_MO_when_13 (by decide) ?_
    exact A_iret d_MO_when_18 rfl rfl H
set_option maxRecDepth 20000 in
theorem ok_MO_when {G : GG} {d : Nat} {Q : Int32 → AH → Prop} {x1 : Int32} {h : AH} (H : p_MO_when Q x1 h) : WP G T1 m_MO_when (d + 9) [.ref 59, .int x1] h 0 0 (iQ Q) := by
  exact WP.enter 0 (by decide) rfl rfl (r_MO_when_0 x1 h H)
theorem d_MO_first_0 : decode prog_14_method_50_code 0 = .ok (.iload_n 1, 1) := by decide +kernel
theorem d_MO_first_1 : decode prog_14_method_50_code 1 = .ok (.iconst 0, 1) := by decide +kernel
theorem d_MO_first_2 : decode prog_14_method_50_code 2 = .ok (.iconst 1, 1) := by decide +kernel
theorem d_MO_first_3 : decode prog_14_method_50_code 3 = .ok (.invokestatic 93, 3) := by decide +kernel
theorem d_MO_first_6 : decode prog_14_method_50_code 6 = .ok (.ifCond .ne 6, 3) := by decide +kernel
theorem d_MO_first_9 : decode prog_14_method_50_code 9 = .ok (.bipush (-2), 2) := by decide +kernel
theorem d_MO_first_11 : decode prog_14_method_50_code 11 = .ok (.ireturn, 1) := by decide +kernel
theorem d_MO_first_12 : decode prog_14_method_50_code 12 = .ok (.iconst (-1), 1) := by decide +kernel
theorem d_MO_first_13 : decode prog_14_method_50_code 13 = .ok (.istore_n 2, 1) := by decide +kernel
theorem d_MO_first_14 : decode prog_14_method_50_code 14 = .ok (.iconst (-1), 1) := by decide +kernel
theorem d_MO_first_15 : decode prog_14_method_50_code 15 = .ok (.istore_n 3, 1) := by decide +kernel
theorem d_MO_first_16 : decode prog_14_method_50_code 16 = .ok (.iconst 0, 1) := by decide +kernel
theorem d_MO_first_17 : decode prog_14_method_50_code 17 = .ok (.istore 4, 2) := by decide +kernel
theorem d_MO_first_19 : decode prog_14_method_50_code 19 = .ok (.iload 4, 2) := by decide +kernel
theorem d_MO_first_21 : decode prog_14_method_50_code 21 = .ok (.aload_n 0, 1) := by decide +kernel
theorem d_MO_first_22 : decode prog_14_method_50_code 22 = .ok (.getfield 90, 3) := by decide +kernel
theorem d_MO_first_25 : decode prog_14_method_50_code 25 = .ok (.if_icmp .ge 84, 3) := by decide +kernel
theorem d_MO_first_28 : decode prog_14_method_50_code 28 = .ok (.aload_n 0, 1) := by decide +kernel
theorem d_MO_first_29 : decode prog_14_method_50_code 29 = .ok (.iload 4, 2) := by decide +kernel
theorem d_MO_first_31 : decode prog_14_method_50_code 31 = .ok (.invokevirtual 247, 3) := by decide +kernel
theorem d_MO_first_34 : decode prog_14_method_50_code 34 = .ok (.istore 5, 2) := by decide +kernel
theorem d_MO_first_36 : decode prog_14_method_50_code 36 = .ok (.iload_n 2, 1) := by decide +kernel
theorem d_MO_first_37 : decode prog_14_method_50_code 37 = .ok (.iconst (-1), 1) := by decide +kernel
theorem d_MO_first_38 : decode prog_14_method_50_code 38 = .ok (.if_icmp .eq 22, 3) := by decide +kernel
theorem d_MO_first_41 : decode prog_14_method_50_code 41 = .ok (.iload_n 1, 1) := by decide +kernel
theorem d_MO_first_42 : decode prog_14_method_50_code 42 = .ok (.ifCond .ne 12, 3) := by decide +kernel
theorem d_MO_first_45 : decode prog_14_method_50_code 45 = .ok (.iload 5, 2) := by decide +kernel
theorem d_MO_first_47 : decode prog_14_method_50_code 47 = .ok (.iload_n 3, 1) := by decide +kernel
theorem d_MO_first_48 : decode prog_14_method_50_code 48 = .ok (.if_icmp .ge 16, 3) := by decide +kernel
theorem d_MO_first_51 : decode prog_14_method_50_code 51 = .ok (.goto 9, 3) := by decide +kernel
theorem d_MO_first_54 : decode prog_14_method_50_code 54 = .ok (.iload 5, 2) := by decide +kernel
theorem d_MO_first_56 : decode prog_14_method_50_code 56 = .ok (.iload_n 3, 1) := by decide +kernel
theorem d_MO_first_57 : decode prog_14_method_50_code 57 = .ok (.if_icmp .le 7, 3) := by decide +kernel
theorem d_MO_first_60 : decode prog_14_method_50_code 60 = .ok (.iconst 1, 1) := by decide +kernel
theorem d_MO_first_61 : decode prog_14_method_50_code 61 = .ok (.goto 4, 3) := by decide +kernel
theorem d_MO_first_64 : decode prog_14_method_50_code 64 = .ok (.iconst 0, 1) := by decide +kernel
theorem d_MO_first_65 : decode prog_14_method_50_code 65 = .ok (.istore 6, 2) := by decide +kernel
theorem d_MO_first_67 : decode prog_14_method_50_code 67 = .ok (.iload 5, 2) := by decide +kernel
theorem d_MO_first_69 : decode prog_14_method_50_code 69 = .ok (.iconst (-1), 1) := by decide +kernel
theorem d_MO_first_70 : decode prog_14_method_50_code 70 = .ok (.if_icmp .eq 13, 3) := by decide +kernel
theorem d_MO_first_73 : decode prog_14_method_50_code 73 = .ok (.iload 6, 2) := by decide +kernel
theorem d_MO_first_75 : decode prog_14_method_50_code 75 = .ok (.ifCond .eq 8, 3) := by decide +kernel
theorem d_MO_first_78 : decode prog_14_method_50_code 78 = .ok (.iload 4, 2) := by decide +kernel
theorem d_MO_first_80 : decode prog_14_method_50_code 80 = .ok (.goto 4, 3) := by decide +kernel
theorem d_MO_first_83 : decode prog_14_method_50_code 83 = .ok (.iload_n 2, 1) := by decide +kernel
theorem d_MO_first_84 : decode prog_14_method_50_code 84 = .ok (.istore_n 2, 1) := by decide +kernel
theorem d_MO_first_85 : decode prog_14_method_50_code 85 = .ok (.iload 5, 2) := by decide +kernel
theorem d_MO_first_87 : decode prog_14_method_50_code 87 = .ok (.iconst (-1), 1) := by decide +kernel
theorem d_MO_first_88 : decode prog_14_method_50_code 88 = .ok (.if_icmp .eq 13, 3) := by decide +kernel
theorem d_MO_first_91 : decode prog_14_method_50_code 91 = .ok (.iload 6, 2) := by decide +kernel
theorem d_MO_first_93 : decode prog_14_method_50_code 93 = .ok (.ifCond .eq 8, 3) := by decide +kernel
theorem d_MO_first_96 : decode prog_14_method_50_code 96 = .ok (.iload 5, 2) := by decide +kernel
theorem d_MO_first_98 : decode prog_14_method_50_code 98 = .ok (.goto 4, 3) := by decide +kernel
theorem d_MO_first_101 : decode prog_14_method_50_code 101 = .ok (.iload_n 3, 1) := by decide +kernel
theorem d_MO_first_102 : decode prog_14_method_50_code 102 = .ok (.istore_n 3, 1) := by decide +kernel
theorem d_MO_first_103 : decode prog_14_method_50_code 103 = .ok (.iinc 4 1, 3) := by decide +kernel
theorem d_MO_first_106 : decode prog_14_method_50_code 106 = .ok (.goto (-87), 3) := by decide +kernel
theorem d_MO_first_109 : decode prog_14_method_50_code 109 = .ok (.iload_n 2, 1) := by decide +kernel
theorem d_MO_first_110 : decode prog_14_method_50_code 110 = .ok (.ireturn, 1) := by decide +kernel
def p_MO_first_102 (Q : Int32 → AH → Prop) (K19 : Int32 → Int32 → Int32 → Int32 → AH → Prop) (x1 : Int32) (x2 : Int32) (x4 : Int32) (s0 : Int32) (h : AH) : Prop := K19 x1 x2 s0 (x4 + 1) h
def p_MO_first_101 (Q : Int32 → AH → Prop) (K19 : Int32 → Int32 → Int32 → Int32 → AH → Prop) (x1 : Int32) (x2 : Int32) (x3 : Int32) (x4 : Int32) (h : AH) : Prop := p_MO_first_102 Q  K19 x1 x2 x4 x3 h
def p_MO_first_84 (Q : Int32 → AH → Prop) (K19 : Int32 → Int32 → Int32 → Int32 → AH → Prop) (x1 : Int32) (x3 : Int32) (x4 : Int32) (x5 : Int32) (x6 : Int32) (s0 : Int32) (h : AH) : Prop := ((x5 = (-1) → p_MO_first_101 Q  K19 x1 s0 x3 x4 h) ∧ (¬ x5 = (-1) → ((x6 = 0 → p_MO_first_101 Q  K19 x1 s0 x3 x4 h) ∧ (¬ x6 = 0 → p_MO_first_102 Q  K19 x1 s0 x4 x5 h))))
def p_MO_first_83 (Q : Int32 → AH → Prop) (K19 : Int32 → Int32 → Int32 → Int32 → AH → Prop) (x1 : Int32) (x2 : Int32) (x3 : Int32) (x4 : Int32) (x5 : Int32) (x6 : Int32) (h : AH) : Prop := p_MO_first_84 Q  K19 x1 x3 x4 x5 x6 x2 h
def p_MO_first_65 (Q : Int32 → AH → Prop) (K19 : Int32 → Int32 → Int32 → Int32 → AH → Prop) (x1 : Int32) (x2 : Int32) (x3 : Int32) (x4 : Int32) (x5 : Int32) (s0 : Int32) (h : AH) : Prop := ((x5 = (-1) → p_MO_first_83 Q  K19 x1 x2 x3 x4 x5 s0 h) ∧ (¬ x5 = (-1) → ((s0 = 0 → p_MO_first_83 Q  K19 x1 x2 x3 x4 x5 s0 h) ∧ (¬ s0 = 0 → p_MO_first_84 Q  K19 x1 x3 x4 x5 s0 x4 h))))
def p_MO_first_64 (Q : Int32 → AH → Prop) (K19 : Int32 → Int32 → Int32 → Int32 → AH → Prop) (x1 : Int32) (x2 : Int32) (x3 : Int32) (x4 : Int32) (x5 : Int32) (h : AH) : Prop := p_MO_first_65 Q  K19 x1 x2 x3 x4 x5 0 h
def p_MO_first_60 (Q : Int32 → AH → Prop) (K19 : Int32 → Int32 → Int32 → Int32 → AH → Prop) (x1 : Int32) (x2 : Int32) (x3 : Int32) (x4 : Int32) (x5 : Int32) (h : AH) : Prop := p_MO_first_65 Q  K19 x1 x2 x3 x4 x5 1 h
def p_MO_first_19 (Q : Int32 → AH → Prop) : Nat → Int32 → Int32 → Int32 → Int32 → AH → Prop
  | 0 => fun _ _ _ _ _ => False
  | n + 1 => fun x1 x2 x3 x4 h => let K19 := p_MO_first_19 Q n; (((h.1 59 0) ≤ x4 → Q x2 h) ∧ (¬ (h.1 59 0) ≤ x4 → p_MO_whenOf (fun r2 h1 => ((x2 = (-1) → p_MO_first_60 Q  K19 x1 x2 x3 x4 r2 h1) ∧ (¬ x2 = (-1) → ((¬ x1 = 0 → ((r2 ≤ x3 → p_MO_first_64 Q  K19 x1 x2 x3 x4 r2 h1) ∧ (¬ r2 ≤ x3 → p_MO_first_60 Q  K19 x1 x2 x3 x4 r2 h1))) ∧ (x1 = 0 → ((x3 ≤ r2 → p_MO_first_64 Q  K19 x1 x2 x3 x4 r2 h1) ∧ (¬ x3 ≤ r2 → p_MO_first_60 Q  K19 x1 x2 x3 x4 r2 h1))))))) x4 h))
def p_MO_first (Q : Int32 → AH → Prop) (x1 : Int32) (h : AH) : Prop := p_MO_in (fun r2 h1 => ((¬ r2 = 0 → ∃ n, p_MO_first_19 Q   n x1 (-1) (-1) 0 h1) ∧ (r2 = 0 → Q (-2) h1))) x1 0 1 h
set_option maxRecDepth 20000 in
theorem r_MO_first_102 {G : GG} {d : Nat} {Q : Int32 → AH → Prop} {K19 : Int32 → Int32 → Int32 → Int32 → AH → Prop} (k19 : ∀ x1 x2 x3 x4 h, K19 x1 x2 x3 x4 h → Att G T1 m_MO_first (d + 9) 19 [some (.ref 59), some (.int x1), some (.int x2), some (.int x3), some (.int x4), none, none] [] h 0 0 (iQ Q)) (x1 : Int32) (x2 : Int32) (x4 : Int32) (s0 : Int32) (h : AH) (H : p_MO_first_102 Q K19 x1 x2 x4 s0 h) : Att G T1 m_MO_first (d + 9) 102 [some (.ref 59), some (.int x1), some (.int x2), none, some (.int x4), none, none] [.int s0] h 0 0 (iQ Q) := by
  refine A_istore_n [some (.ref 59), some (.int x1), some (.int x2), some (.int s0), some (.int x4), none, none] d_MO_first_102 (by decide) rfl rfl ?_
  refine A_iinc 1 [some (.ref 59), some (.int x1), some (.int x2), some (.int s0), some (.int (x4 + 1)), none, none] d_MO_first_103 rfl (by decide) (by decide) rfl rfl ?_
  refine A_goto 19 d_MO_first_106 (by decide) ?_
  exact k19 _ _ _ _ _ H
set_option maxRecDepth 20000 in
theorem r_MO_first_101 {G : GG} {d : Nat} {Q : Int32 → AH → Prop} {K19 : Int32 → Int32 → Int32 → Int32 → AH → Prop} (k19 : ∀ x1 x2 x3 x4 h, K19 x1 x2 x3 x4 h → Att G T1 m_MO_first (d + 9) 19 [some (.ref 59), some (.int x1), some (.int x2), some (.int x3), some (.int x4), none, none] [] h 0 0 (iQ Q)) (x1 : Int32) (x2 : Int32) (x3 : Int32) (x4 : Int32) (h : AH) (H : p_MO_first_101 Q K19 x1 x2 x3 x4 h) : Att G T1 m_MO_first (d + 9) 101 [some (.ref 59), some (.int x1), some (.int x2), some (.int x3), some (.int x4), none, none] [] h 0 0 (iQ Q) := by
  refine A_iload_n d_MO_first_101 rfl ?_
  refine A_sub (L' := [some (.ref 59), some (.int x1), some (.int x2), none, some (.int x4), none, none]) ⟨rfl, rfl, rfl, rfl, trivial⟩ ?_
  exact r_MO_first_102  k19 _ _ _ _ _ H
set_option maxRecDepth 20000 in
theorem r_MO_first_84 {G : GG} {d : Nat} {Q : Int32 → AH → Prop} {K19 : Int32 → Int32 → Int32 → Int32 → AH → Prop} (k19 : ∀ x1 x2 x3 x4 h, K19 x1 x2 x3 x4 h → Att G T1 m_MO_first (d + 9) 19 [some (.ref 59), some (.int x1), some (.int x2), some (.int x3), some (.int x4), none, none] [] h 0 0 (iQ Q)) (x1 : Int32) (x3 : Int32) (x4 : Int32) (x5 : Int32) (x6 : Int32) (s0 : Int32) (h : AH) (H : p_MO_first_84 Q K19 x1 x3 x4 x5 x6 s0 h) : Att G T1 m_MO_first (d + 9) 84 [some (.ref 59), some (.int x1), none, some (.int x3), some (.int x4), some (.int x5), some (.int x6)] [.int s0] h 0 0 (iQ Q) := by
  refine A_istore_n [some (.ref 59), some (.int x1), some (.int s0), some (.int x3), some (.int x4), some (.int x5), some (.int x6)] d_MO_first_84 (by decide) rfl rfl ?_
  refine A_iload d_MO_first_85 rfl ?_
  refine A_iconst (-1) (by decide) d_MO_first_87 ?_
  refine A_icmp_eq 101 d_MO_first_88 (by decide) (fun z => ?_) (fun z => ?_)
  · have H := H.1 z
    refine A_sub (L' := [some (.ref 59), some (.int x1), some (.int s0), some (.int x3), some (.int x4), none, none]) ⟨rfl, rfl, rfl, rfl, rfl, trivial⟩ ?_
    exact r_MO_first_101  k19 _ _ _ _ _ H
  · have H := H.2 z
    refine A_iload d_MO_first_91 rfl ?_
    refine A_if_eq 101 d_MO_first_93 (by decide) (fun z => ?_) (fun z => ?_)
    · have H := H.1 z
      refine A_sub (L' := [some (.ref 59), some (.int x1), some (.int s0), some (.int x3), some (.int x4), none, none]) ⟨rfl, rfl, rfl, rfl, rfl, trivial⟩ ?_
      exact r_MO_first_101  k19 _ _ _ _ _ H
    · have H := H.2 z
      refine A_iload d_MO_first_96 rfl ?_
      refine A_goto 102 d_MO_first_98 (by decide) ?_
      refine A_sub (L' := [some (.ref 59), some (.int x1), some (.int s0), none, some (.int x4), none, none]) ⟨rfl, rfl, rfl, rfl, trivial⟩ ?_
      exact r_MO_first_102  k19 _ _ _ _ _ H
set_option maxRecDepth 20000 in
theorem r_MO_first_83 {G : GG} {d : Nat} {Q : Int32 → AH → Prop} {K19 : Int32 → Int32 → Int32 → Int32 → AH → Prop} (k19 : ∀ x1 x2 x3 x4 h, K19 x1 x2 x3 x4 h → Att G T1 m_MO_first (d + 9) 19 [some (.ref 59), some (.int x1), some (.int x2), some (.int x3), some (.int x4), none, none] [] h 0 0 (iQ Q)) (x1 : Int32) (x2 : Int32) (x3 : Int32) (x4 : Int32) (x5 : Int32) (x6 : Int32) (h : AH) (H : p_MO_first_83 Q K19 x1 x2 x3 x4 x5 x6 h) : Att G T1 m_MO_first (d + 9) 83 [some (.ref 59), some (.int x1), some (.int x2), some (.int x3), some (.int x4), some (.int x5), some (.int x6)] [] h 0 0 (iQ Q) := by
  refine A_iload_n d_MO_first_83 rfl ?_
  refine A_sub (L' := [some (.ref 59), some (.int x1), none, some (.int x3), some (.int x4), some (.int x5), some (.int x6)]) ⟨rfl, rfl, rfl, rfl, rfl, rfl, trivial⟩ ?_
  exact r_MO_first_84  k19 _ _ _ _ _ _ _ H
set_option maxRecDepth 20000 in
theorem r_MO_first_65 {G : GG} {d : Nat} {Q : Int32 → AH → Prop} {K19 : Int32 → Int32 → Int32 → Int32 → AH → Prop} (k19 : ∀ x1 x2 x3 x4 h, K19 x1 x2 x3 x4 h → Att G T1 m_MO_first (d + 9) 19 [some (.ref 59), some (.int x1), some (.int x2), some (.int x3), some (.int x4), none, none] [] h 0 0 (iQ Q)) (x1 : Int32) (x2 : Int32) (x3 : Int32) (x4 : Int32) (x5 : Int32) (s0 : Int32) (h : AH) (H : p_MO_first_65 Q K19 x1 x2 x3 x4 x5 s0 h) : Att G T1 m_MO_first (d + 9) 65 [some (.ref 59), some (.int x1), some (.int x2), some (.int x3), some (.int x4), some (.int x5), none] [.int s0] h 0 0 (iQ Q) := by
  refine A_istore [some (.ref 59), some (.int x1), some (.int x2), some (.int x3), some (.int x4), some (.int x5), some (.int s0)] d_MO_first_65 (by decide) rfl rfl ?_
  refine A_iload d_MO_first_67 rfl ?_
  refine A_iconst (-1) (by decide) d_MO_first_69 ?_
  refine A_icmp_eq 83 d_MO_first_70 (by decide) (fun z => ?_) (fun z => ?_)
  · have H := H.1 z
    exact r_MO_first_83  k19 _ _ _ _ _ _ _ H
  · have H := H.2 z
    refine A_iload d_MO_first_73 rfl ?_
    refine A_if_eq 83 d_MO_first_75 (by decide) (fun z => ?_) (fun z => ?_)
    · have H := H.1 z
      exact r_MO_first_83  k19 _ _ _ _ _ _ _ H
    · have H := H.2 z
      refine A_iload d_MO_first_78 rfl ?_
      refine A_goto 84 d_MO_first_80 (by decide) ?_
      refine A_sub (L' := [some (.ref 59), some (.int x1), none, some (.int x3), some (.int x4), some (.int x5), some (.int s0)]) ⟨rfl, rfl, rfl, rfl, rfl, rfl, trivial⟩ ?_
      exact r_MO_first_84  k19 _ _ _ _ _ _ _ H
set_option maxRecDepth 20000 in
theorem r_MO_first_64 {G : GG} {d : Nat} {Q : Int32 → AH → Prop} {K19 : Int32 → Int32 → Int32 → Int32 → AH → Prop} (k19 : ∀ x1 x2 x3 x4 h, K19 x1 x2 x3 x4 h → Att G T1 m_MO_first (d + 9) 19 [some (.ref 59), some (.int x1), some (.int x2), some (.int x3), some (.int x4), none, none] [] h 0 0 (iQ Q)) (x1 : Int32) (x2 : Int32) (x3 : Int32) (x4 : Int32) (x5 : Int32) (h : AH) (H : p_MO_first_64 Q K19 x1 x2 x3 x4 x5 h) : Att G T1 m_MO_first (d + 9) 64 [some (.ref 59), some (.int x1), some (.int x2), some (.int x3), some (.int x4), some (.int x5), none] [] h 0 0 (iQ Q) := by
  refine A_iconst 0 (by decide) d_MO_first_64 ?_
  exact r_MO_first_65  k19 _ _ _ _ _ _ _ H
set_option maxRecDepth 20000 in
theorem r_MO_first_60 {G : GG} {d : Nat} {Q : Int32 → AH → Prop} {K19 : Int32 → Int32 → Int32 → Int32 → AH → Prop} (k19 : ∀ x1 x2 x3 x4 h, K19 x1 x2 x3 x4 h → Att G T1 m_MO_first (d + 9) 19 [some (.ref 59), some (.int x1), some (.int x2), some (.int x3), some (.int x4), none, none] [] h 0 0 (iQ Q)) (x1 : Int32) (x2 : Int32) (x3 : Int32) (x4 : Int32) (x5 : Int32) (h : AH) (H : p_MO_first_60 Q K19 x1 x2 x3 x4 x5 h) : Att G T1 m_MO_first (d + 9) 60 [some (.ref 59), some (.int x1), some (.int x2), some (.int x3), some (.int x4), some (.int x5), none] [] h 0 0 (iQ Q) := by
  refine A_iconst 1 (by decide) d_MO_first_60 ?_
  refine A_goto 65 d_MO_first_61 (by decide) ?_
  exact r_MO_first_65  k19 _ _ _ _ _ _ _ H
set_option maxRecDepth 20000 in
theorem r_MO_first_19 {G : GG} {d : Nat} {Q : Int32 → AH → Prop} : ∀ (n : Nat) (x1 : Int32) (x2 : Int32) (x3 : Int32) (x4 : Int32) (h : AH), p_MO_first_19 Q n x1 x2 x3 x4 h → Att G T1 m_MO_first (d + 9) 19 [some (.ref 59), some (.int x1), some (.int x2), some (.int x3), some (.int x4), none, none] [] h 0 0 (iQ Q) := by
  intro n
  induction n with
  | zero => intro x1 x2 x3 x4 h H; exact H.elim
  | succ n k19 =>
    intro x1 x2 x3 x4 h H
    refine A_iload d_MO_first_19 rfl ?_
    refine A_aload_n d_MO_first_21 rfl ?_
    refine A_get (v := .int (h.1 59 0)) d_MO_first_22 (fo_MO_90_12 rfl) (vA_s (by decide)) rfl (by first | rfl | (show Value.int _ = Value.int _; simp [wI, wL, wR, wC, up])) ?_
    refine A_icmp_ge 109 d_MO_first_25 (by decide) (fun z => ?_) (fun z => ?_)
    · have H := H.1 z
      refine A_iload_n d_MO_first_109 rfl ?_
      exact A_iret d_MO_first_110 rfl rfl H
    · have H := H.2 z
      refine A_aload_n d_MO_first_28 rfl ?_
      refine A_iload d_MO_first_29 rfl ?_
      refine A_cI [.ref 59, .int x4] [] (ct_MO_247 rfl) d_MO_first_31 rfl rfl (by decide) (Nat.le_of_ble_eq_true rfl) (rcA_o (c := 12) rfl (vA_s (by decide)) rfl (by decide) rfl) (ok_MO_whenOf (d := d) H) (fun r2 h1 H => ?_)
      refine A_istore [some (.ref 59), some (.int x1), some (.int x2), some (.int x3), some (.int x4), some (.int r2), none] d_MO_first_34 (by decide) rfl rfl ?_
      refine A_iload_n d_MO_first_36 rfl ?_
      refine A_iconst (-1) (by decide) d_MO_first_37 ?_
      refine A_icmp_eq 60 d_MO_first_38 (by decide) (fun z => ?_) (fun z => ?_)
      · have H := H.1 z
        exact r_MO_first_60  k19 _ _ _ _ _ _ H
      · have H := H.2 z
        refine A_iload_n d_MO_first_41 rfl ?_
        refine A_if_ne 54 d_MO_first_42 (by decide) (fun z => ?_) (fun z => ?_)
        · have H := H.1 z
          refine A_iload d_MO_first_54 rfl ?_
          refine A_iload_n d_MO_first_56 rfl ?_
          refine A_icmp_le 64 d_MO_first_57 (by decide) (fun z => ?_) (fun z => ?_)
          · have H := H.1 z
            exact r_MO_first_64  k19 _ _ _ _ _ _ H
          · have H := H.2 z
            exact r_MO_first_60  k19 _ _ _ _ _ _ H
        · have H := H.2 z
          refine A_iload d_MO_first_45 rfl ?_
          refine A_iload_n d_MO_first_47 rfl ?_
          refine A_icmp_ge 64 d_MO_first_48 (by decide) (fun z => ?_) (fun z => ?_)
          · have H := H.1 z
            exact r_MO_first_64  k19 _ _ _ _ _ _ H
          · have H := H.2 z
            refine A_goto 60 d_MO_first_51 (by decide) ?_
            exact r_MO_first_60  k19 _ _ _ _ _ _ H
set_option maxRecDepth 20000 in
theorem r_MO_first_0 {G : GG} {d : Nat} {Q : Int32 → AH → Prop} (x1 : Int32) (h : AH) (H : p_MO_first Q x1 h) : Att G T1 m_MO_first (d + 9) 0 [some (.ref 59), some (.int x1), none, none, none, none, none] [] h 0 0 (iQ Q) := by
  refine A_iload_n d_MO_first_0 rfl ?_
  refine A_iconst 0 (by decide) d_MO_first_1 ?_
  refine A_iconst 1 (by decide) d_MO_first_2 ?_
  refine A_cI [.int x1, .int 0, .int 1] [] (ct_MO_93 rfl) d_MO_first_3 rfl rfl (by decide) (Nat.le_of_ble_eq_true rfl) trivial (ok_MO_in (d := d + 8) H) (fun r2 h1 H => ?_)
  refine A_if_ne 12 d_MO_first_6 (by decide) (fun z => ?_) (fun z => ?_)
  · have H := H.1 z
    refine A_iconst (-1) (by decide) d_MO_first_12 ?_
    refine A_istore_n [some (.ref 59), some (.int x1), some (.int (-1)), none, none, none, none] d_MO_first_13 (by decide) rfl rfl ?_
    refine A_iconst (-1) (by decide) d_MO_first_14 ?_
    refine A_istore_n [some (.ref 59), some (.int x1), some (.int (-1)), some (.int (-1)), none, none, none] d_MO_first_15 (by decide) rfl rfl ?_
    refine A_iconst 0 (by decide) d_MO_first_16 ?_
    refine A_istore [some (.ref 59), some (.int x1), some (.int (-1)), some (.int (-1)), some (.int 0), none, none] d_MO_first_17 (by decide) rfl rfl ?_
    obtain ⟨n9, H⟩ := H
    exact r_MO_first_19   n9 _ _ _ _ _ H
  · have H := H.2 z
    refine A_bipush (-2) (by decide) d_MO_first_9 ?_
    exact A_iret d_MO_first_11 rfl rfl H
set_option maxRecDepth 20000 in
theorem ok_MO_first {G : GG} {d : Nat} {Q : Int32 → AH → Prop} {x1 : Int32} {h : AH} (H : p_MO_first Q x1 h) : WP G T1 m_MO_first (d + 9) [.ref 59, .int x1] h 0 0 (iQ Q) := by
  exact WP.enter 5 (by decide) rfl rfl (r_MO_first_0 x1 h H)
