theorem d_Dusk_pair_0 : decode prog_4_method_7_code 0 = .ok (.aload_n 0, 1) := by decide +kernel
theorem d_Dusk_pair_1 : decode prog_4_method_7_code 1 = .ok (.getfield 12, 3) := by decide +kernel
theorem d_Dusk_pair_4 : decode prog_4_method_7_code 4 = .ok (.getfield 65, 3) := by decide +kernel
theorem d_Dusk_pair_7 : decode prog_4_method_7_code 7 = .ok (.iload_n 1, 1) := by decide +kernel
theorem d_Dusk_pair_8 : decode prog_4_method_7_code 8 = .ok (.iaload, 1) := by decide +kernel
theorem d_Dusk_pair_9 : decode prog_4_method_7_code 9 = .ok (.istore 4, 2) := by decide +kernel
theorem d_Dusk_pair_11 : decode prog_4_method_7_code 11 = .ok (.aload_n 0, 1) := by decide +kernel
theorem d_Dusk_pair_12 : decode prog_4_method_7_code 12 = .ok (.iload_n 1, 1) := by decide +kernel
theorem d_Dusk_pair_13 : decode prog_4_method_7_code 13 = .ok (.iload_n 2, 1) := by decide +kernel
theorem d_Dusk_pair_14 : decode prog_4_method_7_code 14 = .ok (.invokevirtual 85, 3) := by decide +kernel
theorem d_Dusk_pair_17 : decode prog_4_method_7_code 17 = .ok (.aload_n 0, 1) := by decide +kernel
theorem d_Dusk_pair_18 : decode prog_4_method_7_code 18 = .ok (.iload 4, 2) := by decide +kernel
theorem d_Dusk_pair_20 : decode prog_4_method_7_code 20 = .ok (.iload_n 2, 1) := by decide +kernel
theorem d_Dusk_pair_21 : decode prog_4_method_7_code 21 = .ok (.invokevirtual 85, 3) := by decide +kernel
theorem d_Dusk_pair_24 : decode prog_4_method_7_code 24 = .ok (.isub, 1) := by decide +kernel
theorem d_Dusk_pair_25 : decode prog_4_method_7_code 25 = .ok (.istore 5, 2) := by decide +kernel
theorem d_Dusk_pair_27 : decode prog_4_method_7_code 27 = .ok (.iload 5, 2) := by decide +kernel
theorem d_Dusk_pair_29 : decode prog_4_method_7_code 29 = .ok (.ifCond .le 7, 3) := by decide +kernel
theorem d_Dusk_pair_32 : decode prog_4_method_7_code 32 = .ok (.iload_n 1, 1) := by decide +kernel
theorem d_Dusk_pair_33 : decode prog_4_method_7_code 33 = .ok (.goto 5, 3) := by decide +kernel
theorem d_Dusk_pair_36 : decode prog_4_method_7_code 36 = .ok (.iload 4, 2) := by decide +kernel
theorem d_Dusk_pair_38 : decode prog_4_method_7_code 38 = .ok (.istore 6, 2) := by decide +kernel
theorem d_Dusk_pair_40 : decode prog_4_method_7_code 40 = .ok (.iload 5, 2) := by decide +kernel
theorem d_Dusk_pair_42 : decode prog_4_method_7_code 42 = .ok (.ifCond .le 8, 3) := by decide +kernel
theorem d_Dusk_pair_45 : decode prog_4_method_7_code 45 = .ok (.iload 4, 2) := by decide +kernel
theorem d_Dusk_pair_47 : decode prog_4_method_7_code 47 = .ok (.goto 4, 3) := by decide +kernel
theorem d_Dusk_pair_50 : decode prog_4_method_7_code 50 = .ok (.iload_n 1, 1) := by decide +kernel
theorem d_Dusk_pair_51 : decode prog_4_method_7_code 51 = .ok (.istore 7, 2) := by decide +kernel
theorem d_Dusk_pair_53 : decode prog_4_method_7_code 53 = .ok (.iload_n 3, 1) := by decide +kernel
theorem d_Dusk_pair_54 : decode prog_4_method_7_code 54 = .ok (.ifCond .ne 105, 3) := by decide +kernel
theorem d_Dusk_pair_57 : decode prog_4_method_7_code 57 = .ok (.aload_n 0, 1) := by decide +kernel
theorem d_Dusk_pair_58 : decode prog_4_method_7_code 58 = .ok (.getfield 12, 3) := by decide +kernel
theorem d_Dusk_pair_61 : decode prog_4_method_7_code 61 = .ok (.getfield 78, 3) := by decide +kernel
theorem d_Dusk_pair_64 : decode prog_4_method_7_code 64 = .ok (.iload 6, 2) := by decide +kernel
theorem d_Dusk_pair_66 : decode prog_4_method_7_code 66 = .ok (.iaload, 1) := by decide +kernel
theorem d_Dusk_pair_67 : decode prog_4_method_7_code 67 = .ok (.ifCond .le 92, 3) := by decide +kernel
theorem d_Dusk_pair_70 : decode prog_4_method_7_code 70 = .ok (.aload_n 0, 1) := by decide +kernel
theorem d_Dusk_pair_71 : decode prog_4_method_7_code 71 = .ok (.getfield 12, 3) := by decide +kernel
theorem d_Dusk_pair_74 : decode prog_4_method_7_code 74 = .ok (.getfield 78, 3) := by decide +kernel
theorem d_Dusk_pair_77 : decode prog_4_method_7_code 77 = .ok (.iload 7, 2) := by decide +kernel
theorem d_Dusk_pair_79 : decode prog_4_method_7_code 79 = .ok (.iaload, 1) := by decide +kernel
theorem d_Dusk_pair_80 : decode prog_4_method_7_code 80 = .ok (.bipush 9, 2) := by decide +kernel
theorem d_Dusk_pair_82 : decode prog_4_method_7_code 82 = .ok (.if_icmp .ge 77, 3) := by decide +kernel
theorem d_Dusk_pair_85 : decode prog_4_method_7_code 85 = .ok (.aload_n 0, 1) := by decide +kernel
theorem d_Dusk_pair_86 : decode prog_4_method_7_code 86 = .ok (.getfield 20, 3) := by decide +kernel
theorem d_Dusk_pair_89 : decode prog_4_method_7_code 89 = .ok (.iload 6, 2) := by decide +kernel
theorem d_Dusk_pair_91 : decode prog_4_method_7_code 91 = .ok (.aaload, 1) := by decide +kernel
theorem d_Dusk_pair_92 : decode prog_4_method_7_code 92 = .ok (.aload_n 0, 1) := by decide +kernel
theorem d_Dusk_pair_93 : decode prog_4_method_7_code 93 = .ok (.getfield 12, 3) := by decide +kernel
theorem d_Dusk_pair_96 : decode prog_4_method_7_code 96 = .ok (.getfield 78, 3) := by decide +kernel
theorem d_Dusk_pair_99 : decode prog_4_method_7_code 99 = .ok (.iload 6, 2) := by decide +kernel
theorem d_Dusk_pair_101 : decode prog_4_method_7_code 101 = .ok (.iaload, 1) := by decide +kernel
theorem d_Dusk_pair_102 : decode prog_4_method_7_code 102 = .ok (.iload_n 2, 1) := by decide +kernel
theorem d_Dusk_pair_103 : decode prog_4_method_7_code 103 = .ok (.invokevirtual 81, 3) := by decide +kernel
theorem d_Dusk_pair_106 : decode prog_4_method_7_code 106 = .ok (.ifCond .eq 53, 3) := by decide +kernel
theorem d_Dusk_pair_109 : decode prog_4_method_7_code 109 = .ok (.aload_n 0, 1) := by decide +kernel
theorem d_Dusk_pair_110 : decode prog_4_method_7_code 110 = .ok (.getfield 20, 3) := by decide +kernel
theorem d_Dusk_pair_113 : decode prog_4_method_7_code 113 = .ok (.iload 7, 2) := by decide +kernel
theorem d_Dusk_pair_115 : decode prog_4_method_7_code 115 = .ok (.aaload, 1) := by decide +kernel
theorem d_Dusk_pair_116 : decode prog_4_method_7_code 116 = .ok (.aload_n 0, 1) := by decide +kernel
theorem d_Dusk_pair_117 : decode prog_4_method_7_code 117 = .ok (.getfield 12, 3) := by decide +kernel
theorem d_Dusk_pair_120 : decode prog_4_method_7_code 120 = .ok (.getfield 78, 3) := by decide +kernel
theorem d_Dusk_pair_123 : decode prog_4_method_7_code 123 = .ok (.iload 7, 2) := by decide +kernel
theorem d_Dusk_pair_125 : decode prog_4_method_7_code 125 = .ok (.iaload, 1) := by decide +kernel
theorem d_Dusk_pair_126 : decode prog_4_method_7_code 126 = .ok (.iload_n 2, 1) := by decide +kernel
theorem d_Dusk_pair_127 : decode prog_4_method_7_code 127 = .ok (.invokevirtual 81, 3) := by decide +kernel
theorem d_Dusk_pair_130 : decode prog_4_method_7_code 130 = .ok (.ifCond .eq 29, 3) := by decide +kernel
theorem d_Dusk_pair_133 : decode prog_4_method_7_code 133 = .ok (.iload 5, 2) := by decide +kernel
theorem d_Dusk_pair_135 : decode prog_4_method_7_code 135 = .ok (.invokestatic 95, 3) := by decide +kernel
theorem d_Dusk_pair_138 : decode prog_4_method_7_code 138 = .ok (.aload_n 0, 1) := by decide +kernel
theorem d_Dusk_pair_139 : decode prog_4_method_7_code 139 = .ok (.iload_n 1, 1) := by decide +kernel
theorem d_Dusk_pair_140 : decode prog_4_method_7_code 140 = .ok (.iload_n 2, 1) := by decide +kernel
theorem d_Dusk_pair_141 : decode prog_4_method_7_code 141 = .ok (.invokevirtual 89, 3) := by decide +kernel
theorem d_Dusk_pair_144 : decode prog_4_method_7_code 144 = .ok (.aload_n 0, 1) := by decide +kernel
theorem d_Dusk_pair_145 : decode prog_4_method_7_code 145 = .ok (.iload 4, 2) := by decide +kernel
theorem d_Dusk_pair_147 : decode prog_4_method_7_code 147 = .ok (.iload_n 2, 1) := by decide +kernel
theorem d_Dusk_pair_148 : decode prog_4_method_7_code 148 = .ok (.invokevirtual 89, 3) := by decide +kernel
theorem d_Dusk_pair_151 : decode prog_4_method_7_code 151 = .ok (.iadd, 1) := by decide +kernel
theorem d_Dusk_pair_152 : decode prog_4_method_7_code 152 = .ok (.if_icmp .le 7, 3) := by decide +kernel
theorem d_Dusk_pair_155 : decode prog_4_method_7_code 155 = .ok (.iconst 1, 1) := by decide +kernel
theorem d_Dusk_pair_156 : decode prog_4_method_7_code 156 = .ok (.goto 4, 3) := by decide +kernel
theorem d_Dusk_pair_159 : decode prog_4_method_7_code 159 = .ok (.iconst 0, 1) := by decide +kernel
theorem d_Dusk_pair_160 : decode prog_4_method_7_code 160 = .ok (.istore 8, 2) := by decide +kernel
theorem d_Dusk_pair_162 : decode prog_4_method_7_code 162 = .ok (.iload 8, 2) := by decide +kernel
theorem d_Dusk_pair_164 : decode prog_4_method_7_code 164 = .ok (.ifCond .eq 19, 3) := by decide +kernel
theorem d_Dusk_pair_167 : decode prog_4_method_7_code 167 = .ok (.aload_n 0, 1) := by decide +kernel
theorem d_Dusk_pair_168 : decode prog_4_method_7_code 168 = .ok (.iload 6, 2) := by decide +kernel
theorem d_Dusk_pair_170 : decode prog_4_method_7_code 170 = .ok (.iload_n 2, 1) := by decide +kernel
theorem d_Dusk_pair_171 : decode prog_4_method_7_code 171 = .ok (.invokevirtual 92, 3) := by decide +kernel
theorem d_Dusk_pair_174 : decode prog_4_method_7_code 174 = .ok (.aload_n 0, 1) := by decide +kernel
theorem d_Dusk_pair_175 : decode prog_4_method_7_code 175 = .ok (.iload 7, 2) := by decide +kernel
theorem d_Dusk_pair_177 : decode prog_4_method_7_code 177 = .ok (.invokevirtual 101, 3) := by decide +kernel
theorem d_Dusk_pair_180 : decode prog_4_method_7_code 180 = .ok (.goto 18, 3) := by decide +kernel
theorem d_Dusk_pair_183 : decode prog_4_method_7_code 183 = .ok (.aload_n 0, 1) := by decide +kernel
theorem d_Dusk_pair_184 : decode prog_4_method_7_code 184 = .ok (.getfield 24, 3) := by decide +kernel
theorem d_Dusk_pair_187 : decode prog_4_method_7_code 187 = .ok (.iload_n 1, 1) := by decide +kernel
theorem d_Dusk_pair_188 : decode prog_4_method_7_code 188 = .ok (.iconst 0, 1) := by decide +kernel
theorem d_Dusk_pair_189 : decode prog_4_method_7_code 189 = .ok (.iastore, 1) := by decide +kernel
theorem d_Dusk_pair_190 : decode prog_4_method_7_code 190 = .ok (.aload_n 0, 1) := by decide +kernel
theorem d_Dusk_pair_191 : decode prog_4_method_7_code 191 = .ok (.getfield 24, 3) := by decide +kernel
theorem d_Dusk_pair_194 : decode prog_4_method_7_code 194 = .ok (.iload 4, 2) := by decide +kernel
theorem d_Dusk_pair_196 : decode prog_4_method_7_code 196 = .ok (.iconst 0, 1) := by decide +kernel
theorem d_Dusk_pair_197 : decode prog_4_method_7_code 197 = .ok (.iastore, 1) := by decide +kernel
theorem d_Dusk_pair_198 : decode prog_4_method_7_code 198 = .ok (.return_, 1) := by decide +kernel
def p_Dusk_pair_160 (Q : AH → Prop) (x1 : Int32) (x2 : Int32) (x4 : Int32) (x6 : Int32) (x7 : Int32) (s0 : Int32) (h : AH) : Prop := ((s0 = 0 → inb x1 7 ∧ inb x4 7 ∧ Q (wI (wI h 19 x1 0) 19 x4 0)) ∧ (¬ s0 = 0 → p_Dusk_sink (fun h3 => p_Dusk_rise (fun h4 => Q h4) x7 h3) x6 x2 h))
def p_Dusk_pair_159 (Q : AH → Prop) (x1 : Int32) (x2 : Int32) (x4 : Int32) (x6 : Int32) (x7 : Int32) (h : AH) : Prop := p_Dusk_pair_160 Q   x1 x2 x4 x6 x7 0 h
def p_Dusk_pair_51 (Q : AH → Prop) (x1 : Int32) (x2 : Int32) (x3 : Int32) (x4 : Int32) (x5 : Int32) (x6 : Int32) (s0 : Int32) (h : AH) : Prop := ((¬ x3 = 0 → p_Dusk_pair_159 Q   x1 x2 x4 x6 s0 h) ∧ (x3 = 0 → inb x6 7 ∧ (((h.1 15 x6) ≤ 0 → p_Dusk_pair_159 Q   x1 x2 x4 x6 s0 h) ∧ (¬ (h.1 15 x6) ≤ 0 → inb s0 7 ∧ ((9 ≤ (h.1 15 s0) → p_Dusk_pair_159 Q   x1 x2 x4 x6 s0 h) ∧ (¬ 9 ≤ (h.1 15 s0) → 0 < rR T1 h 18 x6.toNatClampNeg ∧ pv_isFree (fun r4 h5 => ((r4 = 0 → p_Dusk_pair_159 Q   x1 x2 x4 x6 s0 h5) ∧ (¬ r4 = 0 → inb s0 7 ∧ 0 < rR T1 h5 18 s0.toNatClampNeg ∧ pv_isFree (fun r8 h9 => ((r8 = 0 → p_Dusk_pair_159 Q   x1 x2 x4 x6 s0 h9) ∧ (¬ r8 = 0 → p_Math_abs (fun r11 h10 => p_Dusk_holds (fun r13 h12 => p_Dusk_holds (fun r15 h14 => ((r11 ≤ (r13 + r15) → p_Dusk_pair_159 Q   x1 x2 x4 x6 s0 h14) ∧ (¬ r11 ≤ (r13 + r15) → p_Dusk_pair_160 Q   x1 x2 x4 x6 s0 1 h14))) x4 x2 h12) x1 x2 h10) x5 h9))) (rR T1 h5 18 s0.toNatClampNeg - 1) (h5.1 15 s0) x2 h5))) (rR T1 h 18 x6.toNatClampNeg - 1) (h.1 15 x6) x2 h))))))
def p_Dusk_pair_38 (Q : AH → Prop) (x1 : Int32) (x2 : Int32) (x3 : Int32) (x4 : Int32) (x5 : Int32) (s0 : Int32) (h : AH) : Prop := ((x5 ≤ 0 → p_Dusk_pair_51 Q   x1 x2 x3 x4 x5 s0 x1 h) ∧ (¬ x5 ≤ 0 → p_Dusk_pair_51 Q   x1 x2 x3 x4 x5 s0 x4 h))
def p_Dusk_pair (Q : AH → Prop) (x1 : Int32) (x2 : Int32) (x3 : Int32) (h : AH) : Prop := inb x1 7 ∧ p_Dusk_weighs (fun r3 h2 => p_Dusk_weighs (fun r5 h4 => (((r3 - r5) ≤ 0 → p_Dusk_pair_38 Q   x1 x2 x3 (h.1 17 x1) (r3 - r5) (h.1 17 x1) h4) ∧ (¬ (r3 - r5) ≤ 0 → p_Dusk_pair_38 Q   x1 x2 x3 (h.1 17 x1) (r3 - r5) x1 h4))) (h.1 17 x1) x2 h2) x1 x2 h
set_option maxRecDepth 20000 in
theorem r_Dusk_pair_160 {G : GG} {d : Nat} {Q : AH → Prop} (x1 : Int32) (x2 : Int32) (x4 : Int32) (x6 : Int32) (x7 : Int32) (s0 : Int32) (h : AH) (H : p_Dusk_pair_160 Q x1 x2 x4 x6 x7 s0 h) : Att G T1 m_Dusk_pair (d + 4) 160 [some (.ref 13), some (.int x1), some (.int x2), none, some (.int x4), none, some (.int x6), some (.int x7), none] [.int s0] h 0 0 (vQ Q) := by
  refine A_istore [some (.ref 13), some (.int x1), some (.int x2), none, some (.int x4), none, some (.int x6), some (.int x7), some (.int s0)] d_Dusk_pair_160 (by decide) rfl rfl ?_
  refine A_iload d_Dusk_pair_162 rfl ?_
  refine A_if_eq 183 d_Dusk_pair_164 (by decide) (fun z => ?_) (fun z => ?_)
  · have H := H.1 z
    refine A_aload_n d_Dusk_pair_183 rfl ?_
    refine A_get (v := .ref 19) d_Dusk_pair_184 (fo_Dusk_24_2 rfl) (vA_s (by decide)) rfl (by first | rfl | (show Value.int _ = Value.int _; simp [wI, wL, wR, wC, up])) ?_
    refine A_iload_n d_Dusk_pair_187 rfl ?_
    refine A_iconst 0 (by decide) d_Dusk_pair_188 ?_
    obtain ⟨c1, H⟩ := H
    refine A_iast (n := 7) d_Dusk_pair_189 (vA_s (by decide)) rfl c1 ?_
    refine A_aload_n d_Dusk_pair_190 rfl ?_
    refine A_get (v := .ref 19) d_Dusk_pair_191 (fo_Dusk_24_2 rfl) (vA_s (by decide)) rfl (by first | rfl | (show Value.int _ = Value.int _; simp [wI, wL, wR, wC, up])) ?_
    refine A_iload d_Dusk_pair_194 rfl ?_
    refine A_iconst 0 (by decide) d_Dusk_pair_196 ?_
    obtain ⟨c2, H⟩ := H
    refine A_iast (n := 7) d_Dusk_pair_197 (vA_s (by decide)) rfl c2 ?_
    exact A_ret d_Dusk_pair_198 rfl H
  · have H := H.2 z
    refine A_aload_n d_Dusk_pair_167 rfl ?_
    refine A_iload d_Dusk_pair_168 rfl ?_
    refine A_iload_n d_Dusk_pair_170 rfl ?_
    refine A_cV [.ref 13, .int x6, .int x2] [] (ct_Dusk_92 rfl) d_Dusk_pair_171 rfl rfl (by decide) (Nat.le_of_ble_eq_true rfl) (rcA_o (c := 2) rfl (vA_s (by decide)) rfl (by decide) rfl) (ok_Dusk_sink (d := d) H) (fun h3 H => ?_)
    refine A_aload_n d_Dusk_pair_174 rfl ?_
    refine A_iload d_Dusk_pair_175 rfl ?_
    refine A_cV [.ref 13, .int x7] [] (ct_Dusk_101 rfl) d_Dusk_pair_177 rfl rfl (by decide) (Nat.le_of_ble_eq_true rfl) (rcA_o (c := 2) rfl (vA_s (by decide)) rfl (by decide) rfl) (ok_Dusk_rise (d := d + 3) H) (fun h4 H => ?_)
    refine A_goto 198 d_Dusk_pair_180 (by decide) ?_
    exact A_ret d_Dusk_pair_198 rfl H
set_option maxRecDepth 20000 in
theorem r_Dusk_pair_159 {G : GG} {d : Nat} {Q : AH → Prop} (x1 : Int32) (x2 : Int32) (x4 : Int32) (x6 : Int32) (x7 : Int32) (h : AH) (H : p_Dusk_pair_159 Q x1 x2 x4 x6 x7 h) : Att G T1 m_Dusk_pair (d + 4) 159 [some (.ref 13), some (.int x1), some (.int x2), none, some (.int x4), none, some (.int x6), some (.int x7), none] [] h 0 0 (vQ Q) := by
  refine A_iconst 0 (by decide) d_Dusk_pair_159 ?_
  exact r_Dusk_pair_160   _ _ _ _ _ _ _ H
set_option maxRecDepth 20000 in
theorem r_Dusk_pair_51 {G : GG} {d : Nat} {Q : AH → Prop} (x1 : Int32) (x2 : Int32) (x3 : Int32) (x4 : Int32) (x5 : Int32) (x6 : Int32) (s0 : Int32) (h : AH) (H : p_Dusk_pair_51 Q x1 x2 x3 x4 x5 x6 s0 h) : Att G T1 m_Dusk_pair (d + 4) 51 [some (.ref 13), some (.int x1), some (.int x2), some (.int x3), some (.int x4), some (.int x5), some (.int x6), none, none] [.int s0] h 0 0 (vQ Q) := by
  refine A_istore [some (.ref 13), some (.int x1), some (.int x2), some (.int x3), some (.int x4), some (.int x5), some (.int x6), some (.int s0), none] d_Dusk_pair_51 (by decide) rfl rfl ?_
  refine A_iload_n d_Dusk_pair_53 rfl ?_
  refine A_if_ne 159 d_Dusk_pair_54 (by decide) (fun z => ?_) (fun z => ?_)
  · have H := H.1 z
    refine A_sub (L' := [some (.ref 13), some (.int x1), some (.int x2), none, some (.int x4), none, some (.int x6), some (.int s0), none]) ⟨rfl, rfl, rfl, rfl, rfl, rfl, trivial⟩ ?_
    exact r_Dusk_pair_159   _ _ _ _ _ _ H
  · have H := H.2 z
    refine A_aload_n d_Dusk_pair_57 rfl ?_
    refine A_get (v := .ref 14) d_Dusk_pair_58 (fo_Dusk_12_2 rfl) (vA_s (by decide)) rfl (by first | rfl | (show Value.int _ = Value.int _; simp [wI, wL, wR, wC, up])) ?_
    refine A_get (v := .ref 15) d_Dusk_pair_61 (fo_Dusk_78_10 rfl) (vA_s (by decide)) rfl (by first | rfl | (show Value.int _ = Value.int _; simp [wI, wL, wR, wC, up])) ?_
    refine A_iload d_Dusk_pair_64 rfl ?_
    obtain ⟨c1, H⟩ := H
    refine A_ialdv (n := 7) (v := (h.1 15 x6)) d_Dusk_pair_66 (vA_s (by decide)) rfl c1 rfl ?_
    refine A_if_le 159 d_Dusk_pair_67 (by decide) (fun z => ?_) (fun z => ?_)
    · have H := H.1 z
      refine A_sub (L' := [some (.ref 13), some (.int x1), some (.int x2), none, some (.int x4), none, some (.int x6), some (.int s0), none]) ⟨rfl, rfl, rfl, rfl, rfl, rfl, trivial⟩ ?_
      exact r_Dusk_pair_159   _ _ _ _ _ _ H
    · have H := H.2 z
      refine A_aload_n d_Dusk_pair_70 rfl ?_
      refine A_get (v := .ref 14) d_Dusk_pair_71 (fo_Dusk_12_2 rfl) (vA_s (by decide)) rfl (by first | rfl | (show Value.int _ = Value.int _; simp [wI, wL, wR, wC, up])) ?_
      refine A_get (v := .ref 15) d_Dusk_pair_74 (fo_Dusk_78_10 rfl) (vA_s (by decide)) rfl (by first | rfl | (show Value.int _ = Value.int _; simp [wI, wL, wR, wC, up])) ?_
      refine A_iload d_Dusk_pair_77 rfl ?_
      obtain ⟨c2, H⟩ := H
      refine A_ialdv (n := 7) (v := (h.1 15 s0)) d_Dusk_pair_79 (vA_s (by decide)) rfl c2 rfl ?_
      refine A_bipush 9 (by decide) d_Dusk_pair_80 ?_
      refine A_icmp_ge 159 d_Dusk_pair_82 (by decide) (fun z => ?_) (fun z => ?_)
      · have H := H.1 z
        refine A_sub (L' := [some (.ref 13), some (.int x1), some (.int x2), none, some (.int x4), none, some (.int x6), some (.int s0), none]) ⟨rfl, rfl, rfl, rfl, rfl, rfl, trivial⟩ ?_
        exact r_Dusk_pair_159   _ _ _ _ _ _ H
      · have H := H.2 z
        refine A_aload_n d_Dusk_pair_85 rfl ?_
        refine A_get (v := .ref 18) d_Dusk_pair_86 (fo_Dusk_20_2 rfl) (vA_s (by decide)) rfl (by first | rfl | (show Value.int _ = Value.int _; simp [wI, wL, wR, wC, up])) ?_
        refine A_iload d_Dusk_pair_89 rfl ?_
        obtain ⟨c3, H⟩ := H
        refine A_aald (t := 0) (n := 7) d_Dusk_pair_91 (by decide) (vA_s (by decide)) rfl c1 (pos_sub c3) ?_
        refine A_aload_n d_Dusk_pair_92 rfl ?_
        refine A_get (v := .ref 14) d_Dusk_pair_93 (fo_Dusk_12_2 rfl) (vA_s (by decide)) rfl (by first | rfl | (show Value.int _ = Value.int _; simp [wI, wL, wR, wC, up])) ?_
        refine A_get (v := .ref 15) d_Dusk_pair_96 (fo_Dusk_78_10 rfl) (vA_s (by decide)) rfl (by first | rfl | (show Value.int _ = Value.int _; simp [wI, wL, wR, wC, up])) ?_
        refine A_iload d_Dusk_pair_99 rfl ?_
        refine A_ialdv (n := 7) (v := (h.1 15 x6)) d_Dusk_pair_101 (vA_s (by decide)) rfl c1 rfl ?_
        refine A_iload_n d_Dusk_pair_102 rfl ?_
        refine A_pv_isFree (d := d + 1) d_Dusk_pair_103 H (fun r4 h5 H => ?_)
        refine A_if_eq 159 d_Dusk_pair_106 (by decide) (fun z => ?_) (fun z => ?_)
        · have H := H.1 z
          refine A_sub (L' := [some (.ref 13), some (.int x1), some (.int x2), none, some (.int x4), none, some (.int x6), some (.int s0), none]) ⟨rfl, rfl, rfl, rfl, rfl, rfl, trivial⟩ ?_
          exact r_Dusk_pair_159   _ _ _ _ _ _ H
        · have H := H.2 z
          refine A_aload_n d_Dusk_pair_109 rfl ?_
          refine A_get (v := .ref 18) d_Dusk_pair_110 (fo_Dusk_20_2 rfl) (vA_s (by decide)) rfl (by first | rfl | (show Value.int _ = Value.int _; simp [wI, wL, wR, wC, up])) ?_
          refine A_iload d_Dusk_pair_113 rfl ?_
          obtain ⟨c6, H⟩ := H
          obtain ⟨c7, H⟩ := H
          refine A_aald (t := 0) (n := 7) d_Dusk_pair_115 (by decide) (vA_s (by decide)) rfl c6 (pos_sub c7) ?_
          refine A_aload_n d_Dusk_pair_116 rfl ?_
          refine A_get (v := .ref 14) d_Dusk_pair_117 (fo_Dusk_12_2 rfl) (vA_s (by decide)) rfl (by first | rfl | (show Value.int _ = Value.int _; simp [wI, wL, wR, wC, up])) ?_
          refine A_get (v := .ref 15) d_Dusk_pair_120 (fo_Dusk_78_10 rfl) (vA_s (by decide)) rfl (by first | rfl | (show Value.int _ = Value.int _; simp [wI, wL, wR, wC, up])) ?_
          refine A_iload d_Dusk_pair_123 rfl ?_
          refine A_ialdv (n := 7) (v := (h5.1 15 s0)) d_Dusk_pair_125 (vA_s (by decide)) rfl c6 rfl ?_
          refine A_iload_n d_Dusk_pair_126 rfl ?_
          refine A_pv_isFree (d := d + 1) d_Dusk_pair_127 H (fun r8 h9 H => ?_)
          refine A_if_eq 159 d_Dusk_pair_130 (by decide) (fun z => ?_) (fun z => ?_)
          · have H := H.1 z
            refine A_sub (L' := [some (.ref 13), some (.int x1), some (.int x2), none, some (.int x4), none, some (.int x6), some (.int s0), none]) ⟨rfl, rfl, rfl, rfl, rfl, rfl, trivial⟩ ?_
            exact r_Dusk_pair_159   _ _ _ _ _ _ H
          · have H := H.2 z
            refine A_iload d_Dusk_pair_133 rfl ?_
            refine A_cI [.int x5] [] (ct_Dusk_95 rfl) d_Dusk_pair_135 rfl rfl (by decide) (Nat.le_of_ble_eq_true rfl) trivial (ok_Math_abs (d := d + 3) H) (fun r11 h10 H => ?_)
            refine A_aload_n d_Dusk_pair_138 rfl ?_
            refine A_iload_n d_Dusk_pair_139 rfl ?_
            refine A_iload_n d_Dusk_pair_140 rfl ?_
            refine A_cI [.ref 13, .int x1, .int x2] [.int r11] (ct_Dusk_89 rfl) d_Dusk_pair_141 rfl rfl (by decide) (Nat.le_of_ble_eq_true rfl) (rcA_o (c := 2) rfl (vA_s (by decide)) rfl (by decide) rfl) (ok_Dusk_holds (d := d) H) (fun r13 h12 H => ?_)
            refine A_aload_n d_Dusk_pair_144 rfl ?_
            refine A_iload d_Dusk_pair_145 rfl ?_
            refine A_iload_n d_Dusk_pair_147 rfl ?_
            refine A_cI [.ref 13, .int x4, .int x2] [.int r13, .int r11] (ct_Dusk_89 rfl) d_Dusk_pair_148 rfl rfl (by decide) (Nat.le_of_ble_eq_true rfl) (rcA_o (c := 2) rfl (vA_s (by decide)) rfl (by decide) rfl) (ok_Dusk_holds (d := d) H) (fun r15 h14 H => ?_)
            refine A_iadd d_Dusk_pair_151 ?_
            refine A_icmp_le 159 d_Dusk_pair_152 (by decide) (fun z => ?_) (fun z => ?_)
            · have H := H.1 z
              refine A_sub (L' := [some (.ref 13), some (.int x1), some (.int x2), none, some (.int x4), none, some (.int x6), some (.int s0), none]) ⟨rfl, rfl, rfl, rfl, rfl, rfl, trivial⟩ ?_
              exact r_Dusk_pair_159   _ _ _ _ _ _ H
            · have H := H.2 z
              refine A_iconst 1 (by decide) d_Dusk_pair_155 ?_
              refine A_goto 160 d_Dusk_pair_156 (by decide) ?_
              refine A_sub (L' := [some (.ref 13), some (.int x1), some (.int x2), none, some (.int x4), none, some (.int x6), some (.int s0), none]) ⟨rfl, rfl, rfl, rfl, rfl, rfl, trivial⟩ ?_
              exact r_Dusk_pair_160   _ _ _ _ _ _ _ H
set_option maxRecDepth 20000 in
theorem r_Dusk_pair_38 {G : GG} {d : Nat} {Q : AH → Prop} (x1 : Int32) (x2 : Int32) (x3 : Int32) (x4 : Int32) (x5 : Int32) (s0 : Int32) (h : AH) (H : p_Dusk_pair_38 Q x1 x2 x3 x4 x5 s0 h) : Att G T1 m_Dusk_pair (d + 4) 38 [some (.ref 13), some (.int x1), some (.int x2), some (.int x3), some (.int x4), some (.int x5), none, none, none] [.int s0] h 0 0 (vQ Q) := by
  refine A_istore [some (.ref 13), some (.int x1), some (.int x2), some (.int x3), some (.int x4), some (.int x5), some (.int s0), none, none] d_Dusk_pair_38 (by decide) rfl rfl ?_
  refine A_iload d_Dusk_pair_40 rfl ?_
  refine A_if_le 50 d_Dusk_pair_42 (by decide) (fun z => ?_) (fun z => ?_)
  · have H := H.1 z
    refine A_iload_n d_Dusk_pair_50 rfl ?_
    exact r_Dusk_pair_51   _ _ _ _ _ _ _ _ H
  · have H := H.2 z
    refine A_iload d_Dusk_pair_45 rfl ?_
    refine A_goto 51 d_Dusk_pair_47 (by decide) ?_
    exact r_Dusk_pair_51   _ _ _ _ _ _ _ _ H
set_option maxRecDepth 20000 in
theorem r_Dusk_pair_0 {G : GG} {d : Nat} {Q : AH → Prop} (x1 : Int32) (x2 : Int32) (x3 : Int32) (h : AH) (H : p_Dusk_pair Q x1 x2 x3 h) : Att G T1 m_Dusk_pair (d + 4) 0 [some (.ref 13), some (.int x1), some (.int x2), some (.int x3), none, none, none, none, none] [] h 0 0 (vQ Q) := by
  refine A_aload_n d_Dusk_pair_0 rfl ?_
  refine A_get (v := .ref 14) d_Dusk_pair_1 (fo_Dusk_12_2 rfl) (vA_s (by decide)) rfl (by first | rfl | (show Value.int _ = Value.int _; simp [wI, wL, wR, wC, up])) ?_
  refine A_get (v := .ref 17) d_Dusk_pair_4 (fo_Dusk_65_10 rfl) (vA_s (by decide)) rfl (by first | rfl | (show Value.int _ = Value.int _; simp [wI, wL, wR, wC, up])) ?_
  refine A_iload_n d_Dusk_pair_7 rfl ?_
  obtain ⟨c1, H⟩ := H
  refine A_ialdv (n := 7) (v := (h.1 17 x1)) d_Dusk_pair_8 (vA_s (by decide)) rfl c1 rfl ?_
  refine A_istore [some (.ref 13), some (.int x1), some (.int x2), some (.int x3), some (.int (h.1 17 x1)), none, none, none, none] d_Dusk_pair_9 (by decide) rfl rfl ?_
  refine A_aload_n d_Dusk_pair_11 rfl ?_
  refine A_iload_n d_Dusk_pair_12 rfl ?_
  refine A_iload_n d_Dusk_pair_13 rfl ?_
  refine A_cI [.ref 13, .int x1, .int x2] [] (ct_Dusk_85 rfl) d_Dusk_pair_14 rfl rfl (by decide) (Nat.le_of_ble_eq_true rfl) (rcA_o (c := 2) rfl (vA_s (by decide)) rfl (by decide) rfl) (ok_Dusk_weighs (d := d) H) (fun r3 h2 H => ?_)
  refine A_aload_n d_Dusk_pair_17 rfl ?_
  refine A_iload d_Dusk_pair_18 rfl ?_
  refine A_iload_n d_Dusk_pair_20 rfl ?_
  refine A_cI [.ref 13, .int (h.1 17 x1), .int x2] [.int r3] (ct_Dusk_85 rfl) d_Dusk_pair_21 rfl rfl (by decide) (Nat.le_of_ble_eq_true rfl) (rcA_o (c := 2) rfl (vA_s (by decide)) rfl (by decide) rfl) (ok_Dusk_weighs (d := d) H) (fun r5 h4 H => ?_)
  refine A_isub d_Dusk_pair_24 ?_
  refine A_istore [some (.ref 13), some (.int x1), some (.int x2), some (.int x3), some (.int (h.1 17 x1)), some (.int (r3 - r5)), none, none, none] d_Dusk_pair_25 (by decide) rfl rfl ?_
  refine A_iload d_Dusk_pair_27 rfl ?_
  refine A_if_le 36 d_Dusk_pair_29 (by decide) (fun z => ?_) (fun z => ?_)
  · have H := H.1 z
    refine A_iload d_Dusk_pair_36 rfl ?_
    exact r_Dusk_pair_38   _ _ _ _ _ _ _ H
  · have H := H.2 z
    refine A_iload_n d_Dusk_pair_32 rfl ?_
    refine A_goto 38 d_Dusk_pair_33 (by decide) ?_
    exact r_Dusk_pair_38   _ _ _ _ _ _ _ H
set_option maxRecDepth 20000 in
theorem ok_Dusk_pair {G : GG} {d : Nat} {Q : AH → Prop} {x1 : Int32} {x2 : Int32} {x3 : Int32} {h : AH} (H : p_Dusk_pair Q x1 x2 x3 h) : WP G T1 m_Dusk_pair (d + 4) [.ref 13, .int x1, .int x2, .int x3] h 0 0 (vQ Q) := by
  exact WP.enter 5 (by decide) rfl rfl (r_Dusk_pair_0 x1 x2 x3 h H)
theorem d_MO_text_0 : decode prog_14_method_22_code 0 = .ok (.aload_n 0, 1) := by decide +kernel
theorem d_MO_text_1 : decode prog_14_method_22_code 1 = .ok (.getfield 107, 3) := by decide +kernel
theorem d_MO_text_4 : decode prog_14_method_22_code 4 = .ok (.bipush 6, 2) := by decide +kernel
theorem d_MO_text_6 : decode prog_14_method_22_code 6 = .ok (.if_icmp .ne 6, 3) := by decide +kernel
theorem d_MO_text_9 : decode prog_14_method_22_code 9 = .ok (.bipush (-4), 2) := by decide +kernel
theorem d_MO_text_11 : decode prog_14_method_22_code 11 = .ok (.ireturn, 1) := by decide +kernel
theorem d_MO_text_12 : decode prog_14_method_22_code 12 = .ok (.aload_n 0, 1) := by decide +kernel
theorem d_MO_text_13 : decode prog_14_method_22_code 13 = .ok (.iconst 0, 1) := by decide +kernel
theorem d_MO_text_14 : decode prog_14_method_22_code 14 = .ok (.putfield 116, 3) := by decide +kernel
theorem d_MO_text_17 : decode prog_14_method_22_code 17 = .ok (.aload_n 0, 1) := by decide +kernel
theorem d_MO_text_18 : decode prog_14_method_22_code 18 = .ok (.iconst 0, 1) := by decide +kernel
theorem d_MO_text_19 : decode prog_14_method_22_code 19 = .ok (.putfield 132, 3) := by decide +kernel
theorem d_MO_text_22 : decode prog_14_method_22_code 22 = .ok (.iconst 1, 1) := by decide +kernel
theorem d_MO_text_23 : decode prog_14_method_22_code 23 = .ok (.istore_n 1, 1) := by decide +kernel
theorem d_MO_text_24 : decode prog_14_method_22_code 24 = .ok (.iconst 0, 1) := by decide +kernel
theorem d_MO_text_25 : decode prog_14_method_22_code 25 = .ok (.istore_n 2, 1) := by decide +kernel
theorem d_MO_text_26 : decode prog_14_method_22_code 26 = .ok (.iload_n 2, 1) := by decide +kernel
theorem d_MO_text_27 : decode prog_14_method_22_code 27 = .ok (.iconst 3, 1) := by decide +kernel
theorem d_MO_text_28 : decode prog_14_method_22_code 28 = .ok (.if_icmp .ge 73, 3) := by decide +kernel
theorem d_MO_text_31 : decode prog_14_method_22_code 31 = .ok (.iload_n 1, 1) := by decide +kernel
theorem d_MO_text_32 : decode prog_14_method_22_code 32 = .ok (.ifCond .eq 69, 3) := by decide +kernel
theorem d_MO_text_35 : decode prog_14_method_22_code 35 = .ok (.aload_n 0, 1) := by decide +kernel
theorem d_MO_text_36 : decode prog_14_method_22_code 36 = .ok (.invokevirtual 155, 3) := by decide +kernel
theorem d_MO_text_39 : decode prog_14_method_22_code 39 = .ok (.aload_n 0, 1) := by decide +kernel
theorem d_MO_text_40 : decode prog_14_method_22_code 40 = .ok (.getfield 122, 3) := by decide +kernel
theorem d_MO_text_43 : decode prog_14_method_22_code 43 = .ok (.iconst 3, 1) := by decide +kernel
theorem d_MO_text_44 : decode prog_14_method_22_code 44 = .ok (.if_icmp .ne 15, 3) := by decide +kernel
theorem d_MO_text_47 : decode prog_14_method_22_code 47 = .ok (.aload_n 0, 1) := by decide +kernel
theorem d_MO_text_48 : decode prog_14_method_22_code 48 = .ok (.getfield 125, 3) := by decide +kernel
theorem d_MO_text_51 : decode prog_14_method_22_code 51 = .ok (.iload_n 2, 1) := by decide +kernel
theorem d_MO_text_52 : decode prog_14_method_22_code 52 = .ok (.if_icmp .ne 7, 3) := by decide +kernel
theorem d_MO_text_55 : decode prog_14_method_22_code 55 = .ok (.iconst 1, 1) := by decide +kernel
theorem d_MO_text_56 : decode prog_14_method_22_code 56 = .ok (.goto 4, 3) := by decide +kernel
theorem d_MO_text_59 : decode prog_14_method_22_code 59 = .ok (.iconst 0, 1) := by decide +kernel
theorem d_MO_text_60 : decode prog_14_method_22_code 60 = .ok (.istore_n 1, 1) := by decide +kernel
theorem d_MO_text_61 : decode prog_14_method_22_code 61 = .ok (.aload_n 0, 1) := by decide +kernel
theorem d_MO_text_62 : decode prog_14_method_22_code 62 = .ok (.getfield 34, 3) := by decide +kernel
theorem d_MO_text_65 : decode prog_14_method_22_code 65 = .ok (.iconst 4, 1) := by decide +kernel
theorem d_MO_text_66 : decode prog_14_method_22_code 66 = .ok (.aload_n 0, 1) := by decide +kernel
theorem d_MO_text_67 : decode prog_14_method_22_code 67 = .ok (.getfield 107, 3) := by decide +kernel
theorem d_MO_text_70 : decode prog_14_method_22_code 70 = .ok (.imul, 1) := by decide +kernel
theorem d_MO_text_71 : decode prog_14_method_22_code 71 = .ok (.iload_n 2, 1) := by decide +kernel
theorem d_MO_text_72 : decode prog_14_method_22_code 72 = .ok (.iadd, 1) := by decide +kernel
theorem d_MO_text_73 : decode prog_14_method_22_code 73 = .ok (.aload_n 0, 1) := by decide +kernel
theorem d_MO_text_74 : decode prog_14_method_22_code 74 = .ok (.getfield 132, 3) := by decide +kernel
theorem d_MO_text_77 : decode prog_14_method_22_code 77 = .ok (.iastore, 1) := by decide +kernel
theorem d_MO_text_78 : decode prog_14_method_22_code 78 = .ok (.iload_n 1, 1) := by decide +kernel
theorem d_MO_text_79 : decode prog_14_method_22_code 79 = .ok (.ifCond .eq 14, 3) := by decide +kernel
theorem d_MO_text_82 : decode prog_14_method_22_code 82 = .ok (.aload_n 0, 1) := by decide +kernel
theorem d_MO_text_83 : decode prog_14_method_22_code 83 = .ok (.invokevirtual 168, 3) := by decide +kernel
theorem d_MO_text_86 : decode prog_14_method_22_code 86 = .ok (.ifCond .eq 7, 3) := by decide +kernel
theorem d_MO_text_89 : decode prog_14_method_22_code 89 = .ok (.iconst 1, 1) := by decide +kernel
theorem d_MO_text_90 : decode prog_14_method_22_code 90 = .ok (.goto 4, 3) := by decide +kernel
theorem d_MO_text_93 : decode prog_14_method_22_code 93 = .ok (.iconst 0, 1) := by decide +kernel
theorem d_MO_text_94 : decode prog_14_method_22_code 94 = .ok (.istore_n 1, 1) := by decide +kernel
theorem d_MO_text_95 : decode prog_14_method_22_code 95 = .ok (.iinc 2 1, 3) := by decide +kernel
theorem d_MO_text_98 : decode prog_14_method_22_code 98 = .ok (.goto (-72), 3) := by decide +kernel
theorem d_MO_text_101 : decode prog_14_method_22_code 101 = .ok (.iload_n 1, 1) := by decide +kernel
theorem d_MO_text_102 : decode prog_14_method_22_code 102 = .ok (.ifCond .eq 20, 3) := by decide +kernel
theorem d_MO_text_105 : decode prog_14_method_22_code 105 = .ok (.aload_n 0, 1) := by decide +kernel
theorem d_MO_text_106 : decode prog_14_method_22_code 106 = .ok (.invokevirtual 155, 3) := by decide +kernel
theorem d_MO_text_109 : decode prog_14_method_22_code 109 = .ok (.aload_n 0, 1) := by decide +kernel
theorem d_MO_text_110 : decode prog_14_method_22_code 110 = .ok (.getfield 122, 3) := by decide +kernel
theorem d_MO_text_113 : decode prog_14_method_22_code 113 = .ok (.ifCond .ne 7, 3) := by decide +kernel
theorem d_MO_text_116 : decode prog_14_method_22_code 116 = .ok (.iconst 1, 1) := by decide +kernel
theorem d_MO_text_117 : decode prog_14_method_22_code 117 = .ok (.goto 4, 3) := by decide +kernel
theorem d_MO_text_120 : decode prog_14_method_22_code 120 = .ok (.iconst 0, 1) := by decide +kernel
theorem d_MO_text_121 : decode prog_14_method_22_code 121 = .ok (.istore_n 1, 1) := by decide +kernel
theorem d_MO_text_122 : decode prog_14_method_22_code 122 = .ok (.aload_n 0, 1) := by decide +kernel
theorem d_MO_text_123 : decode prog_14_method_22_code 123 = .ok (.getfield 34, 3) := by decide +kernel
theorem d_MO_text_126 : decode prog_14_method_22_code 126 = .ok (.iconst 4, 1) := by decide +kernel
theorem d_MO_text_127 : decode prog_14_method_22_code 127 = .ok (.aload_n 0, 1) := by decide +kernel
theorem d_MO_text_128 : decode prog_14_method_22_code 128 = .ok (.getfield 107, 3) := by decide +kernel
theorem d_MO_text_131 : decode prog_14_method_22_code 131 = .ok (.imul, 1) := by decide +kernel
theorem d_MO_text_132 : decode prog_14_method_22_code 132 = .ok (.iconst 3, 1) := by decide +kernel
theorem d_MO_text_133 : decode prog_14_method_22_code 133 = .ok (.iadd, 1) := by decide +kernel
theorem d_MO_text_134 : decode prog_14_method_22_code 134 = .ok (.aload_n 0, 1) := by decide +kernel
theorem d_MO_text_135 : decode prog_14_method_22_code 135 = .ok (.getfield 132, 3) := by decide +kernel
theorem d_MO_text_138 : decode prog_14_method_22_code 138 = .ok (.iastore, 1) := by decide +kernel
theorem d_MO_text_139 : decode prog_14_method_22_code 139 = .ok (.aload_n 0, 1) := by decide +kernel
theorem d_MO_text_140 : decode prog_14_method_22_code 140 = .ok (.iconst 0, 1) := by decide +kernel
theorem d_MO_text_141 : decode prog_14_method_22_code 141 = .ok (.putfield 82, 3) := by decide +kernel
theorem d_MO_text_144 : decode prog_14_method_22_code 144 = .ok (.iload_n 1, 1) := by decide +kernel
theorem d_MO_text_145 : decode prog_14_method_22_code 145 = .ok (.ifCond .ne 11, 3) := by decide +kernel
theorem d_MO_text_148 : decode prog_14_method_22_code 148 = .ok (.bipush (-100), 2) := by decide +kernel
theorem d_MO_text_150 : decode prog_14_method_22_code 150 = .ok (.aload_n 0, 1) := by decide +kernel
theorem d_MO_text_151 : decode prog_14_method_22_code 151 = .ok (.getfield 119, 3) := by decide +kernel
theorem d_MO_text_154 : decode prog_14_method_22_code 154 = .ok (.isub, 1) := by decide +kernel
theorem d_MO_text_155 : decode prog_14_method_22_code 155 = .ok (.ireturn, 1) := by decide +kernel
theorem d_MO_text_156 : decode prog_14_method_22_code 156 = .ok (.aload_n 0, 1) := by decide +kernel
theorem d_MO_text_157 : decode prog_14_method_22_code 157 = .ok (.dup, 1) := by decide +kernel
theorem d_MO_text_158 : decode prog_14_method_22_code 158 = .ok (.getfield 107, 3) := by decide +kernel
theorem d_MO_text_161 : decode prog_14_method_22_code 161 = .ok (.iconst 1, 1) := by decide +kernel
theorem d_MO_text_162 : decode prog_14_method_22_code 162 = .ok (.iadd, 1) := by decide +kernel
theorem d_MO_text_163 : decode prog_14_method_22_code 163 = .ok (.putfield 107, 3) := by decide +kernel
theorem d_MO_text_166 : decode prog_14_method_22_code 166 = .ok (.aload_n 0, 1) := by decide +kernel
theorem d_MO_text_167 : decode prog_14_method_22_code 167 = .ok (.getfield 107, 3) := by decide +kernel
theorem d_MO_text_170 : decode prog_14_method_22_code 170 = .ok (.iconst 1, 1) := by decide +kernel
theorem d_MO_text_171 : decode prog_14_method_22_code 171 = .ok (.isub, 1) := by decide +kernel
theorem d_MO_text_172 : decode prog_14_method_22_code 172 = .ok (.ireturn, 1) := by decide +kernel
def p_MO_text_122 (Q : Int32 → AH → Prop) (x1 : Int32) (h : AH) : Prop := inb ((4 * (h.1 59 11)) + 3) 24 ∧ ((¬ x1 = 0 → Q (((h.1 59 11) + 1) - 1) (wI (wI (wI h 68 ((4 * (h.1 59 11)) + 3) (h.1 59 29)) 59 8 0) 59 11 ((h.1 59 11) + 1))) ∧ (x1 = 0 → Q ((-100) - (h.1 59 22)) (wI (wI h 68 ((4 * (h.1 59 11)) + 3) (h.1 59 29)) 59 8 0)))
def p_MO_text_121 (Q : Int32 → AH → Prop) (s0 : Int32) (h : AH) : Prop := p_MO_text_122 Q   s0 h
def p_MO_text_101 (Q : Int32 → AH → Prop) (x1 : Int32) (h : AH) : Prop := ((x1 = 0 → p_MO_text_122 Q   x1 h) ∧ (¬ x1 = 0 → p_MO_next (fun h1 => ((¬ (h1.1 59 23) = 0 → p_MO_text_121 Q   0 h1) ∧ ((h1.1 59 23) = 0 → p_MO_text_121 Q   1 h1))) h))
def p_MO_text_94 (Q : Int32 → AH → Prop) (K26 : Int32 → Int32 → AH → Prop) (x2 : Int32) (s0 : Int32) (h : AH) : Prop := K26 s0 (x2 + 1) h
def p_MO_text_93 (Q : Int32 → AH → Prop) (K26 : Int32 → Int32 → AH → Prop) (x2 : Int32) (h : AH) : Prop := p_MO_text_94 Q  K26 x2 0 h
def p_MO_text_60 (Q : Int32 → AH → Prop) (K26 : Int32 → Int32 → AH → Prop) (x2 : Int32) (s0 : Int32) (h : AH) : Prop := inb ((4 * (h.1 59 11)) + x2) 24 ∧ ((s0 = 0 → p_MO_text_93 Q  K26 x2 (wI h 68 ((4 * (h.1 59 11)) + x2) (h.1 59 29))) ∧ (¬ s0 = 0 → p_MO_eRead (fun r3 h2 => ((r3 = 0 → p_MO_text_93 Q  K26 x2 h2) ∧ (¬ r3 = 0 → p_MO_text_94 Q  K26 x2 1 h2))) (wI h 68 ((4 * (h.1 59 11)) + x2) (h.1 59 29))))
def p_MO_text_59 (Q : Int32 → AH → Prop) (K26 : Int32 → Int32 → AH → Prop) (x2 : Int32) (h : AH) : Prop := p_MO_text_60 Q  K26 x2 0 h
def p_MO_text_26 (Q : Int32 → AH → Prop) : Nat → Int32 → Int32 → AH → Prop
  | 0 => fun _ _ _ => False
  | n + 1 => fun x1 x2 h => let K26 := p_MO_text_26 Q n; ((3 ≤ x2 → p_MO_text_101 Q   x1 h) ∧ (¬ 3 ≤ x2 → ((x1 = 0 → p_MO_text_101 Q   x1 h) ∧ (¬ x1 = 0 → p_MO_next (fun h1 => ((¬ (h1.1 59 23) = 3 → p_MO_text_59 Q  K26 x2 h1) ∧ ((h1.1 59 23) = 3 → ((¬ (h1.1 59 24) = x2 → p_MO_text_59 Q  K26 x2 h1) ∧ ((h1.1 59 24) = x2 → p_MO_text_60 Q  K26 x2 1 h1))))) h))))
def p_MO_text (Q : Int32 → AH → Prop) (h : AH) : Prop := ((¬ (h.1 59 11) = 6 → ∃ n, p_MO_text_26 Q   n 1 0 (wI (wI h 59 21 0) 59 29 0)) ∧ ((h.1 59 11) = 6 → Q (-4) h))
set_option maxRecDepth 20000 in
theorem r_MO_text_122 {G : GG} {d : Nat} {Q : Int32 → AH → Prop} (x1 : Int32) (h : AH) (H : p_MO_text_122 Q x1 h) : Att G T1 m_MO_text (d + 4) 122 [some (.ref 59), some (.int x1), none] [] h 0 0 (iQ Q) := by
  refine A_aload_n d_MO_text_122 rfl ?_
  refine A_get (v := .ref 68) d_MO_text_123 (fo_MO_34_12 rfl) (vA_s (by decide)) rfl (by first | rfl | (show Value.int _ = Value.int _; simp [wI, wL, wR, wC, up])) ?_
  refine A_iconst 4 (by decide) d_MO_text_126 ?_
  refine A_aload_n d_MO_text_127 rfl ?_
  refine A_get (v := .int (h.1 59 11)) d_MO_text_128 (fo_MO_107_12 rfl) (vA_s (by decide)) rfl (by first | rfl | (show Value.int _ = Value.int _; simp [wI, wL, wR, wC, up])) ?_
  refine A_imul d_MO_text_131 ?_
  refine A_iconst 3 (by decide) d_MO_text_132 ?_
  refine A_iadd d_MO_text_133 ?_
  refine A_aload_n d_MO_text_134 rfl ?_
  refine A_get (v := .int (h.1 59 29)) d_MO_text_135 (fo_MO_132_12 rfl) (vA_s (by decide)) rfl (by first | rfl | (show Value.int _ = Value.int _; simp [wI, wL, wR, wC, up])) ?_
  obtain ⟨c1, H⟩ := H
  refine A_iast (n := 24) d_MO_text_138 (vA_s (by decide)) rfl c1 ?_
  refine A_aload_n d_MO_text_139 rfl ?_
  refine A_iconst 0 (by decide) d_MO_text_140 ?_
  refine A_putI (k := 8) d_MO_text_141 (fo_MO_82_12 rfl) (Or.inr ⟨rfl, _, ft_12_8⟩) (fun z => by cases z) rfl (vA_s (by decide)) rfl rfl rfl ?_
  refine A_iload_n d_MO_text_144 rfl ?_
  refine A_if_ne 156 d_MO_text_145 (by decide) (fun z => ?_) (fun z => ?_)
  · have H := H.1 z
    refine A_aload_n d_MO_text_156 rfl ?_
    refine A_dup rfl d_MO_text_157 ?_
    refine A_get (v := .int (h.1 59 11)) d_MO_text_158 (fo_MO_107_12 rfl) (vA_s (by decide)) rfl (by first | rfl | (show Value.int _ = Value.int _; simp [wI, wL, wR, wC, up])) ?_
    refine A_iconst 1 (by decide) d_MO_text_161 ?_
    refine A_iadd d_MO_text_162 ?_
    refine A_putI (k := 11) d_MO_text_163 (fo_MO_107_12 rfl) (Or.inr ⟨rfl, _, ft_12_11⟩) (fun z => by cases z) rfl (vA_s (by decide)) rfl rfl rfl ?_
    refine A_aload_n d_MO_text_166 rfl ?_
    refine A_get (v := .int ((h.1 59 11) + 1)) d_MO_text_167 (fo_MO_107_12 rfl) (vA_s (by decide)) rfl (by first | rfl | (show Value.int _ = Value.int _; simp [wI, wL, wR, wC, up])) ?_
    refine A_iconst 1 (by decide) d_MO_text_170 ?_
    refine A_isub d_MO_text_171 ?_
    exact A_iret d_MO_text_172 rfl rfl H
  · have H := H.2 z
    refine A_bipush (-100) (by decide) d_MO_text_148 ?_
    refine A_aload_n d_MO_text_150 rfl ?_
    refine A_get (v := .int (h.1 59 22)) d_MO_text_151 (fo_MO_119_12 rfl) (vA_s (by decide)) rfl (by first | rfl | (show Value.int _ = Value.int _; simp [wI, wL, wR, wC, up])) ?_
    refine A_isub d_MO_text_154 ?_
    exact A_iret d_MO_text_155 rfl rfl H
set_option maxRecDepth 20000 in
theorem r_MO_text_121 {G : GG} {d : Nat} {Q : Int32 → AH → Prop} (s0 : Int32) (h : AH) (H : p_MO_text_121 Q s0 h) : Att G T1 m_MO_text (d + 4) 121 [some (.ref 59), none, none] [.int s0] h 0 0 (iQ Q) := by
  refine A_istore_n [some (.ref 59), some (.int s0), none] d_MO_text_121 (by decide) rfl rfl ?_
  exact r_MO_text_122   _ _ H
set_option maxRecDepth 20000 in
theorem r_MO_text_101 {G : GG} {d : Nat} {Q : Int32 → AH → Prop} (x1 : Int32) (h : AH) (H : p_MO_text_101 Q x1 h) : Att G T1 m_MO_text (d + 4) 101 [some (.ref 59), some (.int x1), none] [] h 0 0 (iQ Q) := by
  refine A_iload_n d_MO_text_101 rfl ?_
  refine A_if_eq 122 d_MO_text_102 (by decide) (fun z => ?_) (fun z => ?_)
  · have H := H.1 z
    exact r_MO_text_122   _ _ H
  · have H := H.2 z
    refine A_aload_n d_MO_text_105 rfl ?_
    refine A_cV [.ref 59] [] (ct_MO_155 rfl) d_MO_text_106 rfl rfl (by decide) (Nat.le_of_ble_eq_true rfl) (rcA_o (c := 12) rfl (vA_s (by decide)) rfl (by decide) rfl) (ok_MO_next (d := d + 2) H) (fun h1 H => ?_)
    refine A_aload_n d_MO_text_109 rfl ?_
    refine A_get (v := .int (h1.1 59 23)) d_MO_text_110 (fo_MO_122_12 rfl) (vA_s (by decide)) rfl (by first | rfl | (show Value.int _ = Value.int _; simp [wI, wL, wR, wC, up])) ?_
    refine A_if_ne 120 d_MO_text_113 (by decide) (fun z => ?_) (fun z => ?_)
    · have H := H.1 z
      refine A_iconst 0 (by decide) d_MO_text_120 ?_
      refine A_sub (L' := [some (.ref 59), none, none]) ⟨rfl, trivial⟩ ?_
      exact r_MO_text_121   _ _ H
    · have H := H.2 z
      refine A_iconst 1 (by decide) d_MO_text_116 ?_
      refine A_goto 121 d_MO_text_117 (by decide) ?_
      refine A_sub (L' := [some (.ref 59), none, none]) ⟨rfl, trivial⟩ ?_
      exact r_MO_text_121   _ _ H
set_option maxRecDepth 20000 in
theorem r_MO_text_94 {G : GG} {d : Nat} {Q : Int32 → AH → Prop} {K26 : Int32 → Int32 → AH → Prop} (k26 : ∀ x1 x2 h, K26 x1 x2 h → Att G T1 m_MO_text (d + 4) 26 [some (.ref 59), some (.int x1), some (.int x2)] [] h 0 0 (iQ Q)) (x2 : Int32) (s0 : Int32) (h : AH) (H : p_MO_text_94 Q K26 x2 s0 h) : Att G T1 m_MO_text (d + 4) 94 [some (.ref 59), none, some (.int x2)] [.int s0] h 0 0 (iQ Q) := by
  refine A_istore_n [some (.ref 59), some (.int s0), some (.int x2)] d_MO_text_94 (by decide) rfl rfl ?_
  refine A_iinc 1 [some (.ref 59), some (.int s0), some (.int (x2 + 1))] d_MO_text_95 rfl (by decide) (by decide) rfl rfl ?_
  refine A_goto 26 d_MO_text_98 (by decide) ?_
  exact k26 _ _ _ H
set_option maxRecDepth 20000 in
theorem r_MO_text_93 {G : GG} {d : Nat} {Q : Int32 → AH → Prop} {K26 : Int32 → Int32 → AH → Prop} (k26 : ∀ x1 x2 h, K26 x1 x2 h → Att G T1 m_MO_text (d + 4) 26 [some (.ref 59), some (.int x1), some (.int x2)] [] h 0 0 (iQ Q)) (x2 : Int32) (h : AH) (H : p_MO_text_93 Q K26 x2 h) : Att G T1 m_MO_text (d + 4) 93 [some (.ref 59), none, some (.int x2)] [] h 0 0 (iQ Q) := by
  refine A_iconst 0 (by decide) d_MO_text_93 ?_
  exact r_MO_text_94  k26 _ _ _ H
set_option maxRecDepth 20000 in
theorem r_MO_text_60 {G : GG} {d : Nat} {Q : Int32 → AH → Prop} {K26 : Int32 → Int32 → AH → Prop} (k26 : ∀ x1 x2 h, K26 x1 x2 h → Att G T1 m_MO_text (d + 4) 26 [some (.ref 59), some (.int x1), some (.int x2)] [] h 0 0 (iQ Q)) (x2 : Int32) (s0 : Int32) (h : AH) (H : p_MO_text_60 Q K26 x2 s0 h) : Att G T1 m_MO_text (d + 4) 60 [some (.ref 59), none, some (.int x2)] [.int s0] h 0 0 (iQ Q) := by
  refine A_istore_n [some (.ref 59), some (.int s0), some (.int x2)] d_MO_text_60 (by decide) rfl rfl ?_
  refine A_aload_n d_MO_text_61 rfl ?_
  refine A_get (v := .ref 68) d_MO_text_62 (fo_MO_34_12 rfl) (vA_s (by decide)) rfl (by first | rfl | (show Value.int _ = Value.int _; simp [wI, wL, wR, wC, up])) ?_
  refine A_iconst 4 (by decide) d_MO_text_65 ?_
  refine A_aload_n d_MO_text_66 rfl ?_
  refine A_get (v := .int (h.1 59 11)) d_MO_text_67 (fo_MO_107_12 rfl) (vA_s (by decide)) rfl (by first | rfl | (show Value.int _ = Value.int _; simp [wI, wL, wR, wC, up])) ?_
  refine A_imul d_MO_text_70 ?_
  refine A_iload_n d_MO_text_71 rfl ?_
  refine A_iadd d_MO_text_72 ?_
  refine A_aload_n d_MO_text_73 rfl ?_
  refine A_get (v := .int (h.1 59 29)) d_MO_text_74 (fo_MO_132_12 rfl) (vA_s (by decide)) rfl (by first | rfl | (show Value.int _ = Value.int _; simp [wI, wL, wR, wC, up])) ?_
  obtain ⟨c1, H⟩ := H
  refine A_iast (n := 24) d_MO_text_77 (vA_s (by decide)) rfl c1 ?_
  refine A_iload_n d_MO_text_78 rfl ?_
  refine A_if_eq 93 d_MO_text_79 (by decide) (fun z => ?_) (fun z => ?_)
  · have H := H.1 z
    refine A_sub (L' := [some (.ref 59), none, some (.int x2)]) ⟨rfl, rfl, trivial⟩ ?_
    exact r_MO_text_93  k26 _ _ H
  · have H := H.2 z
    refine A_aload_n d_MO_text_82 rfl ?_
    refine A_cI [.ref 59] [] (ct_MO_168 rfl) d_MO_text_83 rfl rfl (by decide) (Nat.le_of_ble_eq_true rfl) (rcA_o (c := 12) rfl (vA_s (by decide)) rfl (by decide) rfl) (ok_MO_eRead (d := d) H) (fun r3 h2 H => ?_)
    refine A_if_eq 93 d_MO_text_86 (by decide) (fun z => ?_) (fun z => ?_)
    · have H := H.1 z
      refine A_sub (L' := [some (.ref 59), none, some (.int x2)]) ⟨rfl, rfl, trivial⟩ ?_
      exact r_MO_text_93  k26 _ _ H
    · have H := H.2 z
      refine A_iconst 1 (by decide) d_MO_text_89 ?_
      refine A_goto 94 d_MO_text_90 (by decide) ?_
      refine A_sub (L' := [some (.ref 59), none, some (.int x2)]) ⟨rfl, rfl, trivial⟩ ?_
      exact r_MO_text_94  k26 _ _ _ H
set_option maxRecDepth 20000 in
theorem r_MO_text_59 {G : GG} {d : Nat} {Q : Int32 → AH → Prop} {K26 : Int32 → Int32 → AH → Prop} (k26 : ∀ x1 x2 h, K26 x1 x2 h → Att G T1 m_MO_text (d + 4) 26 [some (.ref 59), some (.int x1), some (.int x2)] [] h 0 0 (iQ Q)) (x2 : Int32) (h : AH) (H : p_MO_text_59 Q K26 x2 h) : Att G T1 m_MO_text (d + 4) 59 [some (.ref 59), none, some (.int x2)] [] h 0 0 (iQ Q) := by
  refine A_iconst 0 (by decide) d_MO_text_59 ?_
  exact r_MO_text_60  k26 _ _ _ H
set_option maxRecDepth 20000 in
theorem r_MO_text_26 {G : GG} {d : Nat} {Q : Int32 → AH → Prop} : ∀ (n : Nat) (x1 : Int32) (x2 : Int32) (h : AH), p_MO_text_26 Q n x1 x2 h → Att G T1 m_MO_text (d + 4) 26 [some (.ref 59), some (.int x1), some (.int x2)] [] h 0 0 (iQ Q) := by
  intro n
  induction n with
  | zero => intro x1 x2 h H; exact H.elim
  | succ n k26 =>
    intro x1 x2 h H
    refine A_iload_n d_MO_text_26 rfl ?_
    refine A_iconst 3 (by decide) d_MO_text_27 ?_
    refine A_icmp_ge 101 d_MO_text_28 (by decide) (fun z => ?_) (fun z => ?_)
    · have H := H.1 z
      refine A_sub (L' := [some (.ref 59), some (.int x1), none]) ⟨rfl, rfl, trivial⟩ ?_
      exact r_MO_text_101   _ _ H
    · have H := H.2 z
      refine A_iload_n d_MO_text_31 rfl ?_
      refine A_if_eq 101 d_MO_text_32 (by decide) (fun z => ?_) (fun z => ?_)
      · have H := H.1 z
        refine A_sub (L' := [some (.ref 59), some (.int x1), none]) ⟨rfl, rfl, trivial⟩ ?_
        exact r_MO_text_101   _ _ H
      · have H := H.2 z
        refine A_aload_n d_MO_text_35 rfl ?_
        refine A_cV [.ref 59] [] (ct_MO_155 rfl) d_MO_text_36 rfl rfl (by decide) (Nat.le_of_ble_eq_true rfl) (rcA_o (c := 12) rfl (vA_s (by decide)) rfl (by decide) rfl) (ok_MO_next (d := d + 2) H) (fun h1 H => ?_)
        refine A_aload_n d_MO_text_39 rfl ?_
        refine A_get (v := .int (h1.1 59 23)) d_MO_text_40 (fo_MO_122_12 rfl) (vA_s (by decide)) rfl (by first | rfl | (show Value.int _ = Value.int _; simp [wI, wL, wR, wC, up])) ?_
        refine A_iconst 3 (by decide) d_MO_text_43 ?_
        refine A_icmp_ne 59 d_MO_text_44 (by decide) (fun z => ?_) (fun z => ?_)
        · have H := H.1 z
          refine A_sub (L' := [some (.ref 59), none, some (.int x2)]) ⟨rfl, rfl, trivial⟩ ?_
          exact r_MO_text_59  k26 _ _ H
        · have H := H.2 z
          refine A_aload_n d_MO_text_47 rfl ?_
          refine A_get (v := .int (h1.1 59 24)) d_MO_text_48 (fo_MO_125_12 rfl) (vA_s (by decide)) rfl (by first | rfl | (show Value.int _ = Value.int _; simp [wI, wL, wR, wC, up])) ?_
          refine A_iload_n d_MO_text_51 rfl ?_
          refine A_icmp_ne 59 d_MO_text_52 (by decide) (fun z => ?_) (fun z => ?_)
          · have H := H.1 z
            refine A_sub (L' := [some (.ref 59), none, some (.int x2)]) ⟨rfl, rfl, trivial⟩ ?_
            exact r_MO_text_59  k26 _ _ H
          · have H := H.2 z
            refine A_iconst 1 (by decide) d_MO_text_55 ?_
            refine A_goto 60 d_MO_text_56 (by decide) ?_
            refine A_sub (L' := [some (.ref 59), none, some (.int x2)]) ⟨rfl, rfl, trivial⟩ ?_
            exact r_MO_text_60  k26 _ _ _ H
set_option maxRecDepth 20000 in
theorem r_MO_text_0 {G : GG} {d : Nat} {Q : Int32 → AH → Prop} (h : AH) (H : p_MO_text Q h) : Att G T1 m_MO_text (d + 4) 0 [some (.ref 59), none, none] [] h 0 0 (iQ Q) := by
  refine A_aload_n d_MO_text_0 rfl ?_
  refine A_get (v := .int (h.1 59 11)) d_MO_text_1 (fo_MO_107_12 rfl) (vA_s (by decide)) rfl (by first | rfl | (show Value.int _ = Value.int _; simp [wI, wL, wR, wC, up])) ?_
  refine A_bipush 6 (by decide) d_MO_text_4 ?_
  refine A_icmp_ne 12 d_MO_text_6 (by decide) (fun z => ?_) (fun z => ?_)
  · have H := H.1 z
    refine A_aload_n d_MO_text_12 rfl ?_
    refine A_iconst 0 (by decide) d_MO_text_13 ?_
    refine A_putI (k := 21) d_MO_text_14 (fo_MO_116_12 rfl) (Or.inr ⟨rfl, _, ft_12_21⟩) (fun z => by cases z) rfl (vA_s (by decide)) rfl rfl rfl ?_
    refine A_aload_n d_MO_text_17 rfl ?_
    refine A_iconst 0 (by decide) d_MO_text_18 ?_
    refine A_putI (k := 29) d_MO_text_19 (fo_MO_132_12 rfl) (Or.inr ⟨rfl, _, ft_12_29⟩) (fun z => by cases z) rfl (vA_s (by decide)) rfl rfl rfl ?_
    refine A_iconst 1 (by decide) d_MO_text_22 ?_
    refine A_istore_n [some (.ref 59), some (.int 1), none] d_MO_text_23 (by decide) rfl rfl ?_
    refine A_iconst 0 (by decide) d_MO_text_24 ?_
    refine A_istore_n [some (.ref 59), some (.int 1), some (.int 0)] d_MO_text_25 (by decide) rfl rfl ?_
    obtain ⟨n9, H⟩ := H
    exact r_MO_text_26   n9 _ _ _ H
  · have H := H.2 z
    refine A_bipush (-4) (by decide) d_MO_text_9 ?_
    exact A_iret d_MO_text_11 rfl rfl H
set_option maxRecDepth 20000 in
theorem ok_MO_text {G : GG} {d : Nat} {Q : Int32 → AH → Prop} {h : AH} (H : p_MO_text Q h) : WP G T1 m_MO_text (d + 4) [.ref 59] h 0 0 (iQ Q) := by
  exact WP.enter 2 (by decide) rfl rfl (r_MO_text_0 h H)
theorem d_MO_alone_0 : decode prog_14_method_39_code 0 = .ok (.aload_n 0, 1) := by decide +kernel
theorem d_MO_alone_1 : decode prog_14_method_39_code 1 = .ok (.getfield 64, 3) := by decide +kernel
theorem d_MO_alone_4 : decode prog_14_method_39_code 4 = .ok (.iload_n 1, 1) := by decide +kernel
theorem d_MO_alone_5 : decode prog_14_method_39_code 5 = .ok (.iaload, 1) := by decide +kernel
theorem d_MO_alone_6 : decode prog_14_method_39_code 6 = .ok (.ifCond .le 36, 3) := by decide +kernel
theorem d_MO_alone_9 : decode prog_14_method_39_code 9 = .ok (.aload_n 0, 1) := by decide +kernel
theorem d_MO_alone_10 : decode prog_14_method_39_code 10 = .ok (.iload_n 1, 1) := by decide +kernel
theorem d_MO_alone_11 : decode prog_14_method_39_code 11 = .ok (.iload_n 2, 1) := by decide +kernel
theorem d_MO_alone_12 : decode prog_14_method_39_code 12 = .ok (.invokevirtual 199, 3) := by decide +kernel
theorem d_MO_alone_15 : decode prog_14_method_39_code 15 = .ok (.ifCond .eq 27, 3) := by decide +kernel
theorem d_MO_alone_18 : decode prog_14_method_39_code 18 = .ok (.aload_n 0, 1) := by decide +kernel
theorem d_MO_alone_19 : decode prog_14_method_39_code 19 = .ok (.iload_n 1, 1) := by decide +kernel
theorem d_MO_alone_20 : decode prog_14_method_39_code 20 = .ok (.iload_n 2, 1) := by decide +kernel
theorem d_MO_alone_21 : decode prog_14_method_39_code 21 = .ok (.invokevirtual 203, 3) := by decide +kernel
theorem d_MO_alone_24 : decode prog_14_method_39_code 24 = .ok (.aload_n 0, 1) := by decide +kernel
theorem d_MO_alone_25 : decode prog_14_method_39_code 25 = .ok (.iload_n 1, 1) := by decide +kernel
theorem d_MO_alone_26 : decode prog_14_method_39_code 26 = .ok (.iload_n 2, 1) := by decide +kernel
theorem d_MO_alone_27 : decode prog_14_method_39_code 27 = .ok (.invokevirtual 206, 3) := by decide +kernel
theorem d_MO_alone_30 : decode prog_14_method_39_code 30 = .ok (.if_icmp .le 12, 3) := by decide +kernel
theorem d_MO_alone_33 : decode prog_14_method_39_code 33 = .ok (.aload_n 0, 1) := by decide +kernel
theorem d_MO_alone_34 : decode prog_14_method_39_code 34 = .ok (.iload_n 1, 1) := by decide +kernel
theorem d_MO_alone_35 : decode prog_14_method_39_code 35 = .ok (.iload_n 2, 1) := by decide +kernel
theorem d_MO_alone_36 : decode prog_14_method_39_code 36 = .ok (.invokevirtual 209, 3) := by decide +kernel
theorem d_MO_alone_39 : decode prog_14_method_39_code 39 = .ok (.goto 10, 3) := by decide +kernel
theorem d_MO_alone_42 : decode prog_14_method_39_code 42 = .ok (.aload_n 0, 1) := by decide +kernel
theorem d_MO_alone_43 : decode prog_14_method_39_code 43 = .ok (.getfield 70, 3) := by decide +kernel
theorem d_MO_alone_46 : decode prog_14_method_39_code 46 = .ok (.iload_n 1, 1) := by decide +kernel
theorem d_MO_alone_47 : decode prog_14_method_39_code 47 = .ok (.iconst 0, 1) := by decide +kernel
theorem d_MO_alone_48 : decode prog_14_method_39_code 48 = .ok (.iastore, 1) := by decide +kernel
theorem d_MO_alone_49 : decode prog_14_method_39_code 49 = .ok (.return_, 1) := by decide +kernel
def p_MO_alone (Q : AH → Prop) (x1 : Int32) (x2 : Int32) (h : AH) : Prop := inb x1 7 ∧ (((h.1 78 x1) ≤ 0 → Q (wI h 80 x1 0)) ∧ (¬ (h.1 78 x1) ≤ 0 → p_MO_isFree (fun r3 h2 => ((r3 = 0 → inb x1 7 ∧ Q (wI h2 80 x1 0)) ∧ (¬ r3 = 0 → p_MO_weighs (fun r6 h5 => p_MO_holdsIt (fun r8 h7 => ((r6 ≤ r8 → inb x1 7 ∧ Q (wI h7 80 x1 0)) ∧ (¬ r6 ≤ r8 → p_MO_goesDown (fun h10 => Q h10) x1 x2 h7))) x1 x2 h5) x1 x2 h2))) x1 x2 h))
set_option maxRecDepth 20000 in
theorem r_MO_alone_0 {G : GG} {d : Nat} {Q : AH → Prop} (x1 : Int32) (x2 : Int32) (h : AH) (H : p_MO_alone Q x1 x2 h) : Att G T1 m_MO_alone (d + 4) 0 [some (.ref 59), some (.int x1), some (.int x2)] [] h 0 0 (vQ Q) := by
  refine A_aload_n d_MO_alone_0 rfl ?_
  refine A_get (v := .ref 78) d_MO_alone_1 (fo_MO_64_12 rfl) (vA_s (by decide)) rfl (by first | rfl | (show Value.int _ = Value.int _; simp [wI, wL, wR, wC, up])) ?_
  refine A_iload_n d_MO_alone_4 rfl ?_
  obtain ⟨c1, H⟩ := H
  refine A_ialdv (n := 7) (v := (h.1 78 x1)) d_MO_alone_5 (vA_s (by decide)) rfl c1 rfl ?_
  refine A_if_le 42 d_MO_alone_6 (by decide) (fun z => ?_) (fun z => ?_)
  · have H := H.1 z
    refine A_aload_n d_MO_alone_42 rfl ?_
    refine A_get (v := .ref 80) d_MO_alone_43 (fo_MO_70_12 rfl) (vA_s (by decide)) rfl (by first | rfl | (show Value.int _ = Value.int _; simp [wI, wL, wR, wC, up])) ?_
    refine A_iload_n d_MO_alone_46 rfl ?_
    refine A_iconst 0 (by decide) d_MO_alone_47 ?_
    refine A_iast (n := 7) d_MO_alone_48 (vA_s (by decide)) rfl c1 ?_
    exact A_ret d_MO_alone_49 rfl H
  · have H := H.2 z
    refine A_aload_n d_MO_alone_9 rfl ?_
    refine A_iload_n d_MO_alone_10 rfl ?_
    refine A_iload_n d_MO_alone_11 rfl ?_
    refine A_cI [.ref 59, .int x1, .int x2] [] (ct_MO_199 rfl) d_MO_alone_12 rfl rfl (by decide) (Nat.le_of_ble_eq_true rfl) (rcA_o (c := 12) rfl (vA_s (by decide)) rfl (by decide) rfl) (ok_MO_isFree (d := d + 3) H) (fun r3 h2 H => ?_)
    refine A_if_eq 42 d_MO_alone_15 (by decide) (fun z => ?_) (fun z => ?_)
    · have H := H.1 z
      refine A_aload_n d_MO_alone_42 rfl ?_
      refine A_get (v := .ref 80) d_MO_alone_43 (fo_MO_70_12 rfl) (vA_s (by decide)) rfl (by first | rfl | (show Value.int _ = Value.int _; simp [wI, wL, wR, wC, up])) ?_
      refine A_iload_n d_MO_alone_46 rfl ?_
      refine A_iconst 0 (by decide) d_MO_alone_47 ?_
      obtain ⟨c4, H⟩ := H
      refine A_iast (n := 7) d_MO_alone_48 (vA_s (by decide)) rfl c4 ?_
      exact A_ret d_MO_alone_49 rfl H
    · have H := H.2 z
      refine A_aload_n d_MO_alone_18 rfl ?_
      refine A_iload_n d_MO_alone_19 rfl ?_
      refine A_iload_n d_MO_alone_20 rfl ?_
      refine A_cI [.ref 59, .int x1, .int x2] [] (ct_MO_203 rfl) d_MO_alone_21 rfl rfl (by decide) (Nat.le_of_ble_eq_true rfl) (rcA_o (c := 12) rfl (vA_s (by decide)) rfl (by decide) rfl) (ok_MO_weighs (d := d) H) (fun r6 h5 H => ?_)
      refine A_aload_n d_MO_alone_24 rfl ?_
      refine A_iload_n d_MO_alone_25 rfl ?_
      refine A_iload_n d_MO_alone_26 rfl ?_
      refine A_cI [.ref 59, .int x1, .int x2] [.int r6] (ct_MO_206 rfl) d_MO_alone_27 rfl rfl (by decide) (Nat.le_of_ble_eq_true rfl) (rcA_o (c := 12) rfl (vA_s (by decide)) rfl (by decide) rfl) (ok_MO_holdsIt (d := d) H) (fun r8 h7 H => ?_)
      refine A_icmp_le 42 d_MO_alone_30 (by decide) (fun z => ?_) (fun z => ?_)
      · have H := H.1 z
        refine A_aload_n d_MO_alone_42 rfl ?_
        refine A_get (v := .ref 80) d_MO_alone_43 (fo_MO_70_12 rfl) (vA_s (by decide)) rfl (by first | rfl | (show Value.int _ = Value.int _; simp [wI, wL, wR, wC, up])) ?_
        refine A_iload_n d_MO_alone_46 rfl ?_
        refine A_iconst 0 (by decide) d_MO_alone_47 ?_
        obtain ⟨c9, H⟩ := H
        refine A_iast (n := 7) d_MO_alone_48 (vA_s (by decide)) rfl c9 ?_
        exact A_ret d_MO_alone_49 rfl H
      · have H := H.2 z
        refine A_aload_n d_MO_alone_33 rfl ?_
        refine A_iload_n d_MO_alone_34 rfl ?_
        refine A_iload_n d_MO_alone_35 rfl ?_
        refine A_cV [.ref 59, .int x1, .int x2] [] (ct_MO_209 rfl) d_MO_alone_36 rfl rfl (by decide) (Nat.le_of_ble_eq_true rfl) (rcA_o (c := 12) rfl (vA_s (by decide)) rfl (by decide) rfl) (ok_MO_goesDown (d := d) H) (fun h10 H => ?_)
        refine A_goto 49 d_MO_alone_39 (by decide) ?_
        exact A_ret d_MO_alone_49 rfl H
set_option maxRecDepth 20000 in
theorem ok_MO_alone {G : GG} {d : Nat} {Q : AH → Prop} {x1 : Int32} {x2 : Int32} {h : AH} (H : p_MO_alone Q x1 x2 h) : WP G T1 m_MO_alone (d + 4) [.ref 59, .int x1, .int x2] h 0 0 (vQ Q) := by
  exact WP.enter 0 (by decide) rfl rfl (r_MO_alone_0 x1 x2 h H)
theorem d_MO_chained_0 : decode prog_14_method_40_code 0 = .ok (.aload_n 0, 1) := by decide +kernel
theorem d_MO_chained_1 : decode prog_14_method_40_code 1 = .ok (.iload_n 1, 1) := by decide +kernel
theorem d_MO_chained_2 : decode prog_14_method_40_code 2 = .ok (.iload_n 3, 1) := by decide +kernel
theorem d_MO_chained_3 : decode prog_14_method_40_code 3 = .ok (.invokevirtual 203, 3) := by decide +kernel
theorem d_MO_chained_6 : decode prog_14_method_40_code 6 = .ok (.istore 5, 2) := by decide +kernel
theorem d_MO_chained_8 : decode prog_14_method_40_code 8 = .ok (.aload_n 0, 1) := by decide +kernel
theorem d_MO_chained_9 : decode prog_14_method_40_code 9 = .ok (.iload_n 2, 1) := by decide +kernel
theorem d_MO_chained_10 : decode prog_14_method_40_code 10 = .ok (.iload_n 3, 1) := by decide +kernel
theorem d_MO_chained_11 : decode prog_14_method_40_code 11 = .ok (.invokevirtual 203, 3) := by decide +kernel
theorem d_MO_chained_14 : decode prog_14_method_40_code 14 = .ok (.istore 6, 2) := by decide +kernel
theorem d_MO_chained_16 : decode prog_14_method_40_code 16 = .ok (.iload 5, 2) := by decide +kernel
theorem d_MO_chained_18 : decode prog_14_method_40_code 18 = .ok (.iload 6, 2) := by decide +kernel
theorem d_MO_chained_20 : decode prog_14_method_40_code 20 = .ok (.if_icmp .le 7, 3) := by decide +kernel
theorem d_MO_chained_23 : decode prog_14_method_40_code 23 = .ok (.iload_n 1, 1) := by decide +kernel
theorem d_MO_chained_24 : decode prog_14_method_40_code 24 = .ok (.goto 4, 3) := by decide +kernel
theorem d_MO_chained_27 : decode prog_14_method_40_code 27 = .ok (.iload_n 2, 1) := by decide +kernel
theorem d_MO_chained_28 : decode prog_14_method_40_code 28 = .ok (.istore 7, 2) := by decide +kernel
theorem d_MO_chained_30 : decode prog_14_method_40_code 30 = .ok (.iload 5, 2) := by decide +kernel
theorem d_MO_chained_32 : decode prog_14_method_40_code 32 = .ok (.iload 6, 2) := by decide +kernel
theorem d_MO_chained_34 : decode prog_14_method_40_code 34 = .ok (.if_icmp .le 7, 3) := by decide +kernel
theorem d_MO_chained_37 : decode prog_14_method_40_code 37 = .ok (.iload_n 2, 1) := by decide +kernel
theorem d_MO_chained_38 : decode prog_14_method_40_code 38 = .ok (.goto 4, 3) := by decide +kernel
theorem d_MO_chained_41 : decode prog_14_method_40_code 41 = .ok (.iload_n 1, 1) := by decide +kernel
theorem d_MO_chained_42 : decode prog_14_method_40_code 42 = .ok (.istore 8, 2) := by decide +kernel
theorem d_MO_chained_44 : decode prog_14_method_40_code 44 = .ok (.iload 5, 2) := by decide +kernel
theorem d_MO_chained_46 : decode prog_14_method_40_code 46 = .ok (.iload 6, 2) := by decide +kernel
theorem d_MO_chained_48 : decode prog_14_method_40_code 48 = .ok (.if_icmp .le 11, 3) := by decide +kernel
theorem d_MO_chained_51 : decode prog_14_method_40_code 51 = .ok (.iload 5, 2) := by decide +kernel
theorem d_MO_chained_53 : decode prog_14_method_40_code 53 = .ok (.iload 6, 2) := by decide +kernel
theorem d_MO_chained_55 : decode prog_14_method_40_code 55 = .ok (.isub, 1) := by decide +kernel
theorem d_MO_chained_56 : decode prog_14_method_40_code 56 = .ok (.goto 8, 3) := by decide +kernel
theorem d_MO_chained_59 : decode prog_14_method_40_code 59 = .ok (.iload 6, 2) := by decide +kernel
theorem d_MO_chained_61 : decode prog_14_method_40_code 61 = .ok (.iload 5, 2) := by decide +kernel
theorem d_MO_chained_63 : decode prog_14_method_40_code 63 = .ok (.isub, 1) := by decide +kernel
theorem d_MO_chained_64 : decode prog_14_method_40_code 64 = .ok (.istore 9, 2) := by decide +kernel
theorem d_MO_chained_66 : decode prog_14_method_40_code 66 = .ok (.iload 4, 2) := by decide +kernel
theorem d_MO_chained_68 : decode prog_14_method_40_code 68 = .ok (.ifCond .ne 47, 3) := by decide +kernel
theorem d_MO_chained_71 : decode prog_14_method_40_code 71 = .ok (.iload 9, 2) := by decide +kernel
theorem d_MO_chained_73 : decode prog_14_method_40_code 73 = .ok (.aload_n 0, 1) := by decide +kernel
theorem d_MO_chained_74 : decode prog_14_method_40_code 74 = .ok (.iload_n 1, 1) := by decide +kernel
theorem d_MO_chained_75 : decode prog_14_method_40_code 75 = .ok (.iload_n 3, 1) := by decide +kernel
theorem d_MO_chained_76 : decode prog_14_method_40_code 76 = .ok (.invokevirtual 206, 3) := by decide +kernel
theorem d_MO_chained_79 : decode prog_14_method_40_code 79 = .ok (.aload_n 0, 1) := by decide +kernel
theorem d_MO_chained_80 : decode prog_14_method_40_code 80 = .ok (.iload_n 2, 1) := by decide +kernel
theorem d_MO_chained_81 : decode prog_14_method_40_code 81 = .ok (.iload_n 3, 1) := by decide +kernel
theorem d_MO_chained_82 : decode prog_14_method_40_code 82 = .ok (.invokevirtual 206, 3) := by decide +kernel
theorem d_MO_chained_85 : decode prog_14_method_40_code 85 = .ok (.iadd, 1) := by decide +kernel
theorem d_MO_chained_86 : decode prog_14_method_40_code 86 = .ok (.if_icmp .le 29, 3) := by decide +kernel
theorem d_MO_chained_89 : decode prog_14_method_40_code 89 = .ok (.aload_n 0, 1) := by decide +kernel
theorem d_MO_chained_90 : decode prog_14_method_40_code 90 = .ok (.getfield 64, 3) := by decide +kernel
theorem d_MO_chained_93 : decode prog_14_method_40_code 93 = .ok (.iload 7, 2) := by decide +kernel
theorem d_MO_chained_95 : decode prog_14_method_40_code 95 = .ok (.iaload, 1) := by decide +kernel
theorem d_MO_chained_96 : decode prog_14_method_40_code 96 = .ok (.ifCond .le 19, 3) := by decide +kernel
theorem d_MO_chained_99 : decode prog_14_method_40_code 99 = .ok (.aload_n 0, 1) := by decide +kernel
theorem d_MO_chained_100 : decode prog_14_method_40_code 100 = .ok (.getfield 64, 3) := by decide +kernel
theorem d_MO_chained_103 : decode prog_14_method_40_code 103 = .ok (.iload 8, 2) := by decide +kernel
theorem d_MO_chained_105 : decode prog_14_method_40_code 105 = .ok (.iaload, 1) := by decide +kernel
theorem d_MO_chained_106 : decode prog_14_method_40_code 106 = .ok (.bipush 9, 2) := by decide +kernel
theorem d_MO_chained_108 : decode prog_14_method_40_code 108 = .ok (.if_icmp .ge 7, 3) := by decide +kernel
theorem d_MO_chained_111 : decode prog_14_method_40_code 111 = .ok (.iconst 1, 1) := by decide +kernel
theorem d_MO_chained_112 : decode prog_14_method_40_code 112 = .ok (.goto 4, 3) := by decide +kernel
theorem d_MO_chained_115 : decode prog_14_method_40_code 115 = .ok (.iconst 0, 1) := by decide +kernel
theorem d_MO_chained_116 : decode prog_14_method_40_code 116 = .ok (.istore 10, 2) := by decide +kernel
theorem d_MO_chained_118 : decode prog_14_method_40_code 118 = .ok (.aload_n 0, 1) := by decide +kernel
theorem d_MO_chained_119 : decode prog_14_method_40_code 119 = .ok (.getfield 70, 3) := by decide +kernel
theorem d_MO_chained_122 : decode prog_14_method_40_code 122 = .ok (.iload 8, 2) := by decide +kernel
theorem d_MO_chained_124 : decode prog_14_method_40_code 124 = .ok (.iconst 0, 1) := by decide +kernel
theorem d_MO_chained_125 : decode prog_14_method_40_code 125 = .ok (.iastore, 1) := by decide +kernel
theorem d_MO_chained_126 : decode prog_14_method_40_code 126 = .ok (.iload 10, 2) := by decide +kernel
theorem d_MO_chained_128 : decode prog_14_method_40_code 128 = .ok (.ifCond .eq 53, 3) := by decide +kernel
theorem d_MO_chained_131 : decode prog_14_method_40_code 131 = .ok (.aload_n 0, 1) := by decide +kernel
theorem d_MO_chained_132 : decode prog_14_method_40_code 132 = .ok (.iload_n 1, 1) := by decide +kernel
theorem d_MO_chained_133 : decode prog_14_method_40_code 133 = .ok (.iload_n 3, 1) := by decide +kernel
theorem d_MO_chained_134 : decode prog_14_method_40_code 134 = .ok (.invokevirtual 199, 3) := by decide +kernel
theorem d_MO_chained_137 : decode prog_14_method_40_code 137 = .ok (.ifCond .eq 44, 3) := by decide +kernel
theorem d_MO_chained_140 : decode prog_14_method_40_code 140 = .ok (.aload_n 0, 1) := by decide +kernel
theorem d_MO_chained_141 : decode prog_14_method_40_code 141 = .ok (.iload_n 2, 1) := by decide +kernel
theorem d_MO_chained_142 : decode prog_14_method_40_code 142 = .ok (.iload_n 3, 1) := by decide +kernel
theorem d_MO_chained_143 : decode prog_14_method_40_code 143 = .ok (.invokevirtual 199, 3) := by decide +kernel
theorem d_MO_chained_146 : decode prog_14_method_40_code 146 = .ok (.ifCond .eq 35, 3) := by decide +kernel
theorem d_MO_chained_149 : decode prog_14_method_40_code 149 = .ok (.aload_n 0, 1) := by decide +kernel
theorem d_MO_chained_150 : decode prog_14_method_40_code 150 = .ok (.getfield 64, 3) := by decide +kernel
theorem d_MO_chained_153 : decode prog_14_method_40_code 153 = .ok (.iload 8, 2) := by decide +kernel
theorem d_MO_chained_155 : decode prog_14_method_40_code 155 = .ok (.dup2, 1) := by decide +kernel
theorem d_MO_chained_156 : decode prog_14_method_40_code 156 = .ok (.iaload, 1) := by decide +kernel
theorem d_MO_chained_157 : decode prog_14_method_40_code 157 = .ok (.iconst 1, 1) := by decide +kernel
theorem d_MO_chained_158 : decode prog_14_method_40_code 158 = .ok (.iadd, 1) := by decide +kernel
theorem d_MO_chained_159 : decode prog_14_method_40_code 159 = .ok (.iastore, 1) := by decide +kernel
theorem d_MO_chained_160 : decode prog_14_method_40_code 160 = .ok (.aload_n 0, 1) := by decide +kernel
theorem d_MO_chained_161 : decode prog_14_method_40_code 161 = .ok (.getfield 67, 3) := by decide +kernel
theorem d_MO_chained_164 : decode prog_14_method_40_code 164 = .ok (.iload 8, 2) := by decide +kernel
theorem d_MO_chained_166 : decode prog_14_method_40_code 166 = .ok (.dup2, 1) := by decide +kernel
theorem d_MO_chained_167 : decode prog_14_method_40_code 167 = .ok (.iaload, 1) := by decide +kernel
theorem d_MO_chained_168 : decode prog_14_method_40_code 168 = .ok (.iconst 1, 1) := by decide +kernel
theorem d_MO_chained_169 : decode prog_14_method_40_code 169 = .ok (.iadd, 1) := by decide +kernel
theorem d_MO_chained_170 : decode prog_14_method_40_code 170 = .ok (.iastore, 1) := by decide +kernel
theorem d_MO_chained_171 : decode prog_14_method_40_code 171 = .ok (.aload_n 0, 1) := by decide +kernel
theorem d_MO_chained_172 : decode prog_14_method_40_code 172 = .ok (.iload 7, 2) := by decide +kernel
theorem d_MO_chained_174 : decode prog_14_method_40_code 174 = .ok (.iload_n 3, 1) := by decide +kernel
theorem d_MO_chained_175 : decode prog_14_method_40_code 175 = .ok (.invokevirtual 209, 3) := by decide +kernel
theorem d_MO_chained_178 : decode prog_14_method_40_code 178 = .ok (.goto 11, 3) := by decide +kernel
theorem d_MO_chained_181 : decode prog_14_method_40_code 181 = .ok (.aload_n 0, 1) := by decide +kernel
theorem d_MO_chained_182 : decode prog_14_method_40_code 182 = .ok (.getfield 70, 3) := by decide +kernel
theorem d_MO_chained_185 : decode prog_14_method_40_code 185 = .ok (.iload 7, 2) := by decide +kernel
theorem d_MO_chained_187 : decode prog_14_method_40_code 187 = .ok (.iconst 0, 1) := by decide +kernel
theorem d_MO_chained_188 : decode prog_14_method_40_code 188 = .ok (.iastore, 1) := by decide +kernel
theorem d_MO_chained_189 : decode prog_14_method_40_code 189 = .ok (.return_, 1) := by decide +kernel
def p_MO_chained_116 (Q : AH → Prop) (x1 : Int32) (x2 : Int32) (x3 : Int32) (x7 : Int32) (x8 : Int32) (s0 : Int32) (h : AH) : Prop := inb x8 7 ∧ ((s0 = 0 → inb x7 7 ∧ Q (wI (wI h 80 x8 0) 80 x7 0)) ∧ (¬ s0 = 0 → p_MO_isFree (fun r4 h3 => ((r4 = 0 → inb x7 7 ∧ Q (wI h3 80 x7 0)) ∧ (¬ r4 = 0 → p_MO_isFree (fun r7 h6 => ((r7 = 0 → inb x7 7 ∧ Q (wI h6 80 x7 0)) ∧ (¬ r7 = 0 → inb x8 7 ∧ p_MO_goesDown (fun h10 => Q h10) x7 x3 (wI (wI h6 78 x8 ((h6.1 78 x8) + 1)) 79 x8 ((h6.1 79 x8) + 1))))) x2 x3 h3))) x1 x3 (wI h 80 x8 0)))
def p_MO_chained_115 (Q : AH → Prop) (x1 : Int32) (x2 : Int32) (x3 : Int32) (x7 : Int32) (x8 : Int32) (h : AH) : Prop := p_MO_chained_116 Q   x1 x2 x3 x7 x8 0 h
def p_MO_chained_64 (Q : AH → Prop) (x1 : Int32) (x2 : Int32) (x3 : Int32) (x4 : Int32) (x7 : Int32) (x8 : Int32) (s0 : Int32) (h : AH) : Prop := ((¬ x4 = 0 → p_MO_chained_115 Q   x1 x2 x3 x7 x8 h) ∧ (x4 = 0 → p_MO_holdsIt (fun r2 h1 => p_MO_holdsIt (fun r4 h3 => ((s0 ≤ (r2 + r4) → p_MO_chained_115 Q   x1 x2 x3 x7 x8 h3) ∧ (¬ s0 ≤ (r2 + r4) → inb x7 7 ∧ (((h3.1 78 x7) ≤ 0 → p_MO_chained_115 Q   x1 x2 x3 x7 x8 h3) ∧ (¬ (h3.1 78 x7) ≤ 0 → inb x8 7 ∧ ((9 ≤ (h3.1 78 x8) → p_MO_chained_115 Q   x1 x2 x3 x7 x8 h3) ∧ (¬ 9 ≤ (h3.1 78 x8) → p_MO_chained_116 Q   x1 x2 x3 x7 x8 1 h3))))))) x2 x3 h1) x1 x3 h))
def p_MO_chained_42 (Q : AH → Prop) (x1 : Int32) (x2 : Int32) (x3 : Int32) (x4 : Int32) (x5 : Int32) (x6 : Int32) (x7 : Int32) (s0 : Int32) (h : AH) : Prop := ((x5 ≤ x6 → p_MO_chained_64 Q   x1 x2 x3 x4 x7 s0 (x6 - x5) h) ∧ (¬ x5 ≤ x6 → p_MO_chained_64 Q   x1 x2 x3 x4 x7 s0 (x5 - x6) h))
def p_MO_chained_28 (Q : AH → Prop) (x1 : Int32) (x2 : Int32) (x3 : Int32) (x4 : Int32) (x5 : Int32) (x6 : Int32) (s0 : Int32) (h : AH) : Prop := ((x5 ≤ x6 → p_MO_chained_42 Q   x1 x2 x3 x4 x5 x6 s0 x1 h) ∧ (¬ x5 ≤ x6 → p_MO_chained_42 Q   x1 x2 x3 x4 x5 x6 s0 x2 h))
def p_MO_chained (Q : AH → Prop) (x1 : Int32) (x2 : Int32) (x3 : Int32) (x4 : Int32) (h : AH) : Prop := p_MO_weighs (fun r2 h1 => p_MO_weighs (fun r4 h3 => ((r2 ≤ r4 → p_MO_chained_28 Q   x1 x2 x3 x4 r2 r4 x2 h3) ∧ (¬ r2 ≤ r4 → p_MO_chained_28 Q   x1 x2 x3 x4 r2 r4 x1 h3))) x2 x3 h1) x1 x3 h
set_option maxRecDepth 20000 in
theorem r_MO_chained_116 {G : GG} {d : Nat} {Q : AH → Prop} (x1 : Int32) (x2 : Int32) (x3 : Int32) (x7 : Int32) (x8 : Int32) (s0 : Int32) (h : AH) (H : p_MO_chained_116 Q x1 x2 x3 x7 x8 s0 h) : Att G T1 m_MO_chained (d + 4) 116 [some (.ref 59), some (.int x1), some (.int x2), some (.int x3), none, none, none, some (.int x7), some (.int x8), none, none] [.int s0] h 0 0 (vQ Q) := by
  refine A_istore [some (.ref 59), some (.int x1), some (.int x2), some (.int x3), none, none, none, some (.int x7), some (.int x8), none, some (.int s0)] d_MO_chained_116 (by decide) rfl rfl ?_
  refine A_aload_n d_MO_chained_118 rfl ?_
  refine A_get (v := .ref 80) d_MO_chained_119 (fo_MO_70_12 rfl) (vA_s (by decide)) rfl (by first | rfl | (show Value.int _ = Value.int _; simp [wI, wL, wR, wC, up])) ?_
  refine A_iload d_MO_chained_122 rfl ?_
  refine A_iconst 0 (by decide) d_MO_chained_124 ?_
  obtain ⟨c1, H⟩ := H
  refine A_iast (n := 7) d_MO_chained_125 (vA_s (by decide)) rfl c1 ?_
  refine A_iload d_MO_chained_126 rfl ?_
  refine A_if_eq 181 d_MO_chained_128 (by decide) (fun z => ?_) (fun z => ?_)
  · have H := H.1 z
    refine A_aload_n d_MO_chained_181 rfl ?_
    refine A_get (v := .ref 80) d_MO_chained_182 (fo_MO_70_12 rfl) (vA_s (by decide)) rfl (by first | rfl | (show Value.int _ = Value.int _; simp [wI, wL, wR, wC, up])) ?_
    refine A_iload d_MO_chained_185 rfl ?_
    refine A_iconst 0 (by decide) d_MO_chained_187 ?_
    obtain ⟨c2, H⟩ := H
    refine A_iast (n := 7) d_MO_chained_188 (vA_s (by decide)) rfl c2 ?_
    exact A_ret d_MO_chained_189 rfl H
  · have H := H.2 z
    refine A_aload_n d_MO_chained_131 rfl ?_
    refine A_iload_n d_MO_chained_132 rfl ?_
    refine A_iload_n d_MO_chained_133 rfl ?_
    refine A_cI [.ref 59, .int x1, .int x3] [] (ct_MO_199 rfl) d_MO_chained_134 rfl rfl (by decide) (Nat.le_of_ble_eq_true rfl) (rcA_o (c := 12) rfl (vA_s (by decide)) rfl (by decide) rfl) (ok_MO_isFree (d := d + 3) H) (fun r4 h3 H => ?_)
    refine A_if_eq 181 d_MO_chained_137 (by decide) (fun z => ?_) (fun z => ?_)
    · have H := H.1 z
      refine A_aload_n d_MO_chained_181 rfl ?_
      refine A_get (v := .ref 80) d_MO_chained_182 (fo_MO_70_12 rfl) (vA_s (by decide)) rfl (by first | rfl | (show Value.int _ = Value.int _; simp [wI, wL, wR, wC, up])) ?_
      refine A_iload d_MO_chained_185 rfl ?_
      refine A_iconst 0 (by decide) d_MO_chained_187 ?_
      obtain ⟨c5, H⟩ := H
      refine A_iast (n := 7) d_MO_chained_188 (vA_s (by decide)) rfl c5 ?_
      exact A_ret d_MO_chained_189 rfl H
    · have H := H.2 z
      refine A_aload_n d_MO_chained_140 rfl ?_
      refine A_iload_n d_MO_chained_141 rfl ?_
      refine A_iload_n d_MO_chained_142 rfl ?_
      refine A_cI [.ref 59, .int x2, .int x3] [] (ct_MO_199 rfl) d_MO_chained_143 rfl rfl (by decide) (Nat.le_of_ble_eq_true rfl) (rcA_o (c := 12) rfl (vA_s (by decide)) rfl (by decide) rfl) (ok_MO_isFree (d := d + 3) H) (fun r7 h6 H => ?_)
      refine A_if_eq 181 d_MO_chained_146 (by decide) (fun z => ?_) (fun z => ?_)
      · have H := H.1 z
        refine A_aload_n d_MO_chained_181 rfl ?_
        refine A_get (v := .ref 80) d_MO_chained_182 (fo_MO_70_12 rfl) (vA_s (by decide)) rfl (by first | rfl | (show Value.int _ = Value.int _; simp [wI, wL, wR, wC, up])) ?_
        refine A_iload d_MO_chained_185 rfl ?_
        refine A_iconst 0 (by decide) d_MO_chained_187 ?_
        obtain ⟨c8, H⟩ := H
        refine A_iast (n := 7) d_MO_chained_188 (vA_s (by decide)) rfl c8 ?_
        exact A_ret d_MO_chained_189 rfl H
      · have H := H.2 z
        refine A_aload_n d_MO_chained_149 rfl ?_
        refine A_get (v := .ref 78) d_MO_chained_150 (fo_MO_64_12 rfl) (vA_s (by decide)) rfl (by first | rfl | (show Value.int _ = Value.int _; simp [wI, wL, wR, wC, up])) ?_
        refine A_iload d_MO_chained_153 rfl ?_
        refine A_dup2 rfl rfl d_MO_chained_155 ?_
        obtain ⟨c9, H⟩ := H
        refine A_ialdv (n := 7) (v := (h6.1 78 x8)) d_MO_chained_156 (vA_s (by decide)) rfl c9 rfl ?_
        refine A_iconst 1 (by decide) d_MO_chained_157 ?_
        refine A_iadd d_MO_chained_158 ?_
        refine A_iast (n := 7) d_MO_chained_159 (vA_s (by decide)) rfl c9 ?_
        refine A_aload_n d_MO_chained_160 rfl ?_
        refine A_get (v := .ref 79) d_MO_chained_161 (fo_MO_67_12 rfl) (vA_s (by decide)) rfl (by first | rfl | (show Value.int _ = Value.int _; simp [wI, wL, wR, wC, up])) ?_
        refine A_iload d_MO_chained_164 rfl ?_
        refine A_dup2 rfl rfl d_MO_chained_166 ?_
        refine A_ialdv (n := 7) (v := (h6.1 79 x8)) d_MO_chained_167 (vA_s (by decide)) rfl c9 (by first | rfl | simp [wI, wL, wR, wC, up]) ?_
        refine A_iconst 1 (by decide) d_MO_chained_168 ?_
        refine A_iadd d_MO_chained_169 ?_
        refine A_iast (n := 7) d_MO_chained_170 (vA_s (by decide)) rfl c9 ?_
        refine A_aload_n d_MO_chained_171 rfl ?_
        refine A_iload d_MO_chained_172 rfl ?_
        refine A_iload_n d_MO_chained_174 rfl ?_
        refine A_cV [.ref 59, .int x7, .int x3] [] (ct_MO_209 rfl) d_MO_chained_175 rfl rfl (by decide) (Nat.le_of_ble_eq_true rfl) (rcA_o (c := 12) rfl (vA_s (by decide)) rfl (by decide) rfl) (ok_MO_goesDown (d := d) H) (fun h10 H => ?_)
        refine A_goto 189 d_MO_chained_178 (by decide) ?_
        exact A_ret d_MO_chained_189 rfl H
set_option maxRecDepth 20000 in
theorem r_MO_chained_115 {G : GG} {d : Nat} {Q : AH → Prop} (x1 : Int32) (x2 : Int32) (x3 : Int32) (x7 : Int32) (x8 : Int32) (h : AH) (H : p_MO_chained_115 Q x1 x2 x3 x7 x8 h) : Att G T1 m_MO_chained (d + 4) 115 [some (.ref 59), some (.int x1), some (.int x2), some (.int x3), none, none, none, some (.int x7), some (.int x8), none, none] [] h 0 0 (vQ Q) := by
  refine A_iconst 0 (by decide) d_MO_chained_115 ?_
  exact r_MO_chained_116   _ _ _ _ _ _ _ H
set_option maxRecDepth 20000 in
theorem r_MO_chained_64 {G : GG} {d : Nat} {Q : AH → Prop} (x1 : Int32) (x2 : Int32) (x3 : Int32) (x4 : Int32) (x7 : Int32) (x8 : Int32) (s0 : Int32) (h : AH) (H : p_MO_chained_64 Q x1 x2 x3 x4 x7 x8 s0 h) : Att G T1 m_MO_chained (d + 4) 64 [some (.ref 59), some (.int x1), some (.int x2), some (.int x3), some (.int x4), none, none, some (.int x7), some (.int x8), none, none] [.int s0] h 0 0 (vQ Q) := by
  refine A_istore [some (.ref 59), some (.int x1), some (.int x2), some (.int x3), some (.int x4), none, none, some (.int x7), some (.int x8), some (.int s0), none] d_MO_chained_64 (by decide) rfl rfl ?_
  refine A_iload d_MO_chained_66 rfl ?_
  refine A_if_ne 115 d_MO_chained_68 (by decide) (fun z => ?_) (fun z => ?_)
  · have H := H.1 z
    refine A_sub (L' := [some (.ref 59), some (.int x1), some (.int x2), some (.int x3), none, none, none, some (.int x7), some (.int x8), none, none]) ⟨rfl, rfl, rfl, rfl, rfl, rfl, trivial⟩ ?_
    exact r_MO_chained_115   _ _ _ _ _ _ H
  · have H := H.2 z
    refine A_iload d_MO_chained_71 rfl ?_
    refine A_aload_n d_MO_chained_73 rfl ?_
    refine A_iload_n d_MO_chained_74 rfl ?_
    refine A_iload_n d_MO_chained_75 rfl ?_
    refine A_cI [.ref 59, .int x1, .int x3] [.int s0] (ct_MO_206 rfl) d_MO_chained_76 rfl rfl (by decide) (Nat.le_of_ble_eq_true rfl) (rcA_o (c := 12) rfl (vA_s (by decide)) rfl (by decide) rfl) (ok_MO_holdsIt (d := d) H) (fun r2 h1 H => ?_)
    refine A_aload_n d_MO_chained_79 rfl ?_
    refine A_iload_n d_MO_chained_80 rfl ?_
    refine A_iload_n d_MO_chained_81 rfl ?_
    refine A_cI [.ref 59, .int x2, .int x3] [.int r2, .int s0] (ct_MO_206 rfl) d_MO_chained_82 rfl rfl (by decide) (Nat.le_of_ble_eq_true rfl) (rcA_o (c := 12) rfl (vA_s (by decide)) rfl (by decide) rfl) (ok_MO_holdsIt (d := d) H) (fun r4 h3 H => ?_)
    refine A_iadd d_MO_chained_85 ?_
    refine A_icmp_le 115 d_MO_chained_86 (by decide) (fun z => ?_) (fun z => ?_)
    · have H := H.1 z
      refine A_sub (L' := [some (.ref 59), some (.int x1), some (.int x2), some (.int x3), none, none, none, some (.int x7), some (.int x8), none, none]) ⟨rfl, rfl, rfl, rfl, rfl, rfl, trivial⟩ ?_
      exact r_MO_chained_115   _ _ _ _ _ _ H
    · have H := H.2 z
      refine A_aload_n d_MO_chained_89 rfl ?_
      refine A_get (v := .ref 78) d_MO_chained_90 (fo_MO_64_12 rfl) (vA_s (by decide)) rfl (by first | rfl | (show Value.int _ = Value.int _; simp [wI, wL, wR, wC, up])) ?_
      refine A_iload d_MO_chained_93 rfl ?_
      obtain ⟨c5, H⟩ := H
      refine A_ialdv (n := 7) (v := (h3.1 78 x7)) d_MO_chained_95 (vA_s (by decide)) rfl c5 rfl ?_
      refine A_if_le 115 d_MO_chained_96 (by decide) (fun z => ?_) (fun z => ?_)
      · have H := H.1 z
        refine A_sub (L' := [some (.ref 59), some (.int x1), some (.int x2), some (.int x3), none, none, none, some (.int x7), some (.int x8), none, none]) ⟨rfl, rfl, rfl, rfl, rfl, rfl, trivial⟩ ?_
        exact r_MO_chained_115   _ _ _ _ _ _ H
      · have H := H.2 z
        refine A_aload_n d_MO_chained_99 rfl ?_
        refine A_get (v := .ref 78) d_MO_chained_100 (fo_MO_64_12 rfl) (vA_s (by decide)) rfl (by first | rfl | (show Value.int _ = Value.int _; simp [wI, wL, wR, wC, up])) ?_
        refine A_iload d_MO_chained_103 rfl ?_
        obtain ⟨c6, H⟩ := H
        refine A_ialdv (n := 7) (v := (h3.1 78 x8)) d_MO_chained_105 (vA_s (by decide)) rfl c6 rfl ?_
        refine A_bipush 9 (by decide) d_MO_chained_106 ?_
        refine A_icmp_ge 115 d_MO_chained_108 (by decide) (fun z => ?_) (fun z => ?_)
        · have H := H.1 z
          refine A_sub (L' := [some (.ref 59), some (.int x1), some (.int x2), some (.int x3), none, none, none, some (.int x7), some (.int x8), none, none]) ⟨rfl, rfl, rfl, rfl, rfl, rfl, trivial⟩ ?_
          exact r_MO_chained_115   _ _ _ _ _ _ H
        · have H := H.2 z
          refine A_iconst 1 (by decide) d_MO_chained_111 ?_
          refine A_goto 116 d_MO_chained_112 (by decide) ?_
          refine A_sub (L' := [some (.ref 59), some (.int x1), some (.int x2), some (.int x3), none, none, none, some (.int x7), some (.int x8), none, none]) ⟨rfl, rfl, rfl, rfl, rfl, rfl, trivial⟩ ?_
          exact r_MO_chained_116   _ _ _ _ _ _ _ H
set_option maxRecDepth 20000 in
theorem r_MO_chained_42 {G : GG} {d : Nat} {Q : AH → Prop} (x1 : Int32) (x2 : Int32) (x3 : Int32) (x4 : Int32) (x5 : Int32) (x6 : Int32) (x7 : Int32) (s0 : Int32) (h : AH) (H : p_MO_chained_42 Q x1 x2 x3 x4 x5 x6 x7 s0 h) : Att G T1 m_MO_chained (d + 4) 42 [some (.ref 59), some (.int x1), some (.int x2), some (.int x3), some (.int x4), some (.int x5), some (.int x6), some (.int x7), none, none, none] [.int s0] h 0 0 (vQ Q) := by
  refine A_istore [some (.ref 59), some (.int x1), some (.int x2), some (.int x3), some (.int x4), some (.int x5), some (.int x6), some (.int x7), some (.int s0), none, none] d_MO_chained_42 (by decide) rfl rfl ?_
  refine A_iload d_MO_chained_44 rfl ?_
  refine A_iload d_MO_chained_46 rfl ?_
  refine A_icmp_le 59 d_MO_chained_48 (by decide) (fun z => ?_) (fun z => ?_)
  · have H := H.1 z
    refine A_iload d_MO_chained_59 rfl ?_
    refine A_iload d_MO_chained_61 rfl ?_
    refine A_isub d_MO_chained_63 ?_
    refine A_sub (L' := [some (.ref 59), some (.int x1), some (.int x2), some (.int x3), some (.int x4), none, none, some (.int x7), some (.int s0), none, none]) ⟨rfl, rfl, rfl, rfl, rfl, rfl, rfl, trivial⟩ ?_
    exact r_MO_chained_64   _ _ _ _ _ _ _ _ H
  · have H := H.2 z
    refine A_iload d_MO_chained_51 rfl ?_
    refine A_iload d_MO_chained_53 rfl ?_
    refine A_isub d_MO_chained_55 ?_
    refine A_goto 64 d_MO_chained_56 (by decide) ?_
    refine A_sub (L' := [some (.ref 59), some (.int x1), some (.int x2), some (.int x3), some (.int x4), none, none, some (.int x7), some (.int s0), none, none]) ⟨rfl, rfl, rfl, rfl, rfl, rfl, rfl, trivial⟩ ?_
    exact r_MO_chained_64   _ _ _ _ _ _ _ _ H
set_option maxRecDepth 20000 in
theorem r_MO_chained_28 {G : GG} {d : Nat} {Q : AH → Prop} (x1 : Int32) (x2 : Int32) (x3 : Int32) (x4 : Int32) (x5 : Int32) (x6 : Int32) (s0 : Int32) (h : AH) (H : p_MO_chained_28 Q x1 x2 x3 x4 x5 x6 s0 h) : Att G T1 m_MO_chained (d + 4) 28 [some (.ref 59), some (.int x1), some (.int x2), some (.int x3), some (.int x4), some (.int x5), some (.int x6), none, none, none, none] [.int s0] h 0 0 (vQ Q) := by
  refine A_istore [some (.ref 59), some (.int x1), some (.int x2), some (.int x3), some (.int x4), some (.int x5), some (.int x6), some (.int s0), none, none, none] d_MO_chained_28 (by decide) rfl rfl ?_
  refine A_iload d_MO_chained_30 rfl ?_
  refine A_iload d_MO_chained_32 rfl ?_
  refine A_icmp_le 41 d_MO_chained_34 (by decide) (fun z => ?_) (fun z => ?_)
  · have H := H.1 z
    refine A_iload_n d_MO_chained_41 rfl ?_
    exact r_MO_chained_42   _ _ _ _ _ _ _ _ _ H
  · have H := H.2 z
    refine A_iload_n d_MO_chained_37 rfl ?_
    refine A_goto 42 d_MO_chained_38 (by decide) ?_
    exact r_MO_chained_42   _ _ _ _ _ _ _ _ _ H
set_option maxRecDepth 20000 in
theorem r_MO_chained_0 {G : GG} {d : Nat} {Q : AH → Prop} (x1 : Int32) (x2 : Int32) (x3 : Int32) (x4 : Int32) (h : AH) (H : p_MO_chained Q x1 x2 x3 x4 h) : Att G T1 m_MO_chained (d + 4) 0 [some (.ref 59), some (.int x1), some (.int x2), some (.int x3), some (.int x4), none, none, none, none, none, none] [] h 0 0 (vQ Q) := by
  refine A_aload_n d_MO_chained_0 rfl ?_
  refine A_iload_n d_MO_chained_1 rfl ?_
  refine A_iload_n d_MO_chained_2 rfl ?_
  refine A_cI [.ref 59, .int x1, .int x3] [] (ct_MO_203 rfl) d_MO_chained_3 rfl rfl (by decide) (Nat.le_of_ble_eq_true rfl) (rcA_o (c := 12) rfl (vA_s (by decide)) rfl (by decide) rfl) (ok_MO_weighs (d := d) H) (fun r2 h1 H => ?_)
  refine A_istore [some (.ref 59), some (.int x1), some (.int x2), some (.int x3), some (.int x4), some (.int r2), none, none, none, none, none] d_MO_chained_6 (by decide) rfl rfl ?_
  refine A_aload_n d_MO_chained_8 rfl ?_
  refine A_iload_n d_MO_chained_9 rfl ?_
  refine A_iload_n d_MO_chained_10 rfl ?_
  refine A_cI [.ref 59, .int x2, .int x3] [] (ct_MO_203 rfl) d_MO_chained_11 rfl rfl (by decide) (Nat.le_of_ble_eq_true rfl) (rcA_o (c := 12) rfl (vA_s (by decide)) rfl (by decide) rfl) (ok_MO_weighs (d := d) H) (fun r4 h3 H => ?_)
  refine A_istore [some (.ref 59), some (.int x1), some (.int x2), some (.int x3), some (.int x4), some (.int r2), some (.int r4), none, none, none, none] d_MO_chained_14 (by decide) rfl rfl ?_
  refine A_iload d_MO_chained_16 rfl ?_
  refine A_iload d_MO_chained_18 rfl ?_
  refine A_icmp_le 27 d_MO_chained_20 (by decide) (fun z => ?_) (fun z => ?_)
  · have H := H.1 z
    refine A_iload_n d_MO_chained_27 rfl ?_
    exact r_MO_chained_28   _ _ _ _ _ _ _ _ H
  · have H := H.2 z
    refine A_iload_n d_MO_chained_23 rfl ?_
    refine A_goto 28 d_MO_chained_24 (by decide) ?_
    exact r_MO_chained_28   _ _ _ _ _ _ _ _ H
set_option maxRecDepth 20000 in
theorem ok_MO_chained {G : GG} {d : Nat} {Q : AH → Prop} {x1 : Int32} {x2 : Int32} {x3 : Int32} {x4 : Int32} {h : AH} (H : p_MO_chained Q x1 x2 x3 x4 h) : WP G T1 m_MO_chained (d + 4) [.ref 59, .int x1, .int x2, .int x3, .int x4] h 0 0 (vQ Q) := by
  exact WP.enter 6 (by decide) rfl rfl (r_MO_chained_0 x1 x2 x3 x4 h H)
theorem d_Reader_nameRead_0 : decode prog_9_method_13_code 0 = .ok (.aload_n 0, 1) := by decide +kernel
theorem d_Reader_nameRead_1 : decode prog_9_method_13_code 1 = .ok (.ldc 119, 2) := by decide +kernel
theorem d_Reader_nameRead_3 : decode prog_9_method_13_code 3 = .ok (.invokevirtual 101, 3) := by decide +kernel
theorem d_Reader_nameRead_6 : decode prog_9_method_13_code 6 = .ok (.ifCond .eq 5, 3) := by decide +kernel
theorem d_Reader_nameRead_9 : decode prog_9_method_13_code 9 = .ok (.iconst 0, 1) := by decide +kernel
theorem d_Reader_nameRead_10 : decode prog_9_method_13_code 10 = .ok (.ireturn, 1) := by decide +kernel
theorem d_Reader_nameRead_11 : decode prog_9_method_13_code 11 = .ok (.aload_n 0, 1) := by decide +kernel
theorem d_Reader_nameRead_12 : decode prog_9_method_13_code 12 = .ok (.ldc 121, 2) := by decide +kernel
theorem d_Reader_nameRead_14 : decode prog_9_method_13_code 14 = .ok (.invokevirtual 101, 3) := by decide +kernel
theorem d_Reader_nameRead_17 : decode prog_9_method_13_code 17 = .ok (.ifCond .eq 5, 3) := by decide +kernel
theorem d_Reader_nameRead_20 : decode prog_9_method_13_code 20 = .ok (.iconst 1, 1) := by decide +kernel
theorem d_Reader_nameRead_21 : decode prog_9_method_13_code 21 = .ok (.ireturn, 1) := by decide +kernel
theorem d_Reader_nameRead_22 : decode prog_9_method_13_code 22 = .ok (.aload_n 0, 1) := by decide +kernel
theorem d_Reader_nameRead_23 : decode prog_9_method_13_code 23 = .ok (.ldc 123, 2) := by decide +kernel
theorem d_Reader_nameRead_25 : decode prog_9_method_13_code 25 = .ok (.invokevirtual 101, 3) := by decide +kernel
theorem d_Reader_nameRead_28 : decode prog_9_method_13_code 28 = .ok (.ifCond .eq 5, 3) := by decide +kernel
theorem d_Reader_nameRead_31 : decode prog_9_method_13_code 31 = .ok (.iconst 2, 1) := by decide +kernel
theorem d_Reader_nameRead_32 : decode prog_9_method_13_code 32 = .ok (.ireturn, 1) := by decide +kernel
theorem d_Reader_nameRead_33 : decode prog_9_method_13_code 33 = .ok (.aload_n 0, 1) := by decide +kernel
theorem d_Reader_nameRead_34 : decode prog_9_method_13_code 34 = .ok (.ldc 125, 2) := by decide +kernel
theorem d_Reader_nameRead_36 : decode prog_9_method_13_code 36 = .ok (.invokevirtual 101, 3) := by decide +kernel
theorem d_Reader_nameRead_39 : decode prog_9_method_13_code 39 = .ok (.ifCond .eq 5, 3) := by decide +kernel
theorem d_Reader_nameRead_42 : decode prog_9_method_13_code 42 = .ok (.iconst 3, 1) := by decide +kernel
theorem d_Reader_nameRead_43 : decode prog_9_method_13_code 43 = .ok (.ireturn, 1) := by decide +kernel
theorem d_Reader_nameRead_44 : decode prog_9_method_13_code 44 = .ok (.aload_n 0, 1) := by decide +kernel
theorem d_Reader_nameRead_45 : decode prog_9_method_13_code 45 = .ok (.ldc 127, 2) := by decide +kernel
theorem d_Reader_nameRead_47 : decode prog_9_method_13_code 47 = .ok (.invokevirtual 101, 3) := by decide +kernel
theorem d_Reader_nameRead_50 : decode prog_9_method_13_code 50 = .ok (.ifCond .eq 5, 3) := by decide +kernel
theorem d_Reader_nameRead_53 : decode prog_9_method_13_code 53 = .ok (.iconst 4, 1) := by decide +kernel
theorem d_Reader_nameRead_54 : decode prog_9_method_13_code 54 = .ok (.ireturn, 1) := by decide +kernel
theorem d_Reader_nameRead_55 : decode prog_9_method_13_code 55 = .ok (.aload_n 0, 1) := by decide +kernel
theorem d_Reader_nameRead_56 : decode prog_9_method_13_code 56 = .ok (.ldc 129, 2) := by decide +kernel
theorem d_Reader_nameRead_58 : decode prog_9_method_13_code 58 = .ok (.invokevirtual 101, 3) := by decide +kernel
theorem d_Reader_nameRead_61 : decode prog_9_method_13_code 61 = .ok (.ifCond .eq 5, 3) := by decide +kernel
theorem d_Reader_nameRead_64 : decode prog_9_method_13_code 64 = .ok (.iconst 5, 1) := by decide +kernel
theorem d_Reader_nameRead_65 : decode prog_9_method_13_code 65 = .ok (.ireturn, 1) := by decide +kernel
theorem d_Reader_nameRead_66 : decode prog_9_method_13_code 66 = .ok (.iconst (-1), 1) := by decide +kernel
theorem d_Reader_nameRead_67 : decode prog_9_method_13_code 67 = .ok (.ireturn, 1) := by decide +kernel
def p_Reader_nameRead (Q : Int32 → AH → Prop) (h : AH) : Prop := p_Reader_isWord (fun r2 h1 => ((r2 = 0 → p_Reader_isWord (fun r4 h3 => ((r4 = 0 → p_Reader_isWord (fun r6 h5 => ((r6 = 0 → p_Reader_isWord (fun r8 h7 => ((r8 = 0 → p_Reader_isWord (fun r10 h9 => ((r10 = 0 → p_Reader_isWord (fun r12 h11 => ((r12 = 0 → Q (-1) h11) ∧ (¬ r12 = 0 → Q 5 h11))) (1000000 + 12) h9) ∧ (¬ r10 = 0 → Q 4 h9))) (1000000 + 11) h7) ∧ (¬ r8 = 0 → Q 3 h7))) (1000000 + 10) h5) ∧ (¬ r6 = 0 → Q 2 h5))) (1000000 + 9) h3) ∧ (¬ r4 = 0 → Q 1 h3))) (1000000 + 8) h1) ∧ (¬ r2 = 0 → Q 0 h1))) (1000000 + 7) h
set_option maxRecDepth 20000 in
theorem r_Reader_nameRead_0 {G : GG} {d : Nat} {Q : Int32 → AH → Prop} (h : AH) (H : p_Reader_nameRead Q h) : Att G T1 m_Reader_nameRead (d + 5) 0 [some (.ref 25)] [] h 0 0 (iQ Q) := by
  refine A_aload_n d_Reader_nameRead_0 rfl ?_
  refine A_ldcS 7 d_Reader_nameRead_1 rfl rfl ?_
  refine A_cI [.ref 25, .ref (1000000 + 7)] [] (ct_Reader_101 rfl) d_Reader_nameRead_3 rfl rfl (by decide) (Nat.le_of_ble_eq_true rfl) (rcA_o (c := 7) rfl (vA_s (by decide)) rfl (by decide) rfl) (ok_Reader_isWord (d := d) H) (fun r2 h1 H => ?_)
  refine A_if_eq 11 d_Reader_nameRead_6 (by decide) (fun z => ?_) (fun z => ?_)
  · have H := H.1 z
    refine A_aload_n d_Reader_nameRead_11 rfl ?_
    refine A_ldcS 8 d_Reader_nameRead_12 rfl rfl ?_
    refine A_cI [.ref 25, .ref (1000000 + 8)] [] (ct_Reader_101 rfl) d_Reader_nameRead_14 rfl rfl (by decide) (Nat.le_of_ble_eq_true rfl) (rcA_o (c := 7) rfl (vA_s (by decide)) rfl (by decide) rfl) (ok_Reader_isWord (d := d) H) (fun r4 h3 H => ?_)
    refine A_if_eq 22 d_Reader_nameRead_17 (by decide) (fun z => ?_) (fun z => ?_)
    · have H := H.1 z
      refine A_aload_n d_Reader_nameRead_22 rfl ?_
      refine A_ldcS 9 d_Reader_nameRead_23 rfl rfl ?_
      refine A_cI [.ref 25, .ref (1000000 + 9)] [] (ct_Reader_101 rfl) d_Reader_nameRead_25 rfl rfl (by decide) (Nat.le_of_ble_eq_true rfl) (rcA_o (c := 7) rfl (vA_s (by decide)) rfl (by decide) rfl) (ok_Reader_isWord (d := d) H) (fun r6 h5 H => ?_)
      refine A_if_eq 33 d_Reader_nameRead_28 (by decide) (fun z => ?_) (fun z => ?_)
      · have H := H.1 z
        refine A_aload_n d_Reader_nameRead_33 rfl ?_
        refine A_ldcS 10 d_Reader_nameRead_34 rfl rfl ?_
        refine A_cI [.ref 25, .ref (1000000 + 10)] [] (ct_Reader_101 rfl) d_Reader_nameRead_36 rfl rfl (by decide) (Nat.le_of_ble_eq_true rfl) (rcA_o (c := 7) rfl (vA_s (by decide)) rfl (by decide) rfl) (ok_Reader_isWord (d := d) H) (fun r8 h7 H => ?_)
        refine A_if_eq 44 d_Reader_nameRead_39 (by decide) (fun z => ?_) (fun z => ?_)
        · have H := H.1 z
          refine A_aload_n d_Reader_nameRead_44 rfl ?_
          refine A_ldcS 11 d_Reader_nameRead_45 rfl rfl ?_
          refine A_cI [.ref 25, .ref (1000000 + 11)] [] (ct_Reader_101 rfl) d_Reader_nameRead_47 rfl rfl (by decide) (Nat.le_of_ble_eq_true rfl) (rcA_o (c := 7) rfl (vA_s (by decide)) rfl (by decide) rfl) (ok_Reader_isWord (d := d) H) (fun r10 h9 H => ?_)
          refine A_if_eq 55 d_Reader_nameRead_50 (by decide) (fun z => ?_) (fun z => ?_)
          · have H := H.1 z
            refine A_aload_n d_Reader_nameRead_55 rfl ?_
            refine A_ldcS 12 d_Reader_nameRead_56 rfl rfl ?_
            refine A_cI [.ref 25, .ref (1000000 + 12)] [] (ct_Reader_101 rfl) d_Reader_nameRead_58 rfl rfl (by decide) (Nat.le_of_ble_eq_true rfl) (rcA_o (c := 7) rfl (vA_s (by decide)) rfl (by decide) rfl) (ok_Reader_isWord (d := d) H) (fun r12 h11 H => ?_)
            refine A_if_eq 66 d_Reader_nameRead_61 (by decide) (fun z => ?_) (fun z => ?_)
            · have H := H.1 z
              refine A_iconst (-1) (by decide) d_Reader_nameRead_66 ?_
              exact A_iret d_Reader_nameRead_67 rfl rfl H
            · have H := H.2 z
              refine A_iconst 5 (by decide) d_Reader_nameRead_64 ?_
              exact A_iret d_Reader_nameRead_65 rfl rfl H
          · have H := H.2 z
            refine A_iconst 4 (by decide) d_Reader_nameRead_53 ?_
            exact A_iret d_Reader_nameRead_54 rfl rfl H
        · have H := H.2 z
          refine A_iconst 3 (by decide) d_Reader_nameRead_42 ?_
          exact A_iret d_Reader_nameRead_43 rfl rfl H
      · have H := H.2 z
        refine A_iconst 2 (by decide) d_Reader_nameRead_31 ?_
        exact A_iret d_Reader_nameRead_32 rfl rfl H
    · have H := H.2 z
      refine A_iconst 1 (by decide) d_Reader_nameRead_20 ?_
      exact A_iret d_Reader_nameRead_21 rfl rfl H
  · have H := H.2 z
    refine A_iconst 0 (by decide) d_Reader_nameRead_9 ?_
    exact A_iret d_Reader_nameRead_10 rfl rfl H
set_option maxRecDepth 20000 in
theorem ok_Reader_nameRead {G : GG} {d : Nat} {Q : Int32 → AH → Prop} {h : AH} (H : p_Reader_nameRead Q h) : WP G T1 m_Reader_nameRead (d + 5) [.ref 25] h 0 0 (iQ Q) := by
  exact WP.enter 0 (by decide) rfl rfl (r_Reader_nameRead_0 h H)
theorem d_Dusk_pass_0 : decode prog_4_method_5_code 0 = .ok (.iconst 0, 1) := by decide +kernel
theorem d_Dusk_pass_1 : decode prog_4_method_5_code 1 = .ok (.istore_n 3, 1) := by decide +kernel
theorem d_Dusk_pass_2 : decode prog_4_method_5_code 2 = .ok (.iload_n 3, 1) := by decide +kernel
theorem d_Dusk_pass_3 : decode prog_4_method_5_code 3 = .ok (.aload_n 0, 1) := by decide +kernel
theorem d_Dusk_pass_4 : decode prog_4_method_5_code 4 = .ok (.getfield 12, 3) := by decide +kernel
theorem d_Dusk_pass_7 : decode prog_4_method_5_code 7 = .ok (.getfield 61, 3) := by decide +kernel
theorem d_Dusk_pass_10 : decode prog_4_method_5_code 10 = .ok (.if_icmp .ge 61, 3) := by decide +kernel
theorem d_Dusk_pass_13 : decode prog_4_method_5_code 13 = .ok (.aload_n 0, 1) := by decide +kernel
theorem d_Dusk_pass_14 : decode prog_4_method_5_code 14 = .ok (.getfield 12, 3) := by decide +kernel
theorem d_Dusk_pass_17 : decode prog_4_method_5_code 17 = .ok (.getfield 65, 3) := by decide +kernel
theorem d_Dusk_pass_20 : decode prog_4_method_5_code 20 = .ok (.iload_n 3, 1) := by decide +kernel
theorem d_Dusk_pass_21 : decode prog_4_method_5_code 21 = .ok (.iaload, 1) := by decide +kernel
theorem d_Dusk_pass_22 : decode prog_4_method_5_code 22 = .ok (.iconst (-1), 1) := by decide +kernel
theorem d_Dusk_pass_23 : decode prog_4_method_5_code 23 = .ok (.if_icmp .ne 12, 3) := by decide +kernel
theorem d_Dusk_pass_26 : decode prog_4_method_5_code 26 = .ok (.aload_n 0, 1) := by decide +kernel
theorem d_Dusk_pass_27 : decode prog_4_method_5_code 27 = .ok (.iload_n 3, 1) := by decide +kernel
theorem d_Dusk_pass_28 : decode prog_4_method_5_code 28 = .ok (.iload_n 1, 1) := by decide +kernel
theorem d_Dusk_pass_29 : decode prog_4_method_5_code 29 = .ok (.invokevirtual 68, 3) := by decide +kernel
theorem d_Dusk_pass_32 : decode prog_4_method_5_code 32 = .ok (.goto 33, 3) := by decide +kernel
theorem d_Dusk_pass_35 : decode prog_4_method_5_code 35 = .ok (.aload_n 0, 1) := by decide +kernel
theorem d_Dusk_pass_36 : decode prog_4_method_5_code 36 = .ok (.getfield 12, 3) := by decide +kernel
theorem d_Dusk_pass_39 : decode prog_4_method_5_code 39 = .ok (.iload_n 3, 1) := by decide +kernel
theorem d_Dusk_pass_40 : decode prog_4_method_5_code 40 = .ok (.invokevirtual 71, 3) := by decide +kernel
theorem d_Dusk_pass_43 : decode prog_4_method_5_code 43 = .ok (.ifCond .eq 22, 3) := by decide +kernel
theorem d_Dusk_pass_46 : decode prog_4_method_5_code 46 = .ok (.aload_n 0, 1) := by decide +kernel
theorem d_Dusk_pass_47 : decode prog_4_method_5_code 47 = .ok (.iload_n 3, 1) := by decide +kernel
theorem d_Dusk_pass_48 : decode prog_4_method_5_code 48 = .ok (.iload_n 1, 1) := by decide +kernel
theorem d_Dusk_pass_49 : decode prog_4_method_5_code 49 = .ok (.iload_n 2, 1) := by decide +kernel
theorem d_Dusk_pass_50 : decode prog_4_method_5_code 50 = .ok (.iload_n 3, 1) := by decide +kernel
theorem d_Dusk_pass_51 : decode prog_4_method_5_code 51 = .ok (.ishr, 1) := by decide +kernel
theorem d_Dusk_pass_52 : decode prog_4_method_5_code 52 = .ok (.iconst 1, 1) := by decide +kernel
theorem d_Dusk_pass_53 : decode prog_4_method_5_code 53 = .ok (.iand, 1) := by decide +kernel
theorem d_Dusk_pass_54 : decode prog_4_method_5_code 54 = .ok (.ifCond .eq 7, 3) := by decide +kernel
theorem d_Dusk_pass_57 : decode prog_4_method_5_code 57 = .ok (.iconst 1, 1) := by decide +kernel
theorem d_Dusk_pass_58 : decode prog_4_method_5_code 58 = .ok (.goto 4, 3) := by decide +kernel
theorem d_Dusk_pass_61 : decode prog_4_method_5_code 61 = .ok (.iconst 0, 1) := by decide +kernel
theorem d_Dusk_pass_62 : decode prog_4_method_5_code 62 = .ok (.invokevirtual 74, 3) := by decide +kernel
theorem d_Dusk_pass_65 : decode prog_4_method_5_code 65 = .ok (.iinc 3 1, 3) := by decide +kernel
theorem d_Dusk_pass_68 : decode prog_4_method_5_code 68 = .ok (.goto (-66), 3) := by decide +kernel
theorem d_Dusk_pass_71 : decode prog_4_method_5_code 71 = .ok (.return_, 1) := by decide +kernel
def p_Dusk_pass_65 (Q : AH → Prop) (K2 : Int32 → Int32 → Int32 → AH → Prop) (x1 : Int32) (x2 : Int32) (x3 : Int32) (h : AH) : Prop := K2 x1 x2 (x3 + 1) h
def p_Dusk_pass_62 (Q : AH → Prop) (K2 : Int32 → Int32 → Int32 → AH → Prop) (x1 : Int32) (x2 : Int32) (x3 : Int32) (s1 : Int32) (s2 : Int32) (s3 : Int32) (h : AH) : Prop := p_Dusk_pair (fun h1 => p_Dusk_pass_65 Q  K2 x1 x2 x3 h1) s1 s2 s3 h
def p_Dusk_pass_2 (Q : AH → Prop) : Nat → Int32 → Int32 → Int32 → AH → Prop
  | 0 => fun _ _ _ _ => False
  | n + 1 => fun x1 x2 x3 h => let K2 := p_Dusk_pass_2 Q n; (((h.1 14 3) ≤ x3 → Q h) ∧ (¬ (h.1 14 3) ≤ x3 → inb x3 7 ∧ ((¬ (h.1 17 x3) = (-1) → p_Town_leads (fun r3 h2 => ((r3 = 0 → p_Dusk_pass_65 Q  K2 x1 x2 x3 h2) ∧ (¬ r3 = 0 → ((((x2 >>> (x3 &&& 31)) &&& 1) = 0 → p_Dusk_pass_62 Q  K2 x1 x2 x3 x3 x1 0 h2) ∧ (¬ ((x2 >>> (x3 &&& 31)) &&& 1) = 0 → p_Dusk_pass_62 Q  K2 x1 x2 x3 x3 x1 1 h2))))) 14 x3 h) ∧ ((h.1 17 x3) = (-1) → p_Dusk_alone (fun h4 => p_Dusk_pass_65 Q  K2 x1 x2 x3 h4) x3 x1 h))))
def p_Dusk_pass (Q : AH → Prop) (x1 : Int32) (x2 : Int32) (h : AH) : Prop := ∃ n, p_Dusk_pass_2 Q   n x1 x2 0 h
set_option maxRecDepth 20000 in
theorem r_Dusk_pass_65 {G : GG} {d : Nat} {Q : AH → Prop} {K2 : Int32 → Int32 → Int32 → AH → Prop} (k2 : ∀ x1 x2 x3 h, K2 x1 x2 x3 h → Att G T1 m_Dusk_pass (d + 5) 2 [some (.ref 13), some (.int x1), some (.int x2), some (.int x3)] [] h 0 0 (vQ Q)) (x1 : Int32) (x2 : Int32) (x3 : Int32) (h : AH) (H : p_Dusk_pass_65 Q K2 x1 x2 x3 h) : Att G T1 m_Dusk_pass (d + 5) 65 [some (.ref 13), some (.int x1), some (.int x2), some (.int x3)] [] h 0 0 (vQ Q) := by
  refine A_iinc 1 [some (.ref 13), some (.int x1), some (.int x2), some (.int (x3 + 1))] d_Dusk_pass_65 rfl (by decide) (by decide) rfl rfl ?_
  refine A_goto 2 d_Dusk_pass_68 (by decide) ?_
  exact k2 _ _ _ _ H
set_option maxRecDepth 20000 in
theorem r_Dusk_pass_62 {G : GG} {d : Nat} {Q : AH → Prop} {K2 : Int32 → Int32 → Int32 → AH → Prop} (k2 : ∀ x1 x2 x3 h, K2 x1 x2 x3 h → Att G T1 m_Dusk_pass (d + 5) 2 [some (.ref 13), some (.int x1), some (.int x2), some (.int x3)] [] h 0 0 (vQ Q)) (x1 : Int32) (x2 : Int32) (x3 : Int32) (s1 : Int32) (s2 : Int32) (s3 : Int32) (h : AH) (H : p_Dusk_pass_62 Q K2 x1 x2 x3 s1 s2 s3 h) : Att G T1 m_Dusk_pass (d + 5) 62 [some (.ref 13), some (.int x1), some (.int x2), some (.int x3)] [.int s3, .int s2, .int s1, .ref 13] h 0 0 (vQ Q) := by
  refine A_cV [.ref 13, .int s1, .int s2, .int s3] [] (ct_Dusk_74 rfl) d_Dusk_pass_62 rfl rfl (by decide) (Nat.le_of_ble_eq_true rfl) (rcA_o (c := 2) rfl (vA_s (by decide)) rfl (by decide) rfl) (ok_Dusk_pair (d := d) H) (fun h1 H => ?_)
  exact r_Dusk_pass_65  k2 _ _ _ _ H
set_option maxRecDepth 20000 in
theorem r_Dusk_pass_2 {G : GG} {d : Nat} {Q : AH → Prop} : ∀ (n : Nat) (x1 : Int32) (x2 : Int32) (x3 : Int32) (h : AH), p_Dusk_pass_2 Q n x1 x2 x3 h → Att G T1 m_Dusk_pass (d + 5) 2 [some (.ref 13), some (.int x1), some (.int x2), some (.int x3)] [] h 0 0 (vQ Q) := by
  intro n
  induction n with
  | zero => intro x1 x2 x3 h H; exact H.elim
  | succ n k2 =>
    intro x1 x2 x3 h H
    refine A_iload_n d_Dusk_pass_2 rfl ?_
    refine A_aload_n d_Dusk_pass_3 rfl ?_
    refine A_get (v := .ref 14) d_Dusk_pass_4 (fo_Dusk_12_2 rfl) (vA_s (by decide)) rfl (by first | rfl | (show Value.int _ = Value.int _; simp [wI, wL, wR, wC, up])) ?_
    refine A_get (v := .int (h.1 14 3)) d_Dusk_pass_7 (fo_Dusk_61_10 rfl) (vA_s (by decide)) rfl (by first | rfl | (show Value.int _ = Value.int _; simp [wI, wL, wR, wC, up])) ?_
    refine A_icmp_ge 71 d_Dusk_pass_10 (by decide) (fun z => ?_) (fun z => ?_)
    · have H := H.1 z
      exact A_ret d_Dusk_pass_71 rfl H
    · have H := H.2 z
      refine A_aload_n d_Dusk_pass_13 rfl ?_
      refine A_get (v := .ref 14) d_Dusk_pass_14 (fo_Dusk_12_2 rfl) (vA_s (by decide)) rfl (by first | rfl | (show Value.int _ = Value.int _; simp [wI, wL, wR, wC, up])) ?_
      refine A_get (v := .ref 17) d_Dusk_pass_17 (fo_Dusk_65_10 rfl) (vA_s (by decide)) rfl (by first | rfl | (show Value.int _ = Value.int _; simp [wI, wL, wR, wC, up])) ?_
      refine A_iload_n d_Dusk_pass_20 rfl ?_
      obtain ⟨c1, H⟩ := H
      refine A_ialdv (n := 7) (v := (h.1 17 x3)) d_Dusk_pass_21 (vA_s (by decide)) rfl c1 rfl ?_
      refine A_iconst (-1) (by decide) d_Dusk_pass_22 ?_
      refine A_icmp_ne 35 d_Dusk_pass_23 (by decide) (fun z => ?_) (fun z => ?_)
      · have H := H.1 z
        refine A_aload_n d_Dusk_pass_35 rfl ?_
        refine A_get (v := .ref 14) d_Dusk_pass_36 (fo_Dusk_12_2 rfl) (vA_s (by decide)) rfl (by first | rfl | (show Value.int _ = Value.int _; simp [wI, wL, wR, wC, up])) ?_
        refine A_iload_n d_Dusk_pass_39 rfl ?_
        refine A_cI [.ref 14, .int x3] [] (ct_Dusk_71 rfl) d_Dusk_pass_40 rfl rfl (by decide) (Nat.le_of_ble_eq_true rfl) (rcA_o (c := 10) rfl (vA_s (by decide)) rfl (by decide) rfl) (ok_Town_leads (d := d + 4) H) (fun r3 h2 H => ?_)
        refine A_if_eq 65 d_Dusk_pass_43 (by decide) (fun z => ?_) (fun z => ?_)
        · have H := H.1 z
          exact r_Dusk_pass_65  k2 _ _ _ _ H
        · have H := H.2 z
          refine A_aload_n d_Dusk_pass_46 rfl ?_
          refine A_iload_n d_Dusk_pass_47 rfl ?_
          refine A_iload_n d_Dusk_pass_48 rfl ?_
          refine A_iload_n d_Dusk_pass_49 rfl ?_
          refine A_iload_n d_Dusk_pass_50 rfl ?_
          refine A_ishr d_Dusk_pass_51 ?_
          refine A_iconst 1 (by decide) d_Dusk_pass_52 ?_
          refine A_iand d_Dusk_pass_53 ?_
          refine A_if_eq 61 d_Dusk_pass_54 (by decide) (fun z => ?_) (fun z => ?_)
          · have H := H.1 z
            refine A_iconst 0 (by decide) d_Dusk_pass_61 ?_
            exact r_Dusk_pass_62  k2 _ _ _ _ _ _ _ H
          · have H := H.2 z
            refine A_iconst 1 (by decide) d_Dusk_pass_57 ?_
            refine A_goto 62 d_Dusk_pass_58 (by decide) ?_
            exact r_Dusk_pass_62  k2 _ _ _ _ _ _ _ H
      · have H := H.2 z
        refine A_aload_n d_Dusk_pass_26 rfl ?_
        refine A_iload_n d_Dusk_pass_27 rfl ?_
        refine A_iload_n d_Dusk_pass_28 rfl ?_
        refine A_cV [.ref 13, .int x3, .int x1] [] (ct_Dusk_68 rfl) d_Dusk_pass_29 rfl rfl (by decide) (Nat.le_of_ble_eq_true rfl) (rcA_o (c := 2) rfl (vA_s (by decide)) rfl (by decide) rfl) (ok_Dusk_alone (d := d) H) (fun h4 H => ?_)
        refine A_goto 65 d_Dusk_pass_32 (by decide) ?_
        exact r_Dusk_pass_65  k2 _ _ _ _ H
set_option maxRecDepth 20000 in
theorem r_Dusk_pass_0 {G : GG} {d : Nat} {Q : AH → Prop} (x1 : Int32) (x2 : Int32) (h : AH) (H : p_Dusk_pass Q x1 x2 h) : Att G T1 m_Dusk_pass (d + 5) 0 [some (.ref 13), some (.int x1), some (.int x2), none] [] h 0 0 (vQ Q) := by
  refine A_iconst 0 (by decide) d_Dusk_pass_0 ?_
  refine A_istore_n [some (.ref 13), some (.int x1), some (.int x2), some (.int 0)] d_Dusk_pass_1 (by decide) rfl rfl ?_
  obtain ⟨n9, H⟩ := H
  exact r_Dusk_pass_2   n9 _ _ _ _ H
set_option maxRecDepth 20000 in
theorem ok_Dusk_pass {G : GG} {d : Nat} {Q : AH → Prop} {x1 : Int32} {x2 : Int32} {h : AH} (H : p_Dusk_pass Q x1 x2 h) : WP G T1 m_Dusk_pass (d + 5) [.ref 13, .int x1, .int x2] h 0 0 (vQ Q) := by
  exact WP.enter 1 (by decide) rfl rfl (r_Dusk_pass_0 x1 x2 h H)
theorem d_MO_minute_0 : decode prog_14_method_42_code 0 = .ok (.iconst 0, 1) := by decide +kernel
theorem d_MO_minute_1 : decode prog_14_method_42_code 1 = .ok (.istore_n 2, 1) := by decide +kernel
theorem d_MO_minute_2 : decode prog_14_method_42_code 2 = .ok (.iload_n 2, 1) := by decide +kernel
theorem d_MO_minute_3 : decode prog_14_method_42_code 3 = .ok (.aload_n 0, 1) := by decide +kernel
theorem d_MO_minute_4 : decode prog_14_method_42_code 4 = .ok (.getfield 90, 3) := by decide +kernel
theorem d_MO_minute_7 : decode prog_14_method_42_code 7 = .ok (.if_icmp .ge 52, 3) := by decide +kernel
theorem d_MO_minute_10 : decode prog_14_method_42_code 10 = .ok (.aload_n 0, 1) := by decide +kernel
theorem d_MO_minute_11 : decode prog_14_method_42_code 11 = .ok (.getfield 25, 3) := by decide +kernel
theorem d_MO_minute_14 : decode prog_14_method_42_code 14 = .ok (.iload_n 2, 1) := by decide +kernel
theorem d_MO_minute_15 : decode prog_14_method_42_code 15 = .ok (.iaload, 1) := by decide +kernel
theorem d_MO_minute_16 : decode prog_14_method_42_code 16 = .ok (.iconst (-1), 1) := by decide +kernel
theorem d_MO_minute_17 : decode prog_14_method_42_code 17 = .ok (.if_icmp .ne 12, 3) := by decide +kernel
theorem d_MO_minute_20 : decode prog_14_method_42_code 20 = .ok (.aload_n 0, 1) := by decide +kernel
theorem d_MO_minute_21 : decode prog_14_method_42_code 21 = .ok (.iload_n 2, 1) := by decide +kernel
theorem d_MO_minute_22 : decode prog_14_method_42_code 22 = .ok (.iload_n 1, 1) := by decide +kernel
theorem d_MO_minute_23 : decode prog_14_method_42_code 23 = .ok (.invokevirtual 225, 3) := by decide +kernel
theorem d_MO_minute_26 : decode prog_14_method_42_code 26 = .ok (.goto 27, 3) := by decide +kernel
theorem d_MO_minute_29 : decode prog_14_method_42_code 29 = .ok (.aload_n 0, 1) := by decide +kernel
theorem d_MO_minute_30 : decode prog_14_method_42_code 30 = .ok (.iload_n 2, 1) := by decide +kernel
theorem d_MO_minute_31 : decode prog_14_method_42_code 31 = .ok (.invokevirtual 97, 3) := by decide +kernel
theorem d_MO_minute_34 : decode prog_14_method_42_code 34 = .ok (.ifCond .eq 19, 3) := by decide +kernel
theorem d_MO_minute_37 : decode prog_14_method_42_code 37 = .ok (.aload_n 0, 1) := by decide +kernel
theorem d_MO_minute_38 : decode prog_14_method_42_code 38 = .ok (.iload_n 2, 1) := by decide +kernel
theorem d_MO_minute_39 : decode prog_14_method_42_code 39 = .ok (.aload_n 0, 1) := by decide +kernel
theorem d_MO_minute_40 : decode prog_14_method_42_code 40 = .ok (.getfield 25, 3) := by decide +kernel
theorem d_MO_minute_43 : decode prog_14_method_42_code 43 = .ok (.iload_n 2, 1) := by decide +kernel
theorem d_MO_minute_44 : decode prog_14_method_42_code 44 = .ok (.iaload, 1) := by decide +kernel
theorem d_MO_minute_45 : decode prog_14_method_42_code 45 = .ok (.iload_n 1, 1) := by decide +kernel
theorem d_MO_minute_46 : decode prog_14_method_42_code 46 = .ok (.aload_n 0, 1) := by decide +kernel
theorem d_MO_minute_47 : decode prog_14_method_42_code 47 = .ok (.invokevirtual 228, 3) := by decide +kernel
theorem d_MO_minute_50 : decode prog_14_method_42_code 50 = .ok (.invokevirtual 231, 3) := by decide +kernel
theorem d_MO_minute_53 : decode prog_14_method_42_code 53 = .ok (.iinc 2 1, 3) := by decide +kernel
theorem d_MO_minute_56 : decode prog_14_method_42_code 56 = .ok (.goto (-54), 3) := by decide +kernel
theorem d_MO_minute_59 : decode prog_14_method_42_code 59 = .ok (.return_, 1) := by decide +kernel
def p_MO_minute_53 (Q : AH → Prop) (K2 : Int32 → Int32 → AH → Prop) (x1 : Int32) (x2 : Int32) (h : AH) : Prop := K2 x1 (x2 + 1) h
def p_MO_minute_2 (Q : AH → Prop) : Nat → Int32 → Int32 → AH → Prop
  | 0 => fun _ _ _ => False
  | n + 1 => fun x1 x2 h => let K2 := p_MO_minute_2 Q n; (((h.1 59 0) ≤ x2 → Q h) ∧ (¬ (h.1 59 0) ≤ x2 → inb x2 7 ∧ ((¬ (h.1 65 x2) = (-1) → p_MO_isLesser (fun r3 h2 => ((r3 = 0 → p_MO_minute_53 Q  K2 x1 x2 h2) ∧ (¬ r3 = 0 → inb x2 7 ∧ p_MO_catches (fun r6 h5 => p_MO_chained (fun h7 => p_MO_minute_53 Q  K2 x1 x2 h7) x2 (h2.1 65 x2) x1 r6 h5) h2))) x2 h) ∧ ((h.1 65 x2) = (-1) → p_MO_alone (fun h8 => p_MO_minute_53 Q  K2 x1 x2 h8) x2 x1 h))))
def p_MO_minute (Q : AH → Prop) (x1 : Int32) (h : AH) : Prop := ∃ n, p_MO_minute_2 Q   n x1 0 h
set_option maxRecDepth 20000 in
theorem r_MO_minute_53 {G : GG} {d : Nat} {Q : AH → Prop} {K2 : Int32 → Int32 → AH → Prop} (k2 : ∀ x1 x2 h, K2 x1 x2 h → Att G T1 m_MO_minute (d + 5) 2 [some (.ref 59), some (.int x1), some (.int x2)] [] h 0 0 (vQ Q)) (x1 : Int32) (x2 : Int32) (h : AH) (H : p_MO_minute_53 Q K2 x1 x2 h) : Att G T1 m_MO_minute (d + 5) 53 [some (.ref 59), some (.int x1), some (.int x2)] [] h 0 0 (vQ Q) := by
  refine A_iinc 1 [some (.ref 59), some (.int x1), some (.int (x2 + 1))] d_MO_minute_53 rfl (by decide) (by decide) rfl rfl ?_
  refine A_goto 2 d_MO_minute_56 (by decide) ?_
  exact k2 _ _ _ H
set_option maxRecDepth 20000 in
theorem r_MO_minute_2 {G : GG} {d : Nat} {Q : AH → Prop} : ∀ (n : Nat) (x1 : Int32) (x2 : Int32) (h : AH), p_MO_minute_2 Q n x1 x2 h → Att G T1 m_MO_minute (d + 5) 2 [some (.ref 59), some (.int x1), some (.int x2)] [] h 0 0 (vQ Q) := by
  intro n
  induction n with
  | zero => intro x1 x2 h H; exact H.elim
  | succ n k2 =>
    intro x1 x2 h H
    refine A_iload_n d_MO_minute_2 rfl ?_
    refine A_aload_n d_MO_minute_3 rfl ?_
    refine A_get (v := .int (h.1 59 0)) d_MO_minute_4 (fo_MO_90_12 rfl) (vA_s (by decide)) rfl (by first | rfl | (show Value.int _ = Value.int _; simp [wI, wL, wR, wC, up])) ?_
    refine A_icmp_ge 59 d_MO_minute_7 (by decide) (fun z => ?_) (fun z => ?_)
    · have H := H.1 z
      exact A_ret d_MO_minute_59 rfl H
    · have H := H.2 z
      refine A_aload_n d_MO_minute_10 rfl ?_
      refine A_get (v := .ref 65) d_MO_minute_11 (fo_MO_25_12 rfl) (vA_s (by decide)) rfl (by first | rfl | (show Value.int _ = Value.int _; simp [wI, wL, wR, wC, up])) ?_
      refine A_iload_n d_MO_minute_14 rfl ?_
      obtain ⟨c1, H⟩ := H
      refine A_ialdv (n := 7) (v := (h.1 65 x2)) d_MO_minute_15 (vA_s (by decide)) rfl c1 rfl ?_
      refine A_iconst (-1) (by decide) d_MO_minute_16 ?_
      refine A_icmp_ne 29 d_MO_minute_17 (by decide) (fun z => ?_) (fun z => ?_)
      · have H := H.1 z
        refine A_aload_n d_MO_minute_29 rfl ?_
        refine A_iload_n d_MO_minute_30 rfl ?_
        refine A_cI [.ref 59, .int x2] [] (ct_MO_97 rfl) d_MO_minute_31 rfl rfl (by decide) (Nat.le_of_ble_eq_true rfl) (rcA_o (c := 12) rfl (vA_s (by decide)) rfl (by decide) rfl) (ok_MO_isLesser (d := d + 4) H) (fun r3 h2 H => ?_)
        refine A_if_eq 53 d_MO_minute_34 (by decide) (fun z => ?_) (fun z => ?_)
        · have H := H.1 z
          exact r_MO_minute_53  k2 _ _ _ H
        · have H := H.2 z
          refine A_aload_n d_MO_minute_37 rfl ?_
          refine A_iload_n d_MO_minute_38 rfl ?_
          refine A_aload_n d_MO_minute_39 rfl ?_
          refine A_get (v := .ref 65) d_MO_minute_40 (fo_MO_25_12 rfl) (vA_s (by decide)) rfl (by first | rfl | (show Value.int _ = Value.int _; simp [wI, wL, wR, wC, up])) ?_
          refine A_iload_n d_MO_minute_43 rfl ?_
          obtain ⟨c4, H⟩ := H
          refine A_ialdv (n := 7) (v := (h2.1 65 x2)) d_MO_minute_44 (vA_s (by decide)) rfl c4 rfl ?_
          refine A_iload_n d_MO_minute_45 rfl ?_
          refine A_aload_n d_MO_minute_46 rfl ?_
          refine A_cI [.ref 59] [.int x1, .int (h2.1 65 x2), .int x2, .ref 59] (ct_MO_228 rfl) d_MO_minute_47 rfl rfl (by decide) (Nat.le_of_ble_eq_true rfl) (rcA_o (c := 12) rfl (vA_s (by decide)) rfl (by decide) rfl) (ok_MO_catches (d := d + 4) H) (fun r6 h5 H => ?_)
          refine A_cV [.ref 59, .int x2, .int (h2.1 65 x2), .int x1, .int r6] [] (ct_MO_231 rfl) d_MO_minute_50 rfl rfl (by decide) (Nat.le_of_ble_eq_true rfl) (rcA_o (c := 12) rfl (vA_s (by decide)) rfl (by decide) rfl) (ok_MO_chained (d := d) H) (fun h7 H => ?_)
          exact r_MO_minute_53  k2 _ _ _ H
      · have H := H.2 z
        refine A_aload_n d_MO_minute_20 rfl ?_
        refine A_iload_n d_MO_minute_21 rfl ?_
        refine A_iload_n d_MO_minute_22 rfl ?_
        refine A_cV [.ref 59, .int x2, .int x1] [] (ct_MO_225 rfl) d_MO_minute_23 rfl rfl (by decide) (Nat.le_of_ble_eq_true rfl) (rcA_o (c := 12) rfl (vA_s (by decide)) rfl (by decide) rfl) (ok_MO_alone (d := d) H) (fun h8 H => ?_)
        refine A_goto 53 d_MO_minute_26 (by decide) ?_
        exact r_MO_minute_53  k2 _ _ _ H
set_option maxRecDepth 20000 in
theorem r_MO_minute_0 {G : GG} {d : Nat} {Q : AH → Prop} (x1 : Int32) (h : AH) (H : p_MO_minute Q x1 h) : Att G T1 m_MO_minute (d + 5) 0 [some (.ref 59), some (.int x1), none] [] h 0 0 (vQ Q) := by
  refine A_iconst 0 (by decide) d_MO_minute_0 ?_
  refine A_istore_n [some (.ref 59), some (.int x1), some (.int 0)] d_MO_minute_1 (by decide) rfl rfl ?_
  obtain ⟨n9, H⟩ := H
  exact r_MO_minute_2   n9 _ _ _ H
set_option maxRecDepth 20000 in
theorem ok_MO_minute {G : GG} {d : Nat} {Q : AH → Prop} {x1 : Int32} {h : AH} (H : p_MO_minute Q x1 h) : WP G T1 m_MO_minute (d + 5) [.ref 59, .int x1] h 0 0 (vQ Q) := by
  exact WP.enter 1 (by decide) rfl rfl (r_MO_minute_0 x1 h H)
theorem d_Reader_word_0 : decode prog_9_method_12_code 0 = .ok (.aload_n 0, 1) := by decide +kernel
theorem d_Reader_word_1 : decode prog_9_method_12_code 1 = .ok (.getfield 34, 3) := by decide +kernel
theorem d_Reader_word_4 : decode prog_9_method_12_code 4 = .ok (.aload_n 0, 1) := by decide +kernel
theorem d_Reader_word_5 : decode prog_9_method_12_code 5 = .ok (.getfield 21, 3) := by decide +kernel
theorem d_Reader_word_8 : decode prog_9_method_12_code 8 = .ok (.if_icmp .ge 31, 3) := by decide +kernel
theorem d_Reader_word_11 : decode prog_9_method_12_code 11 = .ok (.aload_n 0, 1) := by decide +kernel
theorem d_Reader_word_12 : decode prog_9_method_12_code 12 = .ok (.getfield 9, 3) := by decide +kernel
theorem d_Reader_word_15 : decode prog_9_method_12_code 15 = .ok (.aload_n 0, 1) := by decide +kernel
theorem d_Reader_word_16 : decode prog_9_method_12_code 16 = .ok (.getfield 34, 3) := by decide +kernel
theorem d_Reader_word_19 : decode prog_9_method_12_code 19 = .ok (.iaload, 1) := by decide +kernel
theorem d_Reader_word_20 : decode prog_9_method_12_code 20 = .ok (.invokestatic 84, 3) := by decide +kernel
theorem d_Reader_word_23 : decode prog_9_method_12_code 23 = .ok (.ifCond .eq 16, 3) := by decide +kernel
theorem d_Reader_word_26 : decode prog_9_method_12_code 26 = .ok (.aload_n 0, 1) := by decide +kernel
theorem d_Reader_word_27 : decode prog_9_method_12_code 27 = .ok (.dup, 1) := by decide +kernel
theorem d_Reader_word_28 : decode prog_9_method_12_code 28 = .ok (.getfield 34, 3) := by decide +kernel
theorem d_Reader_word_31 : decode prog_9_method_12_code 31 = .ok (.iconst 1, 1) := by decide +kernel
theorem d_Reader_word_32 : decode prog_9_method_12_code 32 = .ok (.iadd, 1) := by decide +kernel
theorem d_Reader_word_33 : decode prog_9_method_12_code 33 = .ok (.putfield 34, 3) := by decide +kernel
theorem d_Reader_word_36 : decode prog_9_method_12_code 36 = .ok (.goto (-36), 3) := by decide +kernel
theorem d_Reader_word_39 : decode prog_9_method_12_code 39 = .ok (.aload_n 0, 1) := by decide +kernel
theorem d_Reader_word_40 : decode prog_9_method_12_code 40 = .ok (.ldc 99, 2) := by decide +kernel
theorem d_Reader_word_42 : decode prog_9_method_12_code 42 = .ok (.invokevirtual 101, 3) := by decide +kernel
theorem d_Reader_word_45 : decode prog_9_method_12_code 45 = .ok (.ifCond .eq 12, 3) := by decide +kernel
theorem d_Reader_word_48 : decode prog_9_method_12_code 48 = .ok (.aload_n 0, 1) := by decide +kernel
theorem d_Reader_word_49 : decode prog_9_method_12_code 49 = .ok (.bipush 7, 2) := by decide +kernel
theorem d_Reader_word_51 : decode prog_9_method_12_code 51 = .ok (.putfield 53, 3) := by decide +kernel
theorem d_Reader_word_54 : decode prog_9_method_12_code 54 = .ok (.goto 116, 3) := by decide +kernel
theorem d_Reader_word_57 : decode prog_9_method_12_code 57 = .ok (.aload_n 0, 1) := by decide +kernel
theorem d_Reader_word_58 : decode prog_9_method_12_code 58 = .ok (.ldc 105, 2) := by decide +kernel
theorem d_Reader_word_60 : decode prog_9_method_12_code 60 = .ok (.invokevirtual 101, 3) := by decide +kernel
theorem d_Reader_word_63 : decode prog_9_method_12_code 63 = .ok (.ifCond .eq 12, 3) := by decide +kernel
theorem d_Reader_word_66 : decode prog_9_method_12_code 66 = .ok (.aload_n 0, 1) := by decide +kernel
theorem d_Reader_word_67 : decode prog_9_method_12_code 67 = .ok (.bipush 8, 2) := by decide +kernel
theorem d_Reader_word_69 : decode prog_9_method_12_code 69 = .ok (.putfield 53, 3) := by decide +kernel
theorem d_Reader_word_72 : decode prog_9_method_12_code 72 = .ok (.goto 98, 3) := by decide +kernel
theorem d_Reader_word_75 : decode prog_9_method_12_code 75 = .ok (.aload_n 0, 1) := by decide +kernel
theorem d_Reader_word_76 : decode prog_9_method_12_code 76 = .ok (.ldc 107, 2) := by decide +kernel
theorem d_Reader_word_78 : decode prog_9_method_12_code 78 = .ok (.invokevirtual 101, 3) := by decide +kernel
theorem d_Reader_word_81 : decode prog_9_method_12_code 81 = .ok (.ifCond .eq 12, 3) := by decide +kernel
theorem d_Reader_word_84 : decode prog_9_method_12_code 84 = .ok (.aload_n 0, 1) := by decide +kernel
theorem d_Reader_word_85 : decode prog_9_method_12_code 85 = .ok (.bipush 9, 2) := by decide +kernel
theorem d_Reader_word_87 : decode prog_9_method_12_code 87 = .ok (.putfield 53, 3) := by decide +kernel
theorem d_Reader_word_90 : decode prog_9_method_12_code 90 = .ok (.goto 80, 3) := by decide +kernel
theorem d_Reader_word_93 : decode prog_9_method_12_code 93 = .ok (.aload_n 0, 1) := by decide +kernel
theorem d_Reader_word_94 : decode prog_9_method_12_code 94 = .ok (.ldc 109, 2) := by decide +kernel
theorem d_Reader_word_96 : decode prog_9_method_12_code 96 = .ok (.invokevirtual 101, 3) := by decide +kernel
theorem d_Reader_word_99 : decode prog_9_method_12_code 99 = .ok (.ifCond .eq 11, 3) := by decide +kernel
theorem d_Reader_word_102 : decode prog_9_method_12_code 102 = .ok (.aload_n 0, 1) := by decide +kernel
theorem d_Reader_word_103 : decode prog_9_method_12_code 103 = .ok (.iconst 4, 1) := by decide +kernel
theorem d_Reader_word_104 : decode prog_9_method_12_code 104 = .ok (.putfield 53, 3) := by decide +kernel
theorem d_Reader_word_107 : decode prog_9_method_12_code 107 = .ok (.goto 63, 3) := by decide +kernel
theorem d_Reader_word_110 : decode prog_9_method_12_code 110 = .ok (.aload_n 0, 1) := by decide +kernel
theorem d_Reader_word_111 : decode prog_9_method_12_code 111 = .ok (.ldc 111, 2) := by decide +kernel
theorem d_Reader_word_113 : decode prog_9_method_12_code 113 = .ok (.invokevirtual 101, 3) := by decide +kernel
theorem d_Reader_word_116 : decode prog_9_method_12_code 116 = .ok (.ifCond .eq 11, 3) := by decide +kernel
theorem d_Reader_word_119 : decode prog_9_method_12_code 119 = .ok (.aload_n 0, 1) := by decide +kernel
theorem d_Reader_word_120 : decode prog_9_method_12_code 120 = .ok (.iconst 5, 1) := by decide +kernel
theorem d_Reader_word_121 : decode prog_9_method_12_code 121 = .ok (.putfield 53, 3) := by decide +kernel
theorem d_Reader_word_124 : decode prog_9_method_12_code 124 = .ok (.goto 46, 3) := by decide +kernel
theorem d_Reader_word_127 : decode prog_9_method_12_code 127 = .ok (.aload_n 0, 1) := by decide +kernel
theorem d_Reader_word_128 : decode prog_9_method_12_code 128 = .ok (.ldc 113, 2) := by decide +kernel
theorem d_Reader_word_130 : decode prog_9_method_12_code 130 = .ok (.invokevirtual 101, 3) := by decide +kernel
theorem d_Reader_word_133 : decode prog_9_method_12_code 133 = .ok (.ifCond .eq 12, 3) := by decide +kernel
theorem d_Reader_word_136 : decode prog_9_method_12_code 136 = .ok (.aload_n 0, 1) := by decide +kernel
theorem d_Reader_word_137 : decode prog_9_method_12_code 137 = .ok (.bipush 6, 2) := by decide +kernel
theorem d_Reader_word_139 : decode prog_9_method_12_code 139 = .ok (.putfield 53, 3) := by decide +kernel
theorem d_Reader_word_142 : decode prog_9_method_12_code 142 = .ok (.goto 28, 3) := by decide +kernel
theorem d_Reader_word_145 : decode prog_9_method_12_code 145 = .ok (.aload_n 0, 1) := by decide +kernel
theorem d_Reader_word_146 : decode prog_9_method_12_code 146 = .ok (.aload_n 0, 1) := by decide +kernel
theorem d_Reader_word_147 : decode prog_9_method_12_code 147 = .ok (.invokevirtual 115, 3) := by decide +kernel
theorem d_Reader_word_150 : decode prog_9_method_12_code 150 = .ok (.putfield 78, 3) := by decide +kernel
theorem d_Reader_word_153 : decode prog_9_method_12_code 153 = .ok (.aload_n 0, 1) := by decide +kernel
theorem d_Reader_word_154 : decode prog_9_method_12_code 154 = .ok (.aload_n 0, 1) := by decide +kernel
theorem d_Reader_word_155 : decode prog_9_method_12_code 155 = .ok (.getfield 78, 3) := by decide +kernel
theorem d_Reader_word_158 : decode prog_9_method_12_code 158 = .ok (.iconst (-1), 1) := by decide +kernel
theorem d_Reader_word_159 : decode prog_9_method_12_code 159 = .ok (.if_icmp .ne 7, 3) := by decide +kernel
theorem d_Reader_word_162 : decode prog_9_method_12_code 162 = .ok (.iconst 1, 1) := by decide +kernel
theorem d_Reader_word_163 : decode prog_9_method_12_code 163 = .ok (.goto 4, 3) := by decide +kernel
theorem d_Reader_word_166 : decode prog_9_method_12_code 166 = .ok (.iconst 3, 1) := by decide +kernel
theorem d_Reader_word_167 : decode prog_9_method_12_code 167 = .ok (.putfield 53, 3) := by decide +kernel
theorem d_Reader_word_170 : decode prog_9_method_12_code 170 = .ok (.return_, 1) := by decide +kernel
def p_Reader_word_39 (Q : AH → Prop) (h : AH) : Prop := p_Reader_isWord (fun r2 h1 => ((r2 = 0 → p_Reader_isWord (fun r4 h3 => ((r4 = 0 → p_Reader_isWord (fun r6 h5 => ((r6 = 0 → p_Reader_isWord (fun r8 h7 => ((r8 = 0 → p_Reader_isWord (fun r10 h9 => ((r10 = 0 → p_Reader_isWord (fun r12 h11 => ((r12 = 0 → p_Reader_nameRead (fun r14 h13 => ((¬ r14 = (-1) → Q (wI (wI h13 25 6 r14) 25 5 3)) ∧ (r14 = (-1) → Q (wI (wI h13 25 6 r14) 25 5 1)))) h11) ∧ (¬ r12 = 0 → Q (wI h11 25 5 6)))) (1000000 + 6) h9) ∧ (¬ r10 = 0 → Q (wI h9 25 5 5)))) (1000000 + 5) h7) ∧ (¬ r8 = 0 → Q (wI h7 25 5 4)))) (1000000 + 4) h5) ∧ (¬ r6 = 0 → Q (wI h5 25 5 9)))) (1000000 + 3) h3) ∧ (¬ r4 = 0 → Q (wI h3 25 5 8)))) (1000000 + 2) h1) ∧ (¬ r2 = 0 → Q (wI h1 25 5 7)))) (1000000 + 1) h
def p_Reader_word_0 (Q : AH → Prop) : Nat → AH → Prop
  | 0 => fun  _ => False
  | n + 1 => fun h => let K0 := p_Reader_word_0 Q n; (((h.1 25 1) ≤ (h.1 25 3) → p_Reader_word_39 Q   h) ∧ (¬ (h.1 25 1) ≤ (h.1 25 3) → 0 < rR T1 h 25 0 ∧ vA T1 h (rR T1 h 25 0 - 1) ∧ (rS T1 h (rR T1 h 25 0 - 1)).1 = 100 ∧ inb (h.1 25 3) ((rS T1 h (rR T1 h 25 0 - 1)).2) ∧ p_Reader_isLetter (fun r6 h5 => ((r6 = 0 → p_Reader_word_39 Q   h5) ∧ (¬ r6 = 0 → K0 (wI h5 25 3 ((h5.1 25 3) + 1))))) (h.1 (rR T1 h 25 0 - 1) (h.1 25 3)) h))
def p_Reader_word (Q : AH → Prop) (h : AH) : Prop := ∃ n, p_Reader_word_0 Q   n h
set_option maxRecDepth 20000 in
theorem r_Reader_word_39 {G : GG} {d : Nat} {Q : AH → Prop} (h : AH) (H : p_Reader_word_39 Q h) : Att G T1 m_Reader_word (d + 6) 39 [some (.ref 25)] [] h 0 0 (vQ Q) := by
  refine A_aload_n d_Reader_word_39 rfl ?_
  refine A_ldcS 1 d_Reader_word_40 rfl rfl ?_
  refine A_cI [.ref 25, .ref (1000000 + 1)] [] (ct_Reader_101 rfl) d_Reader_word_42 rfl rfl (by decide) (Nat.le_of_ble_eq_true rfl) (rcA_o (c := 7) rfl (vA_s (by decide)) rfl (by decide) rfl) (ok_Reader_isWord (d := d + 1) H) (fun r2 h1 H => ?_)
  refine A_if_eq 57 d_Reader_word_45 (by decide) (fun z => ?_) (fun z => ?_)
  · have H := H.1 z
    refine A_aload_n d_Reader_word_57 rfl ?_
    refine A_ldcS 2 d_Reader_word_58 rfl rfl ?_
    refine A_cI [.ref 25, .ref (1000000 + 2)] [] (ct_Reader_101 rfl) d_Reader_word_60 rfl rfl (by decide) (Nat.le_of_ble_eq_true rfl) (rcA_o (c := 7) rfl (vA_s (by decide)) rfl (by decide) rfl) (ok_Reader_isWord (d := d + 1) H) (fun r4 h3 H => ?_)
    refine A_if_eq 75 d_Reader_word_63 (by decide) (fun z => ?_) (fun z => ?_)
    · have H := H.1 z
      refine A_aload_n d_Reader_word_75 rfl ?_
      refine A_ldcS 3 d_Reader_word_76 rfl rfl ?_
      refine A_cI [.ref 25, .ref (1000000 + 3)] [] (ct_Reader_101 rfl) d_Reader_word_78 rfl rfl (by decide) (Nat.le_of_ble_eq_true rfl) (rcA_o (c := 7) rfl (vA_s (by decide)) rfl (by decide) rfl) (ok_Reader_isWord (d := d + 1) H) (fun r6 h5 H => ?_)
      refine A_if_eq 93 d_Reader_word_81 (by decide) (fun z => ?_) (fun z => ?_)
      · have H := H.1 z
        refine A_aload_n d_Reader_word_93 rfl ?_
        refine A_ldcS 4 d_Reader_word_94 rfl rfl ?_
        refine A_cI [.ref 25, .ref (1000000 + 4)] [] (ct_Reader_101 rfl) d_Reader_word_96 rfl rfl (by decide) (Nat.le_of_ble_eq_true rfl) (rcA_o (c := 7) rfl (vA_s (by decide)) rfl (by decide) rfl) (ok_Reader_isWord (d := d + 1) H) (fun r8 h7 H => ?_)
        refine A_if_eq 110 d_Reader_word_99 (by decide) (fun z => ?_) (fun z => ?_)
        · have H := H.1 z
          refine A_aload_n d_Reader_word_110 rfl ?_
          refine A_ldcS 5 d_Reader_word_111 rfl rfl ?_
          refine A_cI [.ref 25, .ref (1000000 + 5)] [] (ct_Reader_101 rfl) d_Reader_word_113 rfl rfl (by decide) (Nat.le_of_ble_eq_true rfl) (rcA_o (c := 7) rfl (vA_s (by decide)) rfl (by decide) rfl) (ok_Reader_isWord (d := d + 1) H) (fun r10 h9 H => ?_)
          refine A_if_eq 127 d_Reader_word_116 (by decide) (fun z => ?_) (fun z => ?_)
          · have H := H.1 z
            refine A_aload_n d_Reader_word_127 rfl ?_
            refine A_ldcS 6 d_Reader_word_128 rfl rfl ?_
            refine A_cI [.ref 25, .ref (1000000 + 6)] [] (ct_Reader_101 rfl) d_Reader_word_130 rfl rfl (by decide) (Nat.le_of_ble_eq_true rfl) (rcA_o (c := 7) rfl (vA_s (by decide)) rfl (by decide) rfl) (ok_Reader_isWord (d := d + 1) H) (fun r12 h11 H => ?_)
            refine A_if_eq 145 d_Reader_word_133 (by decide) (fun z => ?_) (fun z => ?_)
            · have H := H.1 z
              refine A_aload_n d_Reader_word_145 rfl ?_
              refine A_aload_n d_Reader_word_146 rfl ?_
              refine A_cI [.ref 25] [.ref 25] (ct_Reader_115 rfl) d_Reader_word_147 rfl rfl (by decide) (Nat.le_of_ble_eq_true rfl) (rcA_o (c := 7) rfl (vA_s (by decide)) rfl (by decide) rfl) (ok_Reader_nameRead (d := d) H) (fun r14 h13 H => ?_)
              refine A_putI (k := 6) d_Reader_word_150 (fo_Reader_78_7 rfl) (Or.inr ⟨rfl, _, ft_7_6⟩) (fun z => by cases z) rfl (vA_s (by decide)) rfl rfl rfl ?_
              refine A_aload_n d_Reader_word_153 rfl ?_
              refine A_aload_n d_Reader_word_154 rfl ?_
              refine A_get (v := .int r14) d_Reader_word_155 (fo_Reader_78_7 rfl) (vA_s (by decide)) rfl (by first | rfl | (show Value.int _ = Value.int _; simp [wI, wL, wR, wC, up])) ?_
              refine A_iconst (-1) (by decide) d_Reader_word_158 ?_
              refine A_icmp_ne 166 d_Reader_word_159 (by decide) (fun z => ?_) (fun z => ?_)
              · have H := H.1 z
                refine A_iconst 3 (by decide) d_Reader_word_166 ?_
                refine A_putI (k := 5) d_Reader_word_167 (fo_Reader_53_7 rfl) (Or.inr ⟨rfl, _, ft_7_5⟩) (fun z => by cases z) rfl (vA_s (by decide)) rfl rfl rfl ?_
                exact A_ret d_Reader_word_170 rfl H
              · have H := H.2 z
                refine A_iconst 1 (by decide) d_Reader_word_162 ?_
                refine A_goto 167 d_Reader_word_163 (by decide) ?_
                refine A_putI (k := 5) d_Reader_word_167 (fo_Reader_53_7 rfl) (Or.inr ⟨rfl, _, ft_7_5⟩) (fun z => by cases z) rfl (vA_s (by decide)) rfl rfl rfl ?_
                exact A_ret d_Reader_word_170 rfl H
            · have H := H.2 z
              refine A_aload_n d_Reader_word_136 rfl ?_
              refine A_bipush 6 (by decide) d_Reader_word_137 ?_
              refine A_putI (k := 5) d_Reader_word_139 (fo_Reader_53_7 rfl) (Or.inr ⟨rfl, _, ft_7_5⟩) (fun z => by cases z) rfl (vA_s (by decide)) rfl rfl rfl ?_
              refine A_goto 170 d_Reader_word_142 (by decide) ?_
              exact A_ret d_Reader_word_170 rfl H
          · have H := H.2 z
            refine A_aload_n d_Reader_word_119 rfl ?_
            refine A_iconst 5 (by decide) d_Reader_word_120 ?_
            refine A_putI (k := 5) d_Reader_word_121 (fo_Reader_53_7 rfl) (Or.inr ⟨rfl, _, ft_7_5⟩) (fun z => by cases z) rfl (vA_s (by decide)) rfl rfl rfl ?_
            refine A_goto 170 d_Reader_word_124 (by decide) ?_
            exact A_ret d_Reader_word_170 rfl H
        · have H := H.2 z
          refine A_aload_n d_Reader_word_102 rfl ?_
          refine A_iconst 4 (by decide) d_Reader_word_103 ?_
          refine A_putI (k := 5) d_Reader_word_104 (fo_Reader_53_7 rfl) (Or.inr ⟨rfl, _, ft_7_5⟩) (fun z => by cases z) rfl (vA_s (by decide)) rfl rfl rfl ?_
          refine A_goto 170 d_Reader_word_107 (by decide) ?_
          exact A_ret d_Reader_word_170 rfl H
      · have H := H.2 z
        refine A_aload_n d_Reader_word_84 rfl ?_
        refine A_bipush 9 (by decide) d_Reader_word_85 ?_
        refine A_putI (k := 5) d_Reader_word_87 (fo_Reader_53_7 rfl) (Or.inr ⟨rfl, _, ft_7_5⟩) (fun z => by cases z) rfl (vA_s (by decide)) rfl rfl rfl ?_
        refine A_goto 170 d_Reader_word_90 (by decide) ?_
        exact A_ret d_Reader_word_170 rfl H
    · have H := H.2 z
      refine A_aload_n d_Reader_word_66 rfl ?_
      refine A_bipush 8 (by decide) d_Reader_word_67 ?_
      refine A_putI (k := 5) d_Reader_word_69 (fo_Reader_53_7 rfl) (Or.inr ⟨rfl, _, ft_7_5⟩) (fun z => by cases z) rfl (vA_s (by decide)) rfl rfl rfl ?_
      refine A_goto 170 d_Reader_word_72 (by decide) ?_
      exact A_ret d_Reader_word_170 rfl H
  · have H := H.2 z
    refine A_aload_n d_Reader_word_48 rfl ?_
    refine A_bipush 7 (by decide) d_Reader_word_49 ?_
    refine A_putI (k := 5) d_Reader_word_51 (fo_Reader_53_7 rfl) (Or.inr ⟨rfl, _, ft_7_5⟩) (fun z => by cases z) rfl (vA_s (by decide)) rfl rfl rfl ?_
    refine A_goto 170 d_Reader_word_54 (by decide) ?_
    exact A_ret d_Reader_word_170 rfl H
set_option maxRecDepth 20000 in
theorem r_Reader_word_0 {G : GG} {d : Nat} {Q : AH → Prop} : ∀ (n : Nat) (h : AH), p_Reader_word_0 Q n h → Att G T1 m_Reader_word (d + 6) 0 [some (.ref 25)] [] h 0 0 (vQ Q) := by
  intro n
  induction n with
  | zero => intro h H; exact H.elim
  | succ n k0 =>
    intro h H
    refine A_aload_n d_Reader_word_0 rfl ?_
    refine A_get (v := .int (h.1 25 3)) d_Reader_word_1 (fo_Reader_34_7 rfl) (vA_s (by decide)) rfl (by first | rfl | (show Value.int _ = Value.int _; simp [wI, wL, wR, wC, up])) ?_
    refine A_aload_n d_Reader_word_4 rfl ?_
    refine A_get (v := .int (h.1 25 1)) d_Reader_word_5 (fo_Reader_21_7 rfl) (vA_s (by decide)) rfl (by first | rfl | (show Value.int _ = Value.int _; simp [wI, wL, wR, wC, up])) ?_
    refine A_icmp_ge 39 d_Reader_word_8 (by decide) (fun z => ?_) (fun z => ?_)
    · have H := H.1 z
      exact r_Reader_word_39   _ H
    · have H := H.2 z
      refine A_aload_n d_Reader_word_11 rfl ?_
      obtain ⟨c1, H⟩ := H
      refine A_get (v := .ref (rR T1 h 25 0 - 1)) d_Reader_word_12 (fo_Reader_9_7 rfl) (vA_s (by decide)) rfl (vR_pos c1) ?_
      refine A_aload_n d_Reader_word_15 rfl ?_
      refine A_get (v := .int (h.1 25 3)) d_Reader_word_16 (fo_Reader_34_7 rfl) (vA_s (by decide)) rfl (by first | rfl | (show Value.int _ = Value.int _; simp [wI, wL, wR, wC, up])) ?_
      obtain ⟨c2, H⟩ := H
      obtain ⟨c3, H⟩ := H
      obtain ⟨c4, H⟩ := H
      refine A_ialdv (n := _) (v := (h.1 (rR T1 h 25 0 - 1) (h.1 25 3))) d_Reader_word_19 c2 (rS_ex c3) c4 rfl ?_
      refine A_cI [.int (h.1 (rR T1 h 25 0 - 1) (h.1 25 3))] [] (ct_Reader_84 rfl) d_Reader_word_20 rfl rfl (by decide) (Nat.le_of_ble_eq_true rfl) trivial (ok_Reader_isLetter (d := d + 4) H) (fun r6 h5 H => ?_)
      refine A_if_eq 39 d_Reader_word_23 (by decide) (fun z => ?_) (fun z => ?_)
      · have H := H.1 z
        exact r_Reader_word_39   _ H
      · have H := H.2 z
        refine A_aload_n d_Reader_word_26 rfl ?_
        refine A_dup rfl d_Reader_word_27 ?_
        refine A_get (v := .int (h5.1 25 3)) d_Reader_word_28 (fo_Reader_34_7 rfl) (vA_s (by decide)) rfl (by first | rfl | (show Value.int _ = Value.int _; simp [wI, wL, wR, wC, up])) ?_
        refine A_iconst 1 (by decide) d_Reader_word_31 ?_
        refine A_iadd d_Reader_word_32 ?_
        refine A_putI (k := 3) d_Reader_word_33 (fo_Reader_34_7 rfl) (Or.inr ⟨rfl, _, ft_7_3⟩) (fun z => by cases z) rfl (vA_s (by decide)) rfl rfl rfl ?_
        refine A_goto 0 d_Reader_word_36 (by decide) ?_
        exact k0 _ H
set_option maxRecDepth 20000 in
theorem r_Reader_word_e {G : GG} {d : Nat} {Q : AH → Prop} (h : AH) (H : p_Reader_word Q h) : Att G T1 m_Reader_word (d + 6) 0 [some (.ref 25)] [] h 0 0 (vQ Q) := by
  obtain ⟨n9, H⟩ := H
  exact r_Reader_word_0   n9 _ H
set_option maxRecDepth 20000 in
theorem ok_Reader_word {G : GG} {d : Nat} {Q : AH → Prop} {h : AH} (H : p_Reader_word Q h) : WP G T1 m_Reader_word (d + 6) [.ref 25] h 0 0 (vQ Q) := by
  exact WP.enter 0 (by decide) rfl rfl (r_Reader_word_e h H)
theorem d_Dusk_go_0 : decode prog_4_method_3_code 0 = .ok (.iconst 0, 1) := by decide +kernel
theorem d_Dusk_go_1 : decode prog_4_method_3_code 1 = .ok (.istore_n 2, 1) := by decide +kernel
theorem d_Dusk_go_2 : decode prog_4_method_3_code 2 = .ok (.iload_n 2, 1) := by decide +kernel
theorem d_Dusk_go_3 : decode prog_4_method_3_code 3 = .ok (.iload_n 1, 1) := by decide +kernel
theorem d_Dusk_go_4 : decode prog_4_method_3_code 4 = .ok (.if_icmp .ge 15, 3) := by decide +kernel
theorem d_Dusk_go_7 : decode prog_4_method_3_code 7 = .ok (.aload_n 0, 1) := by decide +kernel
theorem d_Dusk_go_8 : decode prog_4_method_3_code 8 = .ok (.iload_n 2, 1) := by decide +kernel
theorem d_Dusk_go_9 : decode prog_4_method_3_code 9 = .ok (.iconst 0, 1) := by decide +kernel
theorem d_Dusk_go_10 : decode prog_4_method_3_code 10 = .ok (.invokevirtual 53, 3) := by decide +kernel
theorem d_Dusk_go_13 : decode prog_4_method_3_code 13 = .ok (.iinc 2 1, 3) := by decide +kernel
theorem d_Dusk_go_16 : decode prog_4_method_3_code 16 = .ok (.goto (-14), 3) := by decide +kernel
theorem d_Dusk_go_19 : decode prog_4_method_3_code 19 = .ok (.return_, 1) := by decide +kernel
def p_Dusk_go_2 (Q : AH → Prop) : Nat → Int32 → Int32 → AH → Prop
  | 0 => fun _ _ _ => False
  | n + 1 => fun x1 x2 h => let K2 := p_Dusk_go_2 Q n; ((x1 ≤ x2 → Q h) ∧ (¬ x1 ≤ x2 → p_Dusk_pass (fun h1 => K2 x1 (x2 + 1) h1) x2 0 h))
def p_Dusk_go (Q : AH → Prop) (x1 : Int32) (h : AH) : Prop := ∃ n, p_Dusk_go_2 Q   n x1 0 h
set_option maxRecDepth 20000 in
theorem r_Dusk_go_2 {G : GG} {d : Nat} {Q : AH → Prop} : ∀ (n : Nat) (x1 : Int32) (x2 : Int32) (h : AH), p_Dusk_go_2 Q n x1 x2 h → Att G T1 m_Dusk_go (d + 6) 2 [some (.ref 13), some (.int x1), some (.int x2)] [] h 0 0 (vQ Q) := by
  intro n
  induction n with
  | zero => intro x1 x2 h H; exact H.elim
  | succ n k2 =>
    intro x1 x2 h H
    refine A_iload_n d_Dusk_go_2 rfl ?_
    refine A_iload_n d_Dusk_go_3 rfl ?_
    refine A_icmp_ge 19 d_Dusk_go_4 (by decide) (fun z => ?_) (fun z => ?_)
    · have H := H.1 z
      exact A_ret d_Dusk_go_19 rfl H
    · have H := H.2 z
      refine A_aload_n d_Dusk_go_7 rfl ?_
      refine A_iload_n d_Dusk_go_8 rfl ?_
      refine A_iconst 0 (by decide) d_Dusk_go_9 ?_
      refine A_cV [.ref 13, .int x2, .int 0] [] (ct_Dusk_53 rfl) d_Dusk_go_10 rfl rfl (by decide) (Nat.le_of_ble_eq_true rfl) (rcA_o (c := 2) rfl (vA_s (by decide)) rfl (by decide) rfl) (ok_Dusk_pass (d := d) H) (fun h1 H => ?_)
      refine A_iinc 1 [some (.ref 13), some (.int x1), some (.int (x2 + 1))] d_Dusk_go_13 rfl (by decide) (by decide) rfl rfl ?_
      refine A_goto 2 d_Dusk_go_16 (by decide) ?_
      exact k2 _ _ _ H
set_option maxRecDepth 20000 in
theorem r_Dusk_go_0 {G : GG} {d : Nat} {Q : AH → Prop} (x1 : Int32) (h : AH) (H : p_Dusk_go Q x1 h) : Att G T1 m_Dusk_go (d + 6) 0 [some (.ref 13), some (.int x1), none] [] h 0 0 (vQ Q) := by
  refine A_iconst 0 (by decide) d_Dusk_go_0 ?_
  refine A_istore_n [some (.ref 13), some (.int x1), some (.int 0)] d_Dusk_go_1 (by decide) rfl rfl ?_
  obtain ⟨n9, H⟩ := H
  exact r_Dusk_go_2   n9 _ _ _ H
set_option maxRecDepth 20000 in
theorem ok_Dusk_go {G : GG} {d : Nat} {Q : AH → Prop} {x1 : Int32} {h : AH} (H : p_Dusk_go Q x1 h) : WP G T1 m_Dusk_go (d + 6) [.ref 13, .int x1] h 0 0 (vQ Q) := by
  exact WP.enter 1 (by decide) rfl rfl (r_Dusk_go_0 x1 h H)
