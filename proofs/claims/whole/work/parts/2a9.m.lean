theorem d_UF_over_0 : decode prog_1_method_17_code 0 = .ok (.iload_n 1, 1) := by decide +kernel
theorem d_UF_over_1 : decode prog_1_method_17_code 1 = .ok (.invokestatic 143, 3) := by decide +kernel
theorem d_UF_over_4 : decode prog_1_method_17_code 4 = .ok (.ifCond .eq 12, 3) := by decide +kernel
theorem d_UF_over_7 : decode prog_1_method_17_code 7 = .ok (.iload_n 2, 1) := by decide +kernel
theorem d_UF_over_8 : decode prog_1_method_17_code 8 = .ok (.iconst 0, 1) := by decide +kernel
theorem d_UF_over_9 : decode prog_1_method_17_code 9 = .ok (.iconst 1, 1) := by decide +kernel
theorem d_UF_over_10 : decode prog_1_method_17_code 10 = .ok (.invokestatic 95, 3) := by decide +kernel
theorem d_UF_over_13 : decode prog_1_method_17_code 13 = .ok (.ifCond .ne 6, 3) := by decide +kernel
theorem d_UF_over_16 : decode prog_1_method_17_code 16 = .ok (.bipush (-2), 2) := by decide +kernel
theorem d_UF_over_18 : decode prog_1_method_17_code 18 = .ok (.ireturn, 1) := by decide +kernel
theorem d_UF_over_19 : decode prog_1_method_17_code 19 = .ok (.aload_n 0, 1) := by decide +kernel
theorem d_UF_over_20 : decode prog_1_method_17_code 20 = .ok (.invokevirtual 110, 3) := by decide +kernel
theorem d_UF_over_23 : decode prog_1_method_17_code 23 = .ok (.aload_n 0, 1) := by decide +kernel
theorem d_UF_over_24 : decode prog_1_method_17_code 24 = .ok (.getfield 44, 3) := by decide +kernel
theorem d_UF_over_27 : decode prog_1_method_17_code 27 = .ok (.iload_n 1, 1) := by decide +kernel
theorem d_UF_over_28 : decode prog_1_method_17_code 28 = .ok (.invokevirtual 146, 3) := by decide +kernel
theorem d_UF_over_31 : decode prog_1_method_17_code 31 = .ok (.aload_n 0, 1) := by decide +kernel
theorem d_UF_over_32 : decode prog_1_method_17_code 32 = .ok (.getfield 44, 3) := by decide +kernel
theorem d_UF_over_35 : decode prog_1_method_17_code 35 = .ok (.getfield 149, 3) := by decide +kernel
theorem d_UF_over_38 : decode prog_1_method_17_code 38 = .ok (.invokevirtual 184, 3) := by decide +kernel
theorem d_UF_over_41 : decode prog_1_method_17_code 41 = .ok (.istore_n 3, 1) := by decide +kernel
theorem d_UF_over_42 : decode prog_1_method_17_code 42 = .ok (.iconst (-1), 1) := by decide +kernel
theorem d_UF_over_43 : decode prog_1_method_17_code 43 = .ok (.istore 4, 2) := by decide +kernel
theorem d_UF_over_45 : decode prog_1_method_17_code 45 = .ok (.iconst 0, 1) := by decide +kernel
theorem d_UF_over_46 : decode prog_1_method_17_code 46 = .ok (.istore 5, 2) := by decide +kernel
theorem d_UF_over_48 : decode prog_1_method_17_code 48 = .ok (.iload 5, 2) := by decide +kernel
theorem d_UF_over_50 : decode prog_1_method_17_code 50 = .ok (.aload_n 0, 1) := by decide +kernel
theorem d_UF_over_51 : decode prog_1_method_17_code 51 = .ok (.getfield 34, 3) := by decide +kernel
theorem d_UF_over_54 : decode prog_1_method_17_code 54 = .ok (.getfield 80, 3) := by decide +kernel
theorem d_UF_over_57 : decode prog_1_method_17_code 57 = .ok (.if_icmp .ge 130, 3) := by decide +kernel
theorem d_UF_over_60 : decode prog_1_method_17_code 60 = .ok (.iconst 0, 1) := by decide +kernel
theorem d_UF_over_61 : decode prog_1_method_17_code 61 = .ok (.istore 6, 2) := by decide +kernel
theorem d_UF_over_63 : decode prog_1_method_17_code 63 = .ok (.iload 6, 2) := by decide +kernel
theorem d_UF_over_65 : decode prog_1_method_17_code 65 = .ok (.aload_n 0, 1) := by decide +kernel
theorem d_UF_over_66 : decode prog_1_method_17_code 66 = .ok (.getfield 34, 3) := by decide +kernel
theorem d_UF_over_69 : decode prog_1_method_17_code 69 = .ok (.getfield 80, 3) := by decide +kernel
theorem d_UF_over_72 : decode prog_1_method_17_code 72 = .ok (.if_icmp .ge 109, 3) := by decide +kernel
theorem d_UF_over_75 : decode prog_1_method_17_code 75 = .ok (.iload 5, 2) := by decide +kernel
theorem d_UF_over_77 : decode prog_1_method_17_code 77 = .ok (.iload 6, 2) := by decide +kernel
theorem d_UF_over_79 : decode prog_1_method_17_code 79 = .ok (.if_icmp .eq 96, 3) := by decide +kernel
theorem d_UF_over_82 : decode prog_1_method_17_code 82 = .ok (.aload_n 0, 1) := by decide +kernel
theorem d_UF_over_83 : decode prog_1_method_17_code 83 = .ok (.getfield 34, 3) := by decide +kernel
theorem d_UF_over_86 : decode prog_1_method_17_code 86 = .ok (.getfield 124, 3) := by decide +kernel
theorem d_UF_over_89 : decode prog_1_method_17_code 89 = .ok (.iload 5, 2) := by decide +kernel
theorem d_UF_over_91 : decode prog_1_method_17_code 91 = .ok (.iaload, 1) := by decide +kernel
theorem d_UF_over_92 : decode prog_1_method_17_code 92 = .ok (.ifCond .ne 6, 3) := by decide +kernel
theorem d_UF_over_95 : decode prog_1_method_17_code 95 = .ok (.goto 80, 3) := by decide +kernel
theorem d_UF_over_98 : decode prog_1_method_17_code 98 = .ok (.aload_n 0, 1) := by decide +kernel
theorem d_UF_over_99 : decode prog_1_method_17_code 99 = .ok (.invokevirtual 110, 3) := by decide +kernel
theorem d_UF_over_102 : decode prog_1_method_17_code 102 = .ok (.aload_n 0, 1) := by decide +kernel
theorem d_UF_over_103 : decode prog_1_method_17_code 103 = .ok (.getfield 44, 3) := by decide +kernel
theorem d_UF_over_106 : decode prog_1_method_17_code 106 = .ok (.getfield 149, 3) := by decide +kernel
theorem d_UF_over_109 : decode prog_1_method_17_code 109 = .ok (.getfield 124, 3) := by decide +kernel
theorem d_UF_over_112 : decode prog_1_method_17_code 112 = .ok (.iload 5, 2) := by decide +kernel
theorem d_UF_over_114 : decode prog_1_method_17_code 114 = .ok (.dup2, 1) := by decide +kernel
theorem d_UF_over_115 : decode prog_1_method_17_code 115 = .ok (.iaload, 1) := by decide +kernel
theorem d_UF_over_116 : decode prog_1_method_17_code 116 = .ok (.iconst 1, 1) := by decide +kernel
theorem d_UF_over_117 : decode prog_1_method_17_code 117 = .ok (.isub, 1) := by decide +kernel
theorem d_UF_over_118 : decode prog_1_method_17_code 118 = .ok (.iastore, 1) := by decide +kernel
theorem d_UF_over_119 : decode prog_1_method_17_code 119 = .ok (.aload_n 0, 1) := by decide +kernel
theorem d_UF_over_120 : decode prog_1_method_17_code 120 = .ok (.getfield 44, 3) := by decide +kernel
theorem d_UF_over_123 : decode prog_1_method_17_code 123 = .ok (.getfield 149, 3) := by decide +kernel
theorem d_UF_over_126 : decode prog_1_method_17_code 126 = .ok (.getfield 124, 3) := by decide +kernel
theorem d_UF_over_129 : decode prog_1_method_17_code 129 = .ok (.iload 6, 2) := by decide +kernel
theorem d_UF_over_131 : decode prog_1_method_17_code 131 = .ok (.dup2, 1) := by decide +kernel
theorem d_UF_over_132 : decode prog_1_method_17_code 132 = .ok (.iaload, 1) := by decide +kernel
theorem d_UF_over_133 : decode prog_1_method_17_code 133 = .ok (.iconst 1, 1) := by decide +kernel
theorem d_UF_over_134 : decode prog_1_method_17_code 134 = .ok (.iadd, 1) := by decide +kernel
theorem d_UF_over_135 : decode prog_1_method_17_code 135 = .ok (.iastore, 1) := by decide +kernel
theorem d_UF_over_136 : decode prog_1_method_17_code 136 = .ok (.aload_n 0, 1) := by decide +kernel
theorem d_UF_over_137 : decode prog_1_method_17_code 137 = .ok (.getfield 44, 3) := by decide +kernel
theorem d_UF_over_140 : decode prog_1_method_17_code 140 = .ok (.iload_n 1, 1) := by decide +kernel
theorem d_UF_over_141 : decode prog_1_method_17_code 141 = .ok (.invokevirtual 146, 3) := by decide +kernel
theorem d_UF_over_144 : decode prog_1_method_17_code 144 = .ok (.aload_n 0, 1) := by decide +kernel
theorem d_UF_over_145 : decode prog_1_method_17_code 145 = .ok (.getfield 44, 3) := by decide +kernel
theorem d_UF_over_148 : decode prog_1_method_17_code 148 = .ok (.getfield 149, 3) := by decide +kernel
theorem d_UF_over_151 : decode prog_1_method_17_code 151 = .ok (.invokevirtual 184, 3) := by decide +kernel
theorem d_UF_over_154 : decode prog_1_method_17_code 154 = .ok (.istore 7, 2) := by decide +kernel
theorem d_UF_over_156 : decode prog_1_method_17_code 156 = .ok (.iload 7, 2) := by decide +kernel
theorem d_UF_over_158 : decode prog_1_method_17_code 158 = .ok (.iload_n 3, 1) := by decide +kernel
theorem d_UF_over_159 : decode prog_1_method_17_code 159 = .ok (.if_icmp .le 16, 3) := by decide +kernel
theorem d_UF_over_162 : decode prog_1_method_17_code 162 = .ok (.iload 7, 2) := by decide +kernel
theorem d_UF_over_164 : decode prog_1_method_17_code 164 = .ok (.istore_n 3, 1) := by decide +kernel
theorem d_UF_over_165 : decode prog_1_method_17_code 165 = .ok (.bipush 10, 2) := by decide +kernel
theorem d_UF_over_167 : decode prog_1_method_17_code 167 = .ok (.iload 5, 2) := by decide +kernel
theorem d_UF_over_169 : decode prog_1_method_17_code 169 = .ok (.imul, 1) := by decide +kernel
theorem d_UF_over_170 : decode prog_1_method_17_code 170 = .ok (.iload 6, 2) := by decide +kernel
theorem d_UF_over_172 : decode prog_1_method_17_code 172 = .ok (.iadd, 1) := by decide +kernel
theorem d_UF_over_173 : decode prog_1_method_17_code 173 = .ok (.istore 4, 2) := by decide +kernel
theorem d_UF_over_175 : decode prog_1_method_17_code 175 = .ok (.iinc 6 1, 3) := by decide +kernel
theorem d_UF_over_178 : decode prog_1_method_17_code 178 = .ok (.goto (-115), 3) := by decide +kernel
theorem d_UF_over_181 : decode prog_1_method_17_code 181 = .ok (.iinc 5 1, 3) := by decide +kernel
theorem d_UF_over_184 : decode prog_1_method_17_code 184 = .ok (.goto (-136), 3) := by decide +kernel
theorem d_UF_over_187 : decode prog_1_method_17_code 187 = .ok (.iload_n 2, 1) := by decide +kernel
theorem d_UF_over_188 : decode prog_1_method_17_code 188 = .ok (.ifCond .ne 8, 3) := by decide +kernel
theorem d_UF_over_191 : decode prog_1_method_17_code 191 = .ok (.iload 4, 2) := by decide +kernel
theorem d_UF_over_193 : decode prog_1_method_17_code 193 = .ok (.goto 4, 3) := by decide +kernel
theorem d_UF_over_196 : decode prog_1_method_17_code 196 = .ok (.iload_n 3, 1) := by decide +kernel
theorem d_UF_over_197 : decode prog_1_method_17_code 197 = .ok (.ireturn, 1) := by decide +kernel
def p_UF_over_175 (Q : Int32 → AH → Prop) (K48 : Int32 → Int32 → Int32 → Int32 → Int32 → AH → Prop) (K63 : Int32 → Int32 → Int32 → Int32 → Int32 → Int32 → AH → Prop) (x1 : Int32) (x2 : Int32) (x3 : Int32) (x4 : Int32) (x5 : Int32) (x6 : Int32) (h : AH) : Prop := K63 x1 x2 x3 x4 x5 (x6 + 1) h
def p_UF_over_63 (Q : Int32 → AH → Prop) (K48 : Int32 → Int32 → Int32 → Int32 → Int32 → AH → Prop) : Nat → Int32 → Int32 → Int32 → Int32 → Int32 → Int32 → AH → Prop
  | 0 => fun _ _ _ _ _ _ _ => False
  | n + 1 => fun x1 x2 x3 x4 x5 x6 h => let K63 := p_UF_over_63 Q K48 n; (((h.1 5 3) ≤ x6 → K48 x1 x2 x3 x4 (x5 + 1) h) ∧ (¬ (h.1 5 3) ≤ x6 → ((x5 = x6 → p_UF_over_175 Q  K48 K63 x1 x2 x3 x4 x5 x6 h) ∧ (¬ x5 = x6 → inb x5 7 ∧ ((¬ (h.1 7 x5) = 0 → p_UF_ready (fun h2 => inb x5 7 ∧ inb x6 7 ∧ p_Dusk_go (fun h5 => p_Town_downCount (fun r7 h6 => ((r7 ≤ x3 → p_UF_over_175 Q  K48 K63 x1 x2 x3 x4 x5 x6 h6) ∧ (¬ r7 ≤ x3 → p_UF_over_175 Q  K48 K63 x1 x2 r7 ((10 * x5) + x6) x5 x6 h6))) 14 h5) x1 (wI (wI h2 16 x5 ((h2.1 16 x5) - 1)) 16 x6 (((wI h2 16 x5 ((h2.1 16 x5) - 1)).1 16 x6) + 1))) h) ∧ ((h.1 7 x5) = 0 → p_UF_over_175 Q  K48 K63 x1 x2 x3 x4 x5 x6 h))))))
def p_UF_over_48 (Q : Int32 → AH → Prop) : Nat → Int32 → Int32 → Int32 → Int32 → Int32 → AH → Prop
  | 0 => fun _ _ _ _ _ _ => False
  | n + 1 => fun x1 x2 x3 x4 x5 h => let K48 := p_UF_over_48 Q n; (((h.1 5 3) ≤ x5 → ((¬ x2 = 0 → Q x3 h) ∧ (x2 = 0 → Q x4 h))) ∧ (¬ (h.1 5 3) ≤ x5 → ∃ n, p_UF_over_63 Q  K48 n x1 x2 x3 x4 x5 0 h))
def p_UF_over (Q : Int32 → AH → Prop) (x1 : Int32) (x2 : Int32) (h : AH) : Prop := p_UF_isSpan (fun r2 h1 => ((r2 = 0 → Q (-2) h1) ∧ (¬ r2 = 0 → p_UF_within (fun r4 h3 => ((¬ r4 = 0 → p_UF_ready (fun h5 => p_Dusk_go (fun h6 => p_Town_downCount (fun r8 h7 => ∃ n, p_UF_over_48 Q   n x1 x2 r8 (-1) 0 h7) 14 h6) x1 h5) h3) ∧ (r4 = 0 → Q (-2) h3))) x2 0 1 h1))) x1 h
set_option maxRecDepth 20000 in
theorem r_UF_over_175 {G : GG} {d : Nat} {Q : Int32 → AH → Prop} {K48 : Int32 → Int32 → Int32 → Int32 → Int32 → AH → Prop} {K63 : Int32 → Int32 → Int32 → Int32 → Int32 → Int32 → AH → Prop} (k48 : ∀ x1 x2 x3 x4 x5 h, K48 x1 x2 x3 x4 x5 h → Att G T1 m_UF_over (d + 7) 48 [some (.ref 0), some (.int x1), some (.int x2), some (.int x3), some (.int x4), some (.int x5), none, none] [] h 0 0 (iQ Q)) (k63 : ∀ x1 x2 x3 x4 x5 x6 h, K63 x1 x2 x3 x4 x5 x6 h → Att G T1 m_UF_over (d + 7) 63 [some (.ref 0), some (.int x1), some (.int x2), some (.int x3), some (.int x4), some (.int x5), some (.int x6), none] [] h 0 0 (iQ Q)) (x1 : Int32) (x2 : Int32) (x3 : Int32) (x4 : Int32) (x5 : Int32) (x6 : Int32) (h : AH) (H : p_UF_over_175 Q K48 K63 x1 x2 x3 x4 x5 x6 h) : Att G T1 m_UF_over (d + 7) 175 [some (.ref 0), some (.int x1), some (.int x2), some (.int x3), some (.int x4), some (.int x5), some (.int x6), none] [] h 0 0 (iQ Q) := by
  refine A_iinc 1 [some (.ref 0), some (.int x1), some (.int x2), some (.int x3), some (.int x4), some (.int x5), some (.int (x6 + 1)), none] d_UF_over_175 rfl (by decide) (by decide) rfl rfl ?_
  refine A_goto 63 d_UF_over_178 (by decide) ?_
  exact k63 _ _ _ _ _ _ _ H
set_option maxRecDepth 20000 in
theorem r_UF_over_63 {G : GG} {d : Nat} {Q : Int32 → AH → Prop} {K48 : Int32 → Int32 → Int32 → Int32 → Int32 → AH → Prop} (k48 : ∀ x1 x2 x3 x4 x5 h, K48 x1 x2 x3 x4 x5 h → Att G T1 m_UF_over (d + 7) 48 [some (.ref 0), some (.int x1), some (.int x2), some (.int x3), some (.int x4), some (.int x5), none, none] [] h 0 0 (iQ Q)) : ∀ (n : Nat) (x1 : Int32) (x2 : Int32) (x3 : Int32) (x4 : Int32) (x5 : Int32) (x6 : Int32) (h : AH), p_UF_over_63 Q K48 n x1 x2 x3 x4 x5 x6 h → Att G T1 m_UF_over (d + 7) 63 [some (.ref 0), some (.int x1), some (.int x2), some (.int x3), some (.int x4), some (.int x5), some (.int x6), none] [] h 0 0 (iQ Q) := by
  intro n
  induction n with
  | zero => intro x1 x2 x3 x4 x5 x6 h H; exact H.elim
  | succ n k63 =>
    intro x1 x2 x3 x4 x5 x6 h H
    refine A_iload d_UF_over_63 rfl ?_
    refine A_aload_n d_UF_over_65 rfl ?_
    refine A_get (v := .ref 5) d_UF_over_66 (fo_UF_34_11 rfl) (vA_s (by decide)) rfl (by first | rfl | (show Value.int _ = Value.int _; simp [wI, wL, wR, wC, up])) ?_
    refine A_get (v := .int (h.1 5 3)) d_UF_over_69 (fo_UF_80_10 rfl) (vA_s (by decide)) rfl (by first | rfl | (show Value.int _ = Value.int _; simp [wI, wL, wR, wC, up])) ?_
    refine A_icmp_ge 181 d_UF_over_72 (by decide) (fun z => ?_) (fun z => ?_)
    · have H := H.1 z
      refine A_iinc 1 [some (.ref 0), some (.int x1), some (.int x2), some (.int x3), some (.int x4), some (.int (x5 + 1)), some (.int x6), none] d_UF_over_181 rfl (by decide) (by decide) rfl rfl ?_
      refine A_goto 48 d_UF_over_184 (by decide) ?_
      refine A_sub (L' := [some (.ref 0), some (.int x1), some (.int x2), some (.int x3), some (.int x4), some (.int (x5 + 1)), none, none]) ⟨rfl, rfl, rfl, rfl, rfl, rfl, trivial⟩ ?_
      exact k48 _ _ _ _ _ _ H
    · have H := H.2 z
      refine A_iload d_UF_over_75 rfl ?_
      refine A_iload d_UF_over_77 rfl ?_
      refine A_icmp_eq 175 d_UF_over_79 (by decide) (fun z => ?_) (fun z => ?_)
      · have H := H.1 z
        exact r_UF_over_175  k48 k63 _ _ _ _ _ _ _ H
      · have H := H.2 z
        refine A_aload_n d_UF_over_82 rfl ?_
        refine A_get (v := .ref 5) d_UF_over_83 (fo_UF_34_11 rfl) (vA_s (by decide)) rfl (by first | rfl | (show Value.int _ = Value.int _; simp [wI, wL, wR, wC, up])) ?_
        refine A_get (v := .ref 7) d_UF_over_86 (fo_UF_124_10 rfl) (vA_s (by decide)) rfl (by first | rfl | (show Value.int _ = Value.int _; simp [wI, wL, wR, wC, up])) ?_
        refine A_iload d_UF_over_89 rfl ?_
        obtain ⟨c1, H⟩ := H
        refine A_ialdv (n := 7) (v := (h.1 7 x5)) d_UF_over_91 (vA_s (by decide)) rfl c1 rfl ?_
        refine A_if_ne 98 d_UF_over_92 (by decide) (fun z => ?_) (fun z => ?_)
        · have H := H.1 z
          refine A_aload_n d_UF_over_98 rfl ?_
          refine A_cV [.ref 0] [] (ct_UF_110 rfl) d_UF_over_99 rfl rfl (by decide) (Nat.le_of_ble_eq_true rfl) (rcA_o (c := 11) rfl (vA_s (by decide)) rfl (by decide) rfl) (ok_UF_ready (d := d + 3) H) (fun h2 H => ?_)
          refine A_aload_n d_UF_over_102 rfl ?_
          refine A_get (v := .ref 13) d_UF_over_103 (fo_UF_44_11 rfl) (vA_s (by decide)) rfl (by first | rfl | (show Value.int _ = Value.int _; simp [wI, wL, wR, wC, up])) ?_
          refine A_get (v := .ref 14) d_UF_over_106 (fo_UF_149_2 rfl) (vA_s (by decide)) rfl (by first | rfl | (show Value.int _ = Value.int _; simp [wI, wL, wR, wC, up])) ?_
          refine A_get (v := .ref 16) d_UF_over_109 (fo_UF_124_10 rfl) (vA_s (by decide)) rfl (by first | rfl | (show Value.int _ = Value.int _; simp [wI, wL, wR, wC, up])) ?_
          refine A_iload d_UF_over_112 rfl ?_
          refine A_dup2 rfl rfl d_UF_over_114 ?_
          obtain ⟨c3, H⟩ := H
          refine A_ialdv (n := 7) (v := (h2.1 16 x5)) d_UF_over_115 (vA_s (by decide)) rfl c3 rfl ?_
          refine A_iconst 1 (by decide) d_UF_over_116 ?_
          refine A_isub d_UF_over_117 ?_
          refine A_iast (n := 7) d_UF_over_118 (vA_s (by decide)) rfl c3 ?_
          refine A_aload_n d_UF_over_119 rfl ?_
          refine A_get (v := .ref 13) d_UF_over_120 (fo_UF_44_11 rfl) (vA_s (by decide)) rfl (by first | rfl | (show Value.int _ = Value.int _; simp [wI, wL, wR, wC, up])) ?_
          refine A_get (v := .ref 14) d_UF_over_123 (fo_UF_149_2 rfl) (vA_s (by decide)) rfl (by first | rfl | (show Value.int _ = Value.int _; simp [wI, wL, wR, wC, up])) ?_
          refine A_get (v := .ref 16) d_UF_over_126 (fo_UF_124_10 rfl) (vA_s (by decide)) rfl (by first | rfl | (show Value.int _ = Value.int _; simp [wI, wL, wR, wC, up])) ?_
          refine A_iload d_UF_over_129 rfl ?_
          refine A_dup2 rfl rfl d_UF_over_131 ?_
          obtain ⟨c4, H⟩ := H
          refine A_ialdv (n := 7) (v := ((wI h2 16 x5 ((h2.1 16 x5) - 1)).1 16 x6)) d_UF_over_132 (vA_s (by decide)) rfl c4 (by first | rfl | simp [wI, wL, wR, wC, up]) ?_
          refine A_iconst 1 (by decide) d_UF_over_133 ?_
          refine A_iadd d_UF_over_134 ?_
          refine A_iast (n := 7) d_UF_over_135 (vA_s (by decide)) rfl c4 ?_
          refine A_aload_n d_UF_over_136 rfl ?_
          refine A_get (v := .ref 13) d_UF_over_137 (fo_UF_44_11 rfl) (vA_s (by decide)) rfl (by first | rfl | (show Value.int _ = Value.int _; simp [wI, wL, wR, wC, up])) ?_
          refine A_iload_n d_UF_over_140 rfl ?_
          refine A_cV [.ref 13, .int x1] [] (ct_UF_146 rfl) d_UF_over_141 rfl rfl (by decide) (Nat.le_of_ble_eq_true rfl) (rcA_o (c := 2) rfl (vA_s (by decide)) rfl (by decide) rfl) (ok_Dusk_go (d := d) H) (fun h5 H => ?_)
          refine A_aload_n d_UF_over_144 rfl ?_
          refine A_get (v := .ref 13) d_UF_over_145 (fo_UF_44_11 rfl) (vA_s (by decide)) rfl (by first | rfl | (show Value.int _ = Value.int _; simp [wI, wL, wR, wC, up])) ?_
          refine A_get (v := .ref 14) d_UF_over_148 (fo_UF_149_2 rfl) (vA_s (by decide)) rfl (by first | rfl | (show Value.int _ = Value.int _; simp [wI, wL, wR, wC, up])) ?_
          refine A_cI [.ref 14] [] (ct_UF_184 rfl) d_UF_over_151 rfl rfl (by decide) (Nat.le_of_ble_eq_true rfl) (rcA_o (c := 10) rfl (vA_s (by decide)) rfl (by decide) rfl) (ok_Town_downCount (d := d + 4) H) (fun r7 h6 H => ?_)
          refine A_istore [some (.ref 0), some (.int x1), some (.int x2), some (.int x3), some (.int x4), some (.int x5), some (.int x6), some (.int r7)] d_UF_over_154 (by decide) rfl rfl ?_
          refine A_iload d_UF_over_156 rfl ?_
          refine A_iload_n d_UF_over_158 rfl ?_
          refine A_icmp_le 175 d_UF_over_159 (by decide) (fun z => ?_) (fun z => ?_)
          · have H := H.1 z
            refine A_sub (L' := [some (.ref 0), some (.int x1), some (.int x2), some (.int x3), some (.int x4), some (.int x5), some (.int x6), none]) ⟨rfl, rfl, rfl, rfl, rfl, rfl, rfl, trivial⟩ ?_
            exact r_UF_over_175  k48 k63 _ _ _ _ _ _ _ H
          · have H := H.2 z
            refine A_iload d_UF_over_162 rfl ?_
            refine A_istore_n [some (.ref 0), some (.int x1), some (.int x2), some (.int r7), some (.int x4), some (.int x5), some (.int x6), some (.int r7)] d_UF_over_164 (by decide) rfl rfl ?_
            refine A_bipush 10 (by decide) d_UF_over_165 ?_
            refine A_iload d_UF_over_167 rfl ?_
            refine A_imul d_UF_over_169 ?_
            refine A_iload d_UF_over_170 rfl ?_
            refine A_iadd d_UF_over_172 ?_
            refine A_istore [some (.ref 0), some (.int x1), some (.int x2), some (.int r7), some (.int ((10 * x5) + x6)), some (.int x5), some (.int x6), some (.int r7)] d_UF_over_173 (by decide) rfl rfl ?_
            refine A_sub (L' := [some (.ref 0), some (.int x1), some (.int x2), some (.int r7), some (.int ((10 * x5) + x6)), some (.int x5), some (.int x6), none]) ⟨rfl, rfl, rfl, rfl, rfl, rfl, rfl, trivial⟩ ?_
            exact r_UF_over_175  k48 k63 _ _ _ _ _ _ _ H
        · have H := H.2 z
          refine A_goto 175 d_UF_over_95 (by decide) ?_
          exact r_UF_over_175  k48 k63 _ _ _ _ _ _ _ H
set_option maxRecDepth 20000 in
theorem r_UF_over_48 {G : GG} {d : Nat} {Q : Int32 → AH → Prop} : ∀ (n : Nat) (x1 : Int32) (x2 : Int32) (x3 : Int32) (x4 : Int32) (x5 : Int32) (h : AH), p_UF_over_48 Q n x1 x2 x3 x4 x5 h → Att G T1 m_UF_over (d + 7) 48 [some (.ref 0), some (.int x1), some (.int x2), some (.int x3), some (.int x4), some (.int x5), none, none] [] h 0 0 (iQ Q) := by
  intro n
  induction n with
  | zero => intro x1 x2 x3 x4 x5 h H; exact H.elim
  | succ n k48 =>
    intro x1 x2 x3 x4 x5 h H
    refine A_iload d_UF_over_48 rfl ?_
    refine A_aload_n d_UF_over_50 rfl ?_
    refine A_get (v := .ref 5) d_UF_over_51 (fo_UF_34_11 rfl) (vA_s (by decide)) rfl (by first | rfl | (show Value.int _ = Value.int _; simp [wI, wL, wR, wC, up])) ?_
    refine A_get (v := .int (h.1 5 3)) d_UF_over_54 (fo_UF_80_10 rfl) (vA_s (by decide)) rfl (by first | rfl | (show Value.int _ = Value.int _; simp [wI, wL, wR, wC, up])) ?_
    refine A_icmp_ge 187 d_UF_over_57 (by decide) (fun z => ?_) (fun z => ?_)
    · have H := H.1 z
      refine A_iload_n d_UF_over_187 rfl ?_
      refine A_if_ne 196 d_UF_over_188 (by decide) (fun z => ?_) (fun z => ?_)
      · have H := H.1 z
        refine A_iload_n d_UF_over_196 rfl ?_
        exact A_iret d_UF_over_197 rfl rfl H
      · have H := H.2 z
        refine A_iload d_UF_over_191 rfl ?_
        refine A_goto 197 d_UF_over_193 (by decide) ?_
        exact A_iret d_UF_over_197 rfl rfl H
    · have H := H.2 z
      refine A_iconst 0 (by decide) d_UF_over_60 ?_
      refine A_istore [some (.ref 0), some (.int x1), some (.int x2), some (.int x3), some (.int x4), some (.int x5), some (.int 0), none] d_UF_over_61 (by decide) rfl rfl ?_
      obtain ⟨n9, H⟩ := H
      exact r_UF_over_63  k48 n9 _ _ _ _ _ _ _ H
set_option maxRecDepth 20000 in
theorem r_UF_over_0 {G : GG} {d : Nat} {Q : Int32 → AH → Prop} (x1 : Int32) (x2 : Int32) (h : AH) (H : p_UF_over Q x1 x2 h) : Att G T1 m_UF_over (d + 7) 0 [some (.ref 0), some (.int x1), some (.int x2), none, none, none, none, none] [] h 0 0 (iQ Q) := by
  refine A_iload_n d_UF_over_0 rfl ?_
  refine A_cI [.int x1] [] (ct_UF_143 rfl) d_UF_over_1 rfl rfl (by decide) (Nat.le_of_ble_eq_true rfl) trivial (ok_UF_isSpan (d := d + 5) H) (fun r2 h1 H => ?_)
  refine A_if_eq 16 d_UF_over_4 (by decide) (fun z => ?_) (fun z => ?_)
  · have H := H.1 z
    refine A_bipush (-2) (by decide) d_UF_over_16 ?_
    exact A_iret d_UF_over_18 rfl rfl H
  · have H := H.2 z
    refine A_iload_n d_UF_over_7 rfl ?_
    refine A_iconst 0 (by decide) d_UF_over_8 ?_
    refine A_iconst 1 (by decide) d_UF_over_9 ?_
    refine A_cI [.int x2, .int 0, .int 1] [] (ct_UF_95 rfl) d_UF_over_10 rfl rfl (by decide) (Nat.le_of_ble_eq_true rfl) trivial (ok_UF_within (d := d + 6) H) (fun r4 h3 H => ?_)
    refine A_if_ne 19 d_UF_over_13 (by decide) (fun z => ?_) (fun z => ?_)
    · have H := H.1 z
      refine A_aload_n d_UF_over_19 rfl ?_
      refine A_cV [.ref 0] [] (ct_UF_110 rfl) d_UF_over_20 rfl rfl (by decide) (Nat.le_of_ble_eq_true rfl) (rcA_o (c := 11) rfl (vA_s (by decide)) rfl (by decide) rfl) (ok_UF_ready (d := d + 3) H) (fun h5 H => ?_)
      refine A_aload_n d_UF_over_23 rfl ?_
      refine A_get (v := .ref 13) d_UF_over_24 (fo_UF_44_11 rfl) (vA_s (by decide)) rfl (by first | rfl | (show Value.int _ = Value.int _; simp [wI, wL, wR, wC, up])) ?_
      refine A_iload_n d_UF_over_27 rfl ?_
      refine A_cV [.ref 13, .int x1] [] (ct_UF_146 rfl) d_UF_over_28 rfl rfl (by decide) (Nat.le_of_ble_eq_true rfl) (rcA_o (c := 2) rfl (vA_s (by decide)) rfl (by decide) rfl) (ok_Dusk_go (d := d) H) (fun h6 H => ?_)
      refine A_aload_n d_UF_over_31 rfl ?_
      refine A_get (v := .ref 13) d_UF_over_32 (fo_UF_44_11 rfl) (vA_s (by decide)) rfl (by first | rfl | (show Value.int _ = Value.int _; simp [wI, wL, wR, wC, up])) ?_
      refine A_get (v := .ref 14) d_UF_over_35 (fo_UF_149_2 rfl) (vA_s (by decide)) rfl (by first | rfl | (show Value.int _ = Value.int _; simp [wI, wL, wR, wC, up])) ?_
      refine A_cI [.ref 14] [] (ct_UF_184 rfl) d_UF_over_38 rfl rfl (by decide) (Nat.le_of_ble_eq_true rfl) (rcA_o (c := 10) rfl (vA_s (by decide)) rfl (by decide) rfl) (ok_Town_downCount (d := d + 4) H) (fun r8 h7 H => ?_)
      refine A_istore_n [some (.ref 0), some (.int x1), some (.int x2), some (.int r8), none, none, none, none] d_UF_over_41 (by decide) rfl rfl ?_
      refine A_iconst (-1) (by decide) d_UF_over_42 ?_
      refine A_istore [some (.ref 0), some (.int x1), some (.int x2), some (.int r8), some (.int (-1)), none, none, none] d_UF_over_43 (by decide) rfl rfl ?_
      refine A_iconst 0 (by decide) d_UF_over_45 ?_
      refine A_istore [some (.ref 0), some (.int x1), some (.int x2), some (.int r8), some (.int (-1)), some (.int 0), none, none] d_UF_over_46 (by decide) rfl rfl ?_
      obtain ⟨n9, H⟩ := H
      exact r_UF_over_48   n9 _ _ _ _ _ _ H
    · have H := H.2 z
      refine A_bipush (-2) (by decide) d_UF_over_16 ?_
      exact A_iret d_UF_over_18 rfl rfl H
set_option maxRecDepth 20000 in
theorem ok_UF_over {G : GG} {d : Nat} {Q : Int32 → AH → Prop} {x1 : Int32} {x2 : Int32} {h : AH} (H : p_UF_over Q x1 x2 h) : WP G T1 m_UF_over (d + 7) [.ref 0, .int x1, .int x2] h 0 0 (iQ Q) := by
  exact WP.enter 5 (by decide) rfl rfl (r_UF_over_0 x1 x2 h H)
theorem d_UF_link_0 : decode prog_1_method_18_code 0 = .ok (.iload_n 1, 1) := by decide +kernel
theorem d_UF_link_1 : decode prog_1_method_18_code 1 = .ok (.invokestatic 143, 3) := by decide +kernel
theorem d_UF_link_4 : decode prog_1_method_18_code 4 = .ok (.ifCond .eq 12, 3) := by decide +kernel
theorem d_UF_link_7 : decode prog_1_method_18_code 7 = .ok (.iload_n 2, 1) := by decide +kernel
theorem d_UF_link_8 : decode prog_1_method_18_code 8 = .ok (.iconst 0, 1) := by decide +kernel
theorem d_UF_link_9 : decode prog_1_method_18_code 9 = .ok (.iconst 1, 1) := by decide +kernel
theorem d_UF_link_10 : decode prog_1_method_18_code 10 = .ok (.invokestatic 95, 3) := by decide +kernel
theorem d_UF_link_13 : decode prog_1_method_18_code 13 = .ok (.ifCond .ne 6, 3) := by decide +kernel
theorem d_UF_link_16 : decode prog_1_method_18_code 16 = .ok (.bipush (-2), 2) := by decide +kernel
theorem d_UF_link_18 : decode prog_1_method_18_code 18 = .ok (.ireturn, 1) := by decide +kernel
theorem d_UF_link_19 : decode prog_1_method_18_code 19 = .ok (.aload_n 0, 1) := by decide +kernel
theorem d_UF_link_20 : decode prog_1_method_18_code 20 = .ok (.invokevirtual 110, 3) := by decide +kernel
theorem d_UF_link_23 : decode prog_1_method_18_code 23 = .ok (.aload_n 0, 1) := by decide +kernel
theorem d_UF_link_24 : decode prog_1_method_18_code 24 = .ok (.getfield 44, 3) := by decide +kernel
theorem d_UF_link_27 : decode prog_1_method_18_code 27 = .ok (.iload_n 1, 1) := by decide +kernel
theorem d_UF_link_28 : decode prog_1_method_18_code 28 = .ok (.invokevirtual 146, 3) := by decide +kernel
theorem d_UF_link_31 : decode prog_1_method_18_code 31 = .ok (.aload_n 0, 1) := by decide +kernel
theorem d_UF_link_32 : decode prog_1_method_18_code 32 = .ok (.getfield 44, 3) := by decide +kernel
theorem d_UF_link_35 : decode prog_1_method_18_code 35 = .ok (.getfield 149, 3) := by decide +kernel
theorem d_UF_link_38 : decode prog_1_method_18_code 38 = .ok (.invokevirtual 184, 3) := by decide +kernel
theorem d_UF_link_41 : decode prog_1_method_18_code 41 = .ok (.istore_n 3, 1) := by decide +kernel
theorem d_UF_link_42 : decode prog_1_method_18_code 42 = .ok (.iconst (-1), 1) := by decide +kernel
theorem d_UF_link_43 : decode prog_1_method_18_code 43 = .ok (.istore 4, 2) := by decide +kernel
theorem d_UF_link_45 : decode prog_1_method_18_code 45 = .ok (.iconst 0, 1) := by decide +kernel
theorem d_UF_link_46 : decode prog_1_method_18_code 46 = .ok (.istore 5, 2) := by decide +kernel
theorem d_UF_link_48 : decode prog_1_method_18_code 48 = .ok (.iload 5, 2) := by decide +kernel
theorem d_UF_link_50 : decode prog_1_method_18_code 50 = .ok (.aload_n 0, 1) := by decide +kernel
theorem d_UF_link_51 : decode prog_1_method_18_code 51 = .ok (.getfield 34, 3) := by decide +kernel
theorem d_UF_link_54 : decode prog_1_method_18_code 54 = .ok (.getfield 80, 3) := by decide +kernel
theorem d_UF_link_57 : decode prog_1_method_18_code 57 = .ok (.if_icmp .ge 90, 3) := by decide +kernel
theorem d_UF_link_60 : decode prog_1_method_18_code 60 = .ok (.iload 5, 2) := by decide +kernel
theorem d_UF_link_62 : decode prog_1_method_18_code 62 = .ok (.iconst 1, 1) := by decide +kernel
theorem d_UF_link_63 : decode prog_1_method_18_code 63 = .ok (.iadd, 1) := by decide +kernel
theorem d_UF_link_64 : decode prog_1_method_18_code 64 = .ok (.istore 6, 2) := by decide +kernel
theorem d_UF_link_66 : decode prog_1_method_18_code 66 = .ok (.iload 6, 2) := by decide +kernel
theorem d_UF_link_68 : decode prog_1_method_18_code 68 = .ok (.aload_n 0, 1) := by decide +kernel
theorem d_UF_link_69 : decode prog_1_method_18_code 69 = .ok (.getfield 34, 3) := by decide +kernel
theorem d_UF_link_72 : decode prog_1_method_18_code 72 = .ok (.getfield 80, 3) := by decide +kernel
theorem d_UF_link_75 : decode prog_1_method_18_code 75 = .ok (.if_icmp .ge 66, 3) := by decide +kernel
theorem d_UF_link_78 : decode prog_1_method_18_code 78 = .ok (.aload_n 0, 1) := by decide +kernel
theorem d_UF_link_79 : decode prog_1_method_18_code 79 = .ok (.invokevirtual 110, 3) := by decide +kernel
theorem d_UF_link_82 : decode prog_1_method_18_code 82 = .ok (.aload_n 0, 1) := by decide +kernel
theorem d_UF_link_83 : decode prog_1_method_18_code 83 = .ok (.getfield 44, 3) := by decide +kernel
theorem d_UF_link_86 : decode prog_1_method_18_code 86 = .ok (.getfield 149, 3) := by decide +kernel
theorem d_UF_link_89 : decode prog_1_method_18_code 89 = .ok (.iload 5, 2) := by decide +kernel
theorem d_UF_link_91 : decode prog_1_method_18_code 91 = .ok (.iload 6, 2) := by decide +kernel
theorem d_UF_link_93 : decode prog_1_method_18_code 93 = .ok (.invokevirtual 130, 3) := by decide +kernel
theorem d_UF_link_96 : decode prog_1_method_18_code 96 = .ok (.aload_n 0, 1) := by decide +kernel
theorem d_UF_link_97 : decode prog_1_method_18_code 97 = .ok (.getfield 44, 3) := by decide +kernel
theorem d_UF_link_100 : decode prog_1_method_18_code 100 = .ok (.iload_n 1, 1) := by decide +kernel
theorem d_UF_link_101 : decode prog_1_method_18_code 101 = .ok (.invokevirtual 146, 3) := by decide +kernel
theorem d_UF_link_104 : decode prog_1_method_18_code 104 = .ok (.aload_n 0, 1) := by decide +kernel
theorem d_UF_link_105 : decode prog_1_method_18_code 105 = .ok (.getfield 44, 3) := by decide +kernel
theorem d_UF_link_108 : decode prog_1_method_18_code 108 = .ok (.getfield 149, 3) := by decide +kernel
theorem d_UF_link_111 : decode prog_1_method_18_code 111 = .ok (.invokevirtual 184, 3) := by decide +kernel
theorem d_UF_link_114 : decode prog_1_method_18_code 114 = .ok (.istore 7, 2) := by decide +kernel
theorem d_UF_link_116 : decode prog_1_method_18_code 116 = .ok (.iload 7, 2) := by decide +kernel
theorem d_UF_link_118 : decode prog_1_method_18_code 118 = .ok (.iload_n 3, 1) := by decide +kernel
theorem d_UF_link_119 : decode prog_1_method_18_code 119 = .ok (.if_icmp .le 16, 3) := by decide +kernel
theorem d_UF_link_122 : decode prog_1_method_18_code 122 = .ok (.iload 7, 2) := by decide +kernel
theorem d_UF_link_124 : decode prog_1_method_18_code 124 = .ok (.istore_n 3, 1) := by decide +kernel
theorem d_UF_link_125 : decode prog_1_method_18_code 125 = .ok (.bipush 10, 2) := by decide +kernel
theorem d_UF_link_127 : decode prog_1_method_18_code 127 = .ok (.iload 5, 2) := by decide +kernel
theorem d_UF_link_129 : decode prog_1_method_18_code 129 = .ok (.imul, 1) := by decide +kernel
theorem d_UF_link_130 : decode prog_1_method_18_code 130 = .ok (.iload 6, 2) := by decide +kernel
theorem d_UF_link_132 : decode prog_1_method_18_code 132 = .ok (.iadd, 1) := by decide +kernel
theorem d_UF_link_133 : decode prog_1_method_18_code 133 = .ok (.istore 4, 2) := by decide +kernel
theorem d_UF_link_135 : decode prog_1_method_18_code 135 = .ok (.iinc 6 1, 3) := by decide +kernel
theorem d_UF_link_138 : decode prog_1_method_18_code 138 = .ok (.goto (-72), 3) := by decide +kernel
theorem d_UF_link_141 : decode prog_1_method_18_code 141 = .ok (.iinc 5 1, 3) := by decide +kernel
theorem d_UF_link_144 : decode prog_1_method_18_code 144 = .ok (.goto (-96), 3) := by decide +kernel
theorem d_UF_link_147 : decode prog_1_method_18_code 147 = .ok (.iload_n 2, 1) := by decide +kernel
theorem d_UF_link_148 : decode prog_1_method_18_code 148 = .ok (.ifCond .ne 8, 3) := by decide +kernel
theorem d_UF_link_151 : decode prog_1_method_18_code 151 = .ok (.iload 4, 2) := by decide +kernel
theorem d_UF_link_153 : decode prog_1_method_18_code 153 = .ok (.goto 4, 3) := by decide +kernel
theorem d_UF_link_156 : decode prog_1_method_18_code 156 = .ok (.iload_n 3, 1) := by decide +kernel
theorem d_UF_link_157 : decode prog_1_method_18_code 157 = .ok (.ireturn, 1) := by decide +kernel
def p_UF_link_135 (Q : Int32 → AH → Prop) (K48 : Int32 → Int32 → Int32 → Int32 → Int32 → AH → Prop) (K66 : Int32 → Int32 → Int32 → Int32 → Int32 → Int32 → AH → Prop) (x1 : Int32) (x2 : Int32) (x3 : Int32) (x4 : Int32) (x5 : Int32) (x6 : Int32) (h : AH) : Prop := K66 x1 x2 x3 x4 x5 (x6 + 1) h
def p_UF_link_66 (Q : Int32 → AH → Prop) (K48 : Int32 → Int32 → Int32 → Int32 → Int32 → AH → Prop) : Nat → Int32 → Int32 → Int32 → Int32 → Int32 → Int32 → AH → Prop
  | 0 => fun _ _ _ _ _ _ _ => False
  | n + 1 => fun x1 x2 x3 x4 x5 x6 h => let K66 := p_UF_link_66 Q K48 n; (((h.1 5 3) ≤ x6 → K48 x1 x2 x3 x4 (x5 + 1) h) ∧ (¬ (h.1 5 3) ≤ x6 → p_UF_ready (fun h1 => p_Town_join (fun h2 => p_Dusk_go (fun h3 => p_Town_downCount (fun r5 h4 => ((r5 ≤ x3 → p_UF_link_135 Q  K48 K66 x1 x2 x3 x4 x5 x6 h4) ∧ (¬ r5 ≤ x3 → p_UF_link_135 Q  K48 K66 x1 x2 r5 ((10 * x5) + x6) x5 x6 h4))) 14 h3) x1 h2) 14 x5 x6 h1) h))
def p_UF_link_48 (Q : Int32 → AH → Prop) : Nat → Int32 → Int32 → Int32 → Int32 → Int32 → AH → Prop
  | 0 => fun _ _ _ _ _ _ => False
  | n + 1 => fun x1 x2 x3 x4 x5 h => let K48 := p_UF_link_48 Q n; (((h.1 5 3) ≤ x5 → ((¬ x2 = 0 → Q x3 h) ∧ (x2 = 0 → Q x4 h))) ∧ (¬ (h.1 5 3) ≤ x5 → ∃ n, p_UF_link_66 Q  K48 n x1 x2 x3 x4 x5 (x5 + 1) h))
def p_UF_link (Q : Int32 → AH → Prop) (x1 : Int32) (x2 : Int32) (h : AH) : Prop := p_UF_isSpan (fun r2 h1 => ((r2 = 0 → Q (-2) h1) ∧ (¬ r2 = 0 → p_UF_within (fun r4 h3 => ((¬ r4 = 0 → p_UF_ready (fun h5 => p_Dusk_go (fun h6 => p_Town_downCount (fun r8 h7 => ∃ n, p_UF_link_48 Q   n x1 x2 r8 (-1) 0 h7) 14 h6) x1 h5) h3) ∧ (r4 = 0 → Q (-2) h3))) x2 0 1 h1))) x1 h
set_option maxRecDepth 20000 in
theorem r_UF_link_135 {G : GG} {d : Nat} {Q : Int32 → AH → Prop} {K48 : Int32 → Int32 → Int32 → Int32 → Int32 → AH → Prop} {K66 : Int32 → Int32 → Int32 → Int32 → Int32 → Int32 → AH → Prop} (k48 : ∀ x1 x2 x3 x4 x5 h, K48 x1 x2 x3 x4 x5 h → Att G T1 m_UF_link (d + 7) 48 [some (.ref 0), some (.int x1), some (.int x2), some (.int x3), some (.int x4), some (.int x5), none, none] [] h 0 0 (iQ Q)) (k66 : ∀ x1 x2 x3 x4 x5 x6 h, K66 x1 x2 x3 x4 x5 x6 h → Att G T1 m_UF_link (d + 7) 66 [some (.ref 0), some (.int x1), some (.int x2), some (.int x3), some (.int x4), some (.int x5), some (.int x6), none] [] h 0 0 (iQ Q)) (x1 : Int32) (x2 : Int32) (x3 : Int32) (x4 : Int32) (x5 : Int32) (x6 : Int32) (h : AH) (H : p_UF_link_135 Q K48 K66 x1 x2 x3 x4 x5 x6 h) : Att G T1 m_UF_link (d + 7) 135 [some (.ref 0), some (.int x1), some (.int x2), some (.int x3), some (.int x4), some (.int x5), some (.int x6), none] [] h 0 0 (iQ Q) := by
  refine A_iinc 1 [some (.ref 0), some (.int x1), some (.int x2), some (.int x3), some (.int x4), some (.int x5), some (.int (x6 + 1)), none] d_UF_link_135 rfl (by decide) (by decide) rfl rfl ?_
  refine A_goto 66 d_UF_link_138 (by decide) ?_
  exact k66 _ _ _ _ _ _ _ H
set_option maxRecDepth 20000 in
theorem r_UF_link_66 {G : GG} {d : Nat} {Q : Int32 → AH → Prop} {K48 : Int32 → Int32 → Int32 → Int32 → Int32 → AH → Prop} (k48 : ∀ x1 x2 x3 x4 x5 h, K48 x1 x2 x3 x4 x5 h → Att G T1 m_UF_link (d + 7) 48 [some (.ref 0), some (.int x1), some (.int x2), some (.int x3), some (.int x4), some (.int x5), none, none] [] h 0 0 (iQ Q)) : ∀ (n : Nat) (x1 : Int32) (x2 : Int32) (x3 : Int32) (x4 : Int32) (x5 : Int32) (x6 : Int32) (h : AH), p_UF_link_66 Q K48 n x1 x2 x3 x4 x5 x6 h → Att G T1 m_UF_link (d + 7) 66 [some (.ref 0), some (.int x1), some (.int x2), some (.int x3), some (.int x4), some (.int x5), some (.int x6), none] [] h 0 0 (iQ Q) := by
  intro n
  induction n with
  | zero => intro x1 x2 x3 x4 x5 x6 h H; exact H.elim
  | succ n k66 =>
    intro x1 x2 x3 x4 x5 x6 h H
    refine A_iload d_UF_link_66 rfl ?_
    refine A_aload_n d_UF_link_68 rfl ?_
    refine A_get (v := .ref 5) d_UF_link_69 (fo_UF_34_11 rfl) (vA_s (by decide)) rfl (by first | rfl | (show Value.int _ = Value.int _; simp [wI, wL, wR, wC, up])) ?_
    refine A_get (v := .int (h.1 5 3)) d_UF_link_72 (fo_UF_80_10 rfl) (vA_s (by decide)) rfl (by first | rfl | (show Value.int _ = Value.int _; simp [wI, wL, wR, wC, up])) ?_
    refine A_icmp_ge 141 d_UF_link_75 (by decide) (fun z => ?_) (fun z => ?_)
    · have H := H.1 z
      refine A_iinc 1 [some (.ref 0), some (.int x1), some (.int x2), some (.int x3), some (.int x4), some (.int (x5 + 1)), some (.int x6), none] d_UF_link_141 rfl (by decide) (by decide) rfl rfl ?_
      refine A_goto 48 d_UF_link_144 (by decide) ?_
      refine A_sub (L' := [some (.ref 0), some (.int x1), some (.int x2), some (.int x3), some (.int x4), some (.int (x5 + 1)), none, none]) ⟨rfl, rfl, rfl, rfl, rfl, rfl, trivial⟩ ?_
      exact k48 _ _ _ _ _ _ H
    · have H := H.2 z
      refine A_aload_n d_UF_link_78 rfl ?_
      refine A_cV [.ref 0] [] (ct_UF_110 rfl) d_UF_link_79 rfl rfl (by decide) (Nat.le_of_ble_eq_true rfl) (rcA_o (c := 11) rfl (vA_s (by decide)) rfl (by decide) rfl) (ok_UF_ready (d := d + 3) H) (fun h1 H => ?_)
      refine A_aload_n d_UF_link_82 rfl ?_
      refine A_get (v := .ref 13) d_UF_link_83 (fo_UF_44_11 rfl) (vA_s (by decide)) rfl (by first | rfl | (show Value.int _ = Value.int _; simp [wI, wL, wR, wC, up])) ?_
      refine A_get (v := .ref 14) d_UF_link_86 (fo_UF_149_2 rfl) (vA_s (by decide)) rfl (by first | rfl | (show Value.int _ = Value.int _; simp [wI, wL, wR, wC, up])) ?_
      refine A_iload d_UF_link_89 rfl ?_
      refine A_iload d_UF_link_91 rfl ?_
      refine A_cV [.ref 14, .int x5, .int x6] [] (ct_UF_130 rfl) d_UF_link_93 rfl rfl (by decide) (Nat.le_of_ble_eq_true rfl) (rcA_o (c := 10) rfl (vA_s (by decide)) rfl (by decide) rfl) (ok_Town_join (d := d + 4) H) (fun h2 H => ?_)
      refine A_aload_n d_UF_link_96 rfl ?_
      refine A_get (v := .ref 13) d_UF_link_97 (fo_UF_44_11 rfl) (vA_s (by decide)) rfl (by first | rfl | (show Value.int _ = Value.int _; simp [wI, wL, wR, wC, up])) ?_
      refine A_iload_n d_UF_link_100 rfl ?_
      refine A_cV [.ref 13, .int x1] [] (ct_UF_146 rfl) d_UF_link_101 rfl rfl (by decide) (Nat.le_of_ble_eq_true rfl) (rcA_o (c := 2) rfl (vA_s (by decide)) rfl (by decide) rfl) (ok_Dusk_go (d := d) H) (fun h3 H => ?_)
      refine A_aload_n d_UF_link_104 rfl ?_
      refine A_get (v := .ref 13) d_UF_link_105 (fo_UF_44_11 rfl) (vA_s (by decide)) rfl (by first | rfl | (show Value.int _ = Value.int _; simp [wI, wL, wR, wC, up])) ?_
      refine A_get (v := .ref 14) d_UF_link_108 (fo_UF_149_2 rfl) (vA_s (by decide)) rfl (by first | rfl | (show Value.int _ = Value.int _; simp [wI, wL, wR, wC, up])) ?_
      refine A_cI [.ref 14] [] (ct_UF_184 rfl) d_UF_link_111 rfl rfl (by decide) (Nat.le_of_ble_eq_true rfl) (rcA_o (c := 10) rfl (vA_s (by decide)) rfl (by decide) rfl) (ok_Town_downCount (d := d + 4) H) (fun r5 h4 H => ?_)
      refine A_istore [some (.ref 0), some (.int x1), some (.int x2), some (.int x3), some (.int x4), some (.int x5), some (.int x6), some (.int r5)] d_UF_link_114 (by decide) rfl rfl ?_
      refine A_iload d_UF_link_116 rfl ?_
      refine A_iload_n d_UF_link_118 rfl ?_
      refine A_icmp_le 135 d_UF_link_119 (by decide) (fun z => ?_) (fun z => ?_)
      · have H := H.1 z
        refine A_sub (L' := [some (.ref 0), some (.int x1), some (.int x2), some (.int x3), some (.int x4), some (.int x5), some (.int x6), none]) ⟨rfl, rfl, rfl, rfl, rfl, rfl, rfl, trivial⟩ ?_
        exact r_UF_link_135  k48 k66 _ _ _ _ _ _ _ H
      · have H := H.2 z
        refine A_iload d_UF_link_122 rfl ?_
        refine A_istore_n [some (.ref 0), some (.int x1), some (.int x2), some (.int r5), some (.int x4), some (.int x5), some (.int x6), some (.int r5)] d_UF_link_124 (by decide) rfl rfl ?_
        refine A_bipush 10 (by decide) d_UF_link_125 ?_
        refine A_iload d_UF_link_127 rfl ?_
        refine A_imul d_UF_link_129 ?_
        refine A_iload d_UF_link_130 rfl ?_
        refine A_iadd d_UF_link_132 ?_
        refine A_istore [some (.ref 0), some (.int x1), some (.int x2), some (.int r5), some (.int ((10 * x5) + x6)), some (.int x5), some (.int x6), some (.int r5)] d_UF_link_133 (by decide) rfl rfl ?_
        refine A_sub (L' := [some (.ref 0), some (.int x1), some (.int x2), some (.int r5), some (.int ((10 * x5) + x6)), some (.int x5), some (.int x6), none]) ⟨rfl, rfl, rfl, rfl, rfl, rfl, rfl, trivial⟩ ?_
        exact r_UF_link_135  k48 k66 _ _ _ _ _ _ _ H
set_option maxRecDepth 20000 in
theorem r_UF_link_48 {G : GG} {d : Nat} {Q : Int32 → AH → Prop} : ∀ (n : Nat) (x1 : Int32) (x2 : Int32) (x3 : Int32) (x4 : Int32) (x5 : Int32) (h : AH), p_UF_link_48 Q n x1 x2 x3 x4 x5 h → Att G T1 m_UF_link (d + 7) 48 [some (.ref 0), some (.int x1), some (.int x2), some (.int x3), some (.int x4), some (.int x5), none, none] [] h 0 0 (iQ Q) := by
  intro n
  induction n with
  | zero => intro x1 x2 x3 x4 x5 h H; exact H.elim
  | succ n k48 =>
    intro x1 x2 x3 x4 x5 h H
    refine A_iload d_UF_link_48 rfl ?_
    refine A_aload_n d_UF_link_50 rfl ?_
    refine A_get (v := .ref 5) d_UF_link_51 (fo_UF_34_11 rfl) (vA_s (by decide)) rfl (by first | rfl | (show Value.int _ = Value.int _; simp [wI, wL, wR, wC, up])) ?_
    refine A_get (v := .int (h.1 5 3)) d_UF_link_54 (fo_UF_80_10 rfl) (vA_s (by decide)) rfl (by first | rfl | (show Value.int _ = Value.int _; simp [wI, wL, wR, wC, up])) ?_
    refine A_icmp_ge 147 d_UF_link_57 (by decide) (fun z => ?_) (fun z => ?_)
    · have H := H.1 z
      refine A_iload_n d_UF_link_147 rfl ?_
      refine A_if_ne 156 d_UF_link_148 (by decide) (fun z => ?_) (fun z => ?_)
      · have H := H.1 z
        refine A_iload_n d_UF_link_156 rfl ?_
        exact A_iret d_UF_link_157 rfl rfl H
      · have H := H.2 z
        refine A_iload d_UF_link_151 rfl ?_
        refine A_goto 157 d_UF_link_153 (by decide) ?_
        exact A_iret d_UF_link_157 rfl rfl H
    · have H := H.2 z
      refine A_iload d_UF_link_60 rfl ?_
      refine A_iconst 1 (by decide) d_UF_link_62 ?_
      refine A_iadd d_UF_link_63 ?_
      refine A_istore [some (.ref 0), some (.int x1), some (.int x2), some (.int x3), some (.int x4), some (.int x5), some (.int (x5 + 1)), none] d_UF_link_64 (by decide) rfl rfl ?_
      obtain ⟨n9, H⟩ := H
      exact r_UF_link_66  k48 n9 _ _ _ _ _ _ _ H
set_option maxRecDepth 20000 in
theorem r_UF_link_0 {G : GG} {d : Nat} {Q : Int32 → AH → Prop} (x1 : Int32) (x2 : Int32) (h : AH) (H : p_UF_link Q x1 x2 h) : Att G T1 m_UF_link (d + 7) 0 [some (.ref 0), some (.int x1), some (.int x2), none, none, none, none, none] [] h 0 0 (iQ Q) := by
  refine A_iload_n d_UF_link_0 rfl ?_
  refine A_cI [.int x1] [] (ct_UF_143 rfl) d_UF_link_1 rfl rfl (by decide) (Nat.le_of_ble_eq_true rfl) trivial (ok_UF_isSpan (d := d + 5) H) (fun r2 h1 H => ?_)
  refine A_if_eq 16 d_UF_link_4 (by decide) (fun z => ?_) (fun z => ?_)
  · have H := H.1 z
    refine A_bipush (-2) (by decide) d_UF_link_16 ?_
    exact A_iret d_UF_link_18 rfl rfl H
  · have H := H.2 z
    refine A_iload_n d_UF_link_7 rfl ?_
    refine A_iconst 0 (by decide) d_UF_link_8 ?_
    refine A_iconst 1 (by decide) d_UF_link_9 ?_
    refine A_cI [.int x2, .int 0, .int 1] [] (ct_UF_95 rfl) d_UF_link_10 rfl rfl (by decide) (Nat.le_of_ble_eq_true rfl) trivial (ok_UF_within (d := d + 6) H) (fun r4 h3 H => ?_)
    refine A_if_ne 19 d_UF_link_13 (by decide) (fun z => ?_) (fun z => ?_)
    · have H := H.1 z
      refine A_aload_n d_UF_link_19 rfl ?_
      refine A_cV [.ref 0] [] (ct_UF_110 rfl) d_UF_link_20 rfl rfl (by decide) (Nat.le_of_ble_eq_true rfl) (rcA_o (c := 11) rfl (vA_s (by decide)) rfl (by decide) rfl) (ok_UF_ready (d := d + 3) H) (fun h5 H => ?_)
      refine A_aload_n d_UF_link_23 rfl ?_
      refine A_get (v := .ref 13) d_UF_link_24 (fo_UF_44_11 rfl) (vA_s (by decide)) rfl (by first | rfl | (show Value.int _ = Value.int _; simp [wI, wL, wR, wC, up])) ?_
      refine A_iload_n d_UF_link_27 rfl ?_
      refine A_cV [.ref 13, .int x1] [] (ct_UF_146 rfl) d_UF_link_28 rfl rfl (by decide) (Nat.le_of_ble_eq_true rfl) (rcA_o (c := 2) rfl (vA_s (by decide)) rfl (by decide) rfl) (ok_Dusk_go (d := d) H) (fun h6 H => ?_)
      refine A_aload_n d_UF_link_31 rfl ?_
      refine A_get (v := .ref 13) d_UF_link_32 (fo_UF_44_11 rfl) (vA_s (by decide)) rfl (by first | rfl | (show Value.int _ = Value.int _; simp [wI, wL, wR, wC, up])) ?_
      refine A_get (v := .ref 14) d_UF_link_35 (fo_UF_149_2 rfl) (vA_s (by decide)) rfl (by first | rfl | (show Value.int _ = Value.int _; simp [wI, wL, wR, wC, up])) ?_
      refine A_cI [.ref 14] [] (ct_UF_184 rfl) d_UF_link_38 rfl rfl (by decide) (Nat.le_of_ble_eq_true rfl) (rcA_o (c := 10) rfl (vA_s (by decide)) rfl (by decide) rfl) (ok_Town_downCount (d := d + 4) H) (fun r8 h7 H => ?_)
      refine A_istore_n [some (.ref 0), some (.int x1), some (.int x2), some (.int r8), none, none, none, none] d_UF_link_41 (by decide) rfl rfl ?_
      refine A_iconst (-1) (by decide) d_UF_link_42 ?_
      refine A_istore [some (.ref 0), some (.int x1), some (.int x2), some (.int r8), some (.int (-1)), none, none, none] d_UF_link_43 (by decide) rfl rfl ?_
      refine A_iconst 0 (by decide) d_UF_link_45 ?_
      refine A_istore [some (.ref 0), some (.int x1), some (.int x2), some (.int r8), some (.int (-1)), some (.int 0), none, none] d_UF_link_46 (by decide) rfl rfl ?_
      obtain ⟨n9, H⟩ := H
      exact r_UF_link_48   n9 _ _ _ _ _ _ H
    · have H := H.2 z
      refine A_bipush (-2) (by decide) d_UF_link_16 ?_
      exact A_iret d_UF_link_18 rfl rfl H
set_option maxRecDepth 20000 in
theorem ok_UF_link {G : GG} {d : Nat} {Q : Int32 → AH → Prop} {x1 : Int32} {x2 : Int32} {h : AH} (H : p_UF_link Q x1 x2 h) : WP G T1 m_UF_link (d + 7) [.ref 0, .int x1, .int x2] h 0 0 (iQ Q) := by
  exact WP.enter 5 (by decide) rfl rfl (r_UF_link_0 x1 x2 h H)
theorem d_UF_frees_0 : decode prog_1_method_19_code 0 = .ok (.aload_n 0, 1) := by decide +kernel
theorem d_UF_frees_1 : decode prog_1_method_19_code 1 = .ok (.iload_n 1, 1) := by decide +kernel
theorem d_UF_frees_2 : decode prog_1_method_19_code 2 = .ok (.invokevirtual 107, 3) := by decide +kernel
theorem d_UF_frees_5 : decode prog_1_method_19_code 5 = .ok (.ifCond .ne 6, 3) := by decide +kernel
theorem d_UF_frees_8 : decode prog_1_method_19_code 8 = .ok (.bipush (-5), 2) := by decide +kernel
theorem d_UF_frees_10 : decode prog_1_method_19_code 10 = .ok (.ireturn, 1) := by decide +kernel
theorem d_UF_frees_11 : decode prog_1_method_19_code 11 = .ok (.iload_n 2, 1) := by decide +kernel
theorem d_UF_frees_12 : decode prog_1_method_19_code 12 = .ok (.invokestatic 143, 3) := by decide +kernel
theorem d_UF_frees_15 : decode prog_1_method_19_code 15 = .ok (.ifCond .eq 12, 3) := by decide +kernel
theorem d_UF_frees_18 : decode prog_1_method_19_code 18 = .ok (.iload_n 3, 1) := by decide +kernel
theorem d_UF_frees_19 : decode prog_1_method_19_code 19 = .ok (.iconst 0, 1) := by decide +kernel
theorem d_UF_frees_20 : decode prog_1_method_19_code 20 = .ok (.iconst 1, 1) := by decide +kernel
theorem d_UF_frees_21 : decode prog_1_method_19_code 21 = .ok (.invokestatic 95, 3) := by decide +kernel
theorem d_UF_frees_24 : decode prog_1_method_19_code 24 = .ok (.ifCond .ne 6, 3) := by decide +kernel
theorem d_UF_frees_27 : decode prog_1_method_19_code 27 = .ok (.bipush (-7), 2) := by decide +kernel
theorem d_UF_frees_29 : decode prog_1_method_19_code 29 = .ok (.ireturn, 1) := by decide +kernel
theorem d_UF_frees_30 : decode prog_1_method_19_code 30 = .ok (.iconst (-1), 1) := by decide +kernel
theorem d_UF_frees_31 : decode prog_1_method_19_code 31 = .ok (.istore 4, 2) := by decide +kernel
theorem d_UF_frees_33 : decode prog_1_method_19_code 33 = .ok (.iconst 0, 1) := by decide +kernel
theorem d_UF_frees_34 : decode prog_1_method_19_code 34 = .ok (.istore 5, 2) := by decide +kernel
theorem d_UF_frees_36 : decode prog_1_method_19_code 36 = .ok (.aload_n 0, 1) := by decide +kernel
theorem d_UF_frees_37 : decode prog_1_method_19_code 37 = .ok (.invokevirtual 110, 3) := by decide +kernel
theorem d_UF_frees_40 : decode prog_1_method_19_code 40 = .ok (.aload_n 0, 1) := by decide +kernel
theorem d_UF_frees_41 : decode prog_1_method_19_code 41 = .ok (.getfield 44, 3) := by decide +kernel
theorem d_UF_frees_44 : decode prog_1_method_19_code 44 = .ok (.iload_n 2, 1) := by decide +kernel
theorem d_UF_frees_45 : decode prog_1_method_19_code 45 = .ok (.invokevirtual 146, 3) := by decide +kernel
theorem d_UF_frees_48 : decode prog_1_method_19_code 48 = .ok (.aload_n 0, 1) := by decide +kernel
theorem d_UF_frees_49 : decode prog_1_method_19_code 49 = .ok (.getfield 44, 3) := by decide +kernel
theorem d_UF_frees_52 : decode prog_1_method_19_code 52 = .ok (.getfield 149, 3) := by decide +kernel
theorem d_UF_frees_55 : decode prog_1_method_19_code 55 = .ok (.iload_n 1, 1) := by decide +kernel
theorem d_UF_frees_56 : decode prog_1_method_19_code 56 = .ok (.invokevirtual 181, 3) := by decide +kernel
theorem d_UF_frees_59 : decode prog_1_method_19_code 59 = .ok (.ifCond .ne 106, 3) := by decide +kernel
theorem d_UF_frees_62 : decode prog_1_method_19_code 62 = .ok (.iconst 0, 1) := by decide +kernel
theorem d_UF_frees_63 : decode prog_1_method_19_code 63 = .ok (.istore 6, 2) := by decide +kernel
theorem d_UF_frees_65 : decode prog_1_method_19_code 65 = .ok (.iload 6, 2) := by decide +kernel
theorem d_UF_frees_67 : decode prog_1_method_19_code 67 = .ok (.aload_n 0, 1) := by decide +kernel
theorem d_UF_frees_68 : decode prog_1_method_19_code 68 = .ok (.getfield 34, 3) := by decide +kernel
theorem d_UF_frees_71 : decode prog_1_method_19_code 71 = .ok (.getfield 80, 3) := by decide +kernel
theorem d_UF_frees_74 : decode prog_1_method_19_code 74 = .ok (.if_icmp .ge 91, 3) := by decide +kernel
theorem d_UF_frees_77 : decode prog_1_method_19_code 77 = .ok (.aload_n 0, 1) := by decide +kernel
theorem d_UF_frees_78 : decode prog_1_method_19_code 78 = .ok (.getfield 34, 3) := by decide +kernel
theorem d_UF_frees_81 : decode prog_1_method_19_code 81 = .ok (.iload 6, 2) := by decide +kernel
theorem d_UF_frees_83 : decode prog_1_method_19_code 83 = .ok (.invokevirtual 187, 3) := by decide +kernel
theorem d_UF_frees_86 : decode prog_1_method_19_code 86 = .ok (.ifCond .ne 6, 3) := by decide +kernel
theorem d_UF_frees_89 : decode prog_1_method_19_code 89 = .ok (.goto 70, 3) := by decide +kernel
theorem d_UF_frees_92 : decode prog_1_method_19_code 92 = .ok (.aload_n 0, 1) := by decide +kernel
theorem d_UF_frees_93 : decode prog_1_method_19_code 93 = .ok (.invokevirtual 110, 3) := by decide +kernel
theorem d_UF_frees_96 : decode prog_1_method_19_code 96 = .ok (.aload_n 0, 1) := by decide +kernel
theorem d_UF_frees_97 : decode prog_1_method_19_code 97 = .ok (.getfield 44, 3) := by decide +kernel
theorem d_UF_frees_100 : decode prog_1_method_19_code 100 = .ok (.getfield 149, 3) := by decide +kernel
theorem d_UF_frees_103 : decode prog_1_method_19_code 103 = .ok (.iload 6, 2) := by decide +kernel
theorem d_UF_frees_105 : decode prog_1_method_19_code 105 = .ok (.invokevirtual 190, 3) := by decide +kernel
theorem d_UF_frees_108 : decode prog_1_method_19_code 108 = .ok (.aload_n 0, 1) := by decide +kernel
theorem d_UF_frees_109 : decode prog_1_method_19_code 109 = .ok (.getfield 44, 3) := by decide +kernel
theorem d_UF_frees_112 : decode prog_1_method_19_code 112 = .ok (.iload_n 2, 1) := by decide +kernel
theorem d_UF_frees_113 : decode prog_1_method_19_code 113 = .ok (.invokevirtual 146, 3) := by decide +kernel
theorem d_UF_frees_116 : decode prog_1_method_19_code 116 = .ok (.aload_n 0, 1) := by decide +kernel
theorem d_UF_frees_117 : decode prog_1_method_19_code 117 = .ok (.getfield 44, 3) := by decide +kernel
theorem d_UF_frees_120 : decode prog_1_method_19_code 120 = .ok (.getfield 149, 3) := by decide +kernel
theorem d_UF_frees_123 : decode prog_1_method_19_code 123 = .ok (.iload_n 1, 1) := by decide +kernel
theorem d_UF_frees_124 : decode prog_1_method_19_code 124 = .ok (.invokevirtual 181, 3) := by decide +kernel
theorem d_UF_frees_127 : decode prog_1_method_19_code 127 = .ok (.ifCond .ne 6, 3) := by decide +kernel
theorem d_UF_frees_130 : decode prog_1_method_19_code 130 = .ok (.goto 29, 3) := by decide +kernel
theorem d_UF_frees_133 : decode prog_1_method_19_code 133 = .ok (.iload 5, 2) := by decide +kernel
theorem d_UF_frees_135 : decode prog_1_method_19_code 135 = .ok (.ifCond .ne 21, 3) := by decide +kernel
theorem d_UF_frees_138 : decode prog_1_method_19_code 138 = .ok (.bipush 10, 2) := by decide +kernel
theorem d_UF_frees_140 : decode prog_1_method_19_code 140 = .ok (.iload 6, 2) := by decide +kernel
theorem d_UF_frees_142 : decode prog_1_method_19_code 142 = .ok (.imul, 1) := by decide +kernel
theorem d_UF_frees_143 : decode prog_1_method_19_code 143 = .ok (.aload_n 0, 1) := by decide +kernel
theorem d_UF_frees_144 : decode prog_1_method_19_code 144 = .ok (.getfield 34, 3) := by decide +kernel
theorem d_UF_frees_147 : decode prog_1_method_19_code 147 = .ok (.getfield 127, 3) := by decide +kernel
theorem d_UF_frees_150 : decode prog_1_method_19_code 150 = .ok (.iload 6, 2) := by decide +kernel
theorem d_UF_frees_152 : decode prog_1_method_19_code 152 = .ok (.iaload, 1) := by decide +kernel
theorem d_UF_frees_153 : decode prog_1_method_19_code 153 = .ok (.iadd, 1) := by decide +kernel
theorem d_UF_frees_154 : decode prog_1_method_19_code 154 = .ok (.istore 4, 2) := by decide +kernel
theorem d_UF_frees_156 : decode prog_1_method_19_code 156 = .ok (.iinc 5 1, 3) := by decide +kernel
theorem d_UF_frees_159 : decode prog_1_method_19_code 159 = .ok (.iinc 6 1, 3) := by decide +kernel
theorem d_UF_frees_162 : decode prog_1_method_19_code 162 = .ok (.goto (-97), 3) := by decide +kernel
theorem d_UF_frees_165 : decode prog_1_method_19_code 165 = .ok (.iload_n 3, 1) := by decide +kernel
theorem d_UF_frees_166 : decode prog_1_method_19_code 166 = .ok (.ifCond .ne 8, 3) := by decide +kernel
theorem d_UF_frees_169 : decode prog_1_method_19_code 169 = .ok (.iload 4, 2) := by decide +kernel
theorem d_UF_frees_171 : decode prog_1_method_19_code 171 = .ok (.goto 5, 3) := by decide +kernel
theorem d_UF_frees_174 : decode prog_1_method_19_code 174 = .ok (.iload 5, 2) := by decide +kernel
theorem d_UF_frees_176 : decode prog_1_method_19_code 176 = .ok (.ireturn, 1) := by decide +kernel
def p_UF_frees_165 (Q : Int32 → AH → Prop) (x3 : Int32) (x4 : Int32) (x5 : Int32) (h : AH) : Prop := ((¬ x3 = 0 → Q x5 h) ∧ (x3 = 0 → Q x4 h))
def p_UF_frees_159 (Q : Int32 → AH → Prop) (K65 : Int32 → Int32 → Int32 → Int32 → Int32 → Int32 → AH → Prop) (x1 : Int32) (x2 : Int32) (x3 : Int32) (x4 : Int32) (x5 : Int32) (x6 : Int32) (h : AH) : Prop := K65 x1 x2 x3 x4 x5 (x6 + 1) h
def p_UF_frees_156 (Q : Int32 → AH → Prop) (K65 : Int32 → Int32 → Int32 → Int32 → Int32 → Int32 → AH → Prop) (x1 : Int32) (x2 : Int32) (x3 : Int32) (x4 : Int32) (x5 : Int32) (x6 : Int32) (h : AH) : Prop := p_UF_frees_159 Q  K65 x1 x2 x3 x4 (x5 + 1) x6 h
def p_UF_frees_65 (Q : Int32 → AH → Prop) : Nat → Int32 → Int32 → Int32 → Int32 → Int32 → Int32 → AH → Prop
  | 0 => fun _ _ _ _ _ _ _ => False
  | n + 1 => fun x1 x2 x3 x4 x5 x6 h => let K65 := p_UF_frees_65 Q n; (((h.1 5 3) ≤ x6 → p_UF_frees_165 Q   x3 x4 x5 h) ∧ (¬ (h.1 5 3) ≤ x6 → p_Town_leads (fun r2 h1 => ((¬ r2 = 0 → p_UF_ready (fun h3 => p_Town_loosen (fun h4 => p_Dusk_go (fun h5 => p_Town_isDown (fun r7 h6 => ((¬ r7 = 0 → ((¬ x5 = 0 → p_UF_frees_156 Q  K65 x1 x2 x3 x4 x5 x6 h6) ∧ (x5 = 0 → inb x6 7 ∧ p_UF_frees_156 Q  K65 x1 x2 x3 ((10 * x6) + (h6.1 8 x6)) x5 x6 h6))) ∧ (r7 = 0 → p_UF_frees_159 Q  K65 x1 x2 x3 x4 x5 x6 h6))) 14 x1 h5) x2 h4) 14 x6 h3) h1) ∧ (r2 = 0 → p_UF_frees_159 Q  K65 x1 x2 x3 x4 x5 x6 h1))) 5 x6 h))
def p_UF_frees (Q : Int32 → AH → Prop) (x1 : Int32) (x2 : Int32) (x3 : Int32) (h : AH) : Prop := p_UF_isHouse (fun r2 h1 => ((¬ r2 = 0 → p_UF_isSpan (fun r4 h3 => ((r4 = 0 → Q (-7) h3) ∧ (¬ r4 = 0 → p_UF_within (fun r6 h5 => ((¬ r6 = 0 → p_UF_ready (fun h7 => p_Dusk_go (fun h8 => p_Town_isDown (fun r10 h9 => ((¬ r10 = 0 → p_UF_frees_165 Q   x3 (-1) 0 h9) ∧ (r10 = 0 → ∃ n, p_UF_frees_65 Q   n x1 x2 x3 (-1) 0 0 h9))) 14 x1 h8) x2 h7) h5) ∧ (r6 = 0 → Q (-7) h5))) x3 0 1 h3))) x2 h1) ∧ (r2 = 0 → Q (-5) h1))) x1 h
set_option maxRecDepth 20000 in
theorem r_UF_frees_165 {G : GG} {d : Nat} {Q : Int32 → AH → Prop} (x3 : Int32) (x4 : Int32) (x5 : Int32) (h : AH) (H : p_UF_frees_165 Q x3 x4 x5 h) : Att G T1 m_UF_frees (d + 7) 165 [none, none, none, some (.int x3), some (.int x4), some (.int x5), none] [] h 0 0 (iQ Q) := by
  refine A_iload_n d_UF_frees_165 rfl ?_
  refine A_if_ne 174 d_UF_frees_166 (by decide) (fun z => ?_) (fun z => ?_)
  · have H := H.1 z
    refine A_iload d_UF_frees_174 rfl ?_
    exact A_iret d_UF_frees_176 rfl rfl H
  · have H := H.2 z
    refine A_iload d_UF_frees_169 rfl ?_
    refine A_goto 176 d_UF_frees_171 (by decide) ?_
    exact A_iret d_UF_frees_176 rfl rfl H
set_option maxRecDepth 20000 in
theorem r_UF_frees_159 {G : GG} {d : Nat} {Q : Int32 → AH → Prop} {K65 : Int32 → Int32 → Int32 → Int32 → Int32 → Int32 → AH → Prop} (k65 : ∀ x1 x2 x3 x4 x5 x6 h, K65 x1 x2 x3 x4 x5 x6 h → Att G T1 m_UF_frees (d + 7) 65 [some (.ref 0), some (.int x1), some (.int x2), some (.int x3), some (.int x4), some (.int x5), some (.int x6)] [] h 0 0 (iQ Q)) (x1 : Int32) (x2 : Int32) (x3 : Int32) (x4 : Int32) (x5 : Int32) (x6 : Int32) (h : AH) (H : p_UF_frees_159 Q K65 x1 x2 x3 x4 x5 x6 h) : Att G T1 m_UF_frees (d + 7) 159 [some (.ref 0), some (.int x1), some (.int x2), some (.int x3), some (.int x4), some (.int x5), some (.int x6)] [] h 0 0 (iQ Q) := by
  refine A_iinc 1 [some (.ref 0), some (.int x1), some (.int x2), some (.int x3), some (.int x4), some (.int x5), some (.int (x6 + 1))] d_UF_frees_159 rfl (by decide) (by decide) rfl rfl ?_
  refine A_goto 65 d_UF_frees_162 (by decide) ?_
  exact k65 _ _ _ _ _ _ _ H
set_option maxRecDepth 20000 in
theorem r_UF_frees_156 {G : GG} {d : Nat} {Q : Int32 → AH → Prop} {K65 : Int32 → Int32 → Int32 → Int32 → Int32 → Int32 → AH → Prop} (k65 : ∀ x1 x2 x3 x4 x5 x6 h, K65 x1 x2 x3 x4 x5 x6 h → Att G T1 m_UF_frees (d + 7) 65 [some (.ref 0), some (.int x1), some (.int x2), some (.int x3), some (.int x4), some (.int x5), some (.int x6)] [] h 0 0 (iQ Q)) (x1 : Int32) (x2 : Int32) (x3 : Int32) (x4 : Int32) (x5 : Int32) (x6 : Int32) (h : AH) (H : p_UF_frees_156 Q K65 x1 x2 x3 x4 x5 x6 h) : Att G T1 m_UF_frees (d + 7) 156 [some (.ref 0), some (.int x1), some (.int x2), some (.int x3), some (.int x4), some (.int x5), some (.int x6)] [] h 0 0 (iQ Q) := by
  refine A_iinc 1 [some (.ref 0), some (.int x1), some (.int x2), some (.int x3), some (.int x4), some (.int (x5 + 1)), some (.int x6)] d_UF_frees_156 rfl (by decide) (by decide) rfl rfl ?_
  exact r_UF_frees_159  k65 _ _ _ _ _ _ _ H
set_option maxRecDepth 20000 in
theorem r_UF_frees_65 {G : GG} {d : Nat} {Q : Int32 → AH → Prop} : ∀ (n : Nat) (x1 : Int32) (x2 : Int32) (x3 : Int32) (x4 : Int32) (x5 : Int32) (x6 : Int32) (h : AH), p_UF_frees_65 Q n x1 x2 x3 x4 x5 x6 h → Att G T1 m_UF_frees (d + 7) 65 [some (.ref 0), some (.int x1), some (.int x2), some (.int x3), some (.int x4), some (.int x5), some (.int x6)] [] h 0 0 (iQ Q) := by
  intro n
  induction n with
  | zero => intro x1 x2 x3 x4 x5 x6 h H; exact H.elim
  | succ n k65 =>
    intro x1 x2 x3 x4 x5 x6 h H
    refine A_iload d_UF_frees_65 rfl ?_
    refine A_aload_n d_UF_frees_67 rfl ?_
    refine A_get (v := .ref 5) d_UF_frees_68 (fo_UF_34_11 rfl) (vA_s (by decide)) rfl (by first | rfl | (show Value.int _ = Value.int _; simp [wI, wL, wR, wC, up])) ?_
    refine A_get (v := .int (h.1 5 3)) d_UF_frees_71 (fo_UF_80_10 rfl) (vA_s (by decide)) rfl (by first | rfl | (show Value.int _ = Value.int _; simp [wI, wL, wR, wC, up])) ?_
    refine A_icmp_ge 165 d_UF_frees_74 (by decide) (fun z => ?_) (fun z => ?_)
    · have H := H.1 z
      refine A_sub (L' := [none, none, none, some (.int x3), some (.int x4), some (.int x5), none]) ⟨rfl, rfl, rfl, trivial⟩ ?_
      exact r_UF_frees_165   _ _ _ _ H
    · have H := H.2 z
      refine A_aload_n d_UF_frees_77 rfl ?_
      refine A_get (v := .ref 5) d_UF_frees_78 (fo_UF_34_11 rfl) (vA_s (by decide)) rfl (by first | rfl | (show Value.int _ = Value.int _; simp [wI, wL, wR, wC, up])) ?_
      refine A_iload d_UF_frees_81 rfl ?_
      refine A_cI [.ref 5, .int x6] [] (ct_UF_187 rfl) d_UF_frees_83 rfl rfl (by decide) (Nat.le_of_ble_eq_true rfl) (rcA_o (c := 10) rfl (vA_s (by decide)) rfl (by decide) rfl) (ok_Town_leads (d := d + 6) H) (fun r2 h1 H => ?_)
      refine A_if_ne 92 d_UF_frees_86 (by decide) (fun z => ?_) (fun z => ?_)
      · have H := H.1 z
        refine A_aload_n d_UF_frees_92 rfl ?_
        refine A_cV [.ref 0] [] (ct_UF_110 rfl) d_UF_frees_93 rfl rfl (by decide) (Nat.le_of_ble_eq_true rfl) (rcA_o (c := 11) rfl (vA_s (by decide)) rfl (by decide) rfl) (ok_UF_ready (d := d + 3) H) (fun h3 H => ?_)
        refine A_aload_n d_UF_frees_96 rfl ?_
        refine A_get (v := .ref 13) d_UF_frees_97 (fo_UF_44_11 rfl) (vA_s (by decide)) rfl (by first | rfl | (show Value.int _ = Value.int _; simp [wI, wL, wR, wC, up])) ?_
        refine A_get (v := .ref 14) d_UF_frees_100 (fo_UF_149_2 rfl) (vA_s (by decide)) rfl (by first | rfl | (show Value.int _ = Value.int _; simp [wI, wL, wR, wC, up])) ?_
        refine A_iload d_UF_frees_103 rfl ?_
        refine A_cV [.ref 14, .int x6] [] (ct_UF_190 rfl) d_UF_frees_105 rfl rfl (by decide) (Nat.le_of_ble_eq_true rfl) (rcA_o (c := 10) rfl (vA_s (by decide)) rfl (by decide) rfl) (ok_Town_loosen (d := d + 5) H) (fun h4 H => ?_)
        refine A_aload_n d_UF_frees_108 rfl ?_
        refine A_get (v := .ref 13) d_UF_frees_109 (fo_UF_44_11 rfl) (vA_s (by decide)) rfl (by first | rfl | (show Value.int _ = Value.int _; simp [wI, wL, wR, wC, up])) ?_
        refine A_iload_n d_UF_frees_112 rfl ?_
        refine A_cV [.ref 13, .int x2] [] (ct_UF_146 rfl) d_UF_frees_113 rfl rfl (by decide) (Nat.le_of_ble_eq_true rfl) (rcA_o (c := 2) rfl (vA_s (by decide)) rfl (by decide) rfl) (ok_Dusk_go (d := d) H) (fun h5 H => ?_)
        refine A_aload_n d_UF_frees_116 rfl ?_
        refine A_get (v := .ref 13) d_UF_frees_117 (fo_UF_44_11 rfl) (vA_s (by decide)) rfl (by first | rfl | (show Value.int _ = Value.int _; simp [wI, wL, wR, wC, up])) ?_
        refine A_get (v := .ref 14) d_UF_frees_120 (fo_UF_149_2 rfl) (vA_s (by decide)) rfl (by first | rfl | (show Value.int _ = Value.int _; simp [wI, wL, wR, wC, up])) ?_
        refine A_iload_n d_UF_frees_123 rfl ?_
        refine A_cI [.ref 14, .int x1] [] (ct_UF_181 rfl) d_UF_frees_124 rfl rfl (by decide) (Nat.le_of_ble_eq_true rfl) (rcA_o (c := 10) rfl (vA_s (by decide)) rfl (by decide) rfl) (ok_Town_isDown (d := d + 6) H) (fun r7 h6 H => ?_)
        refine A_if_ne 133 d_UF_frees_127 (by decide) (fun z => ?_) (fun z => ?_)
        · have H := H.1 z
          refine A_iload d_UF_frees_133 rfl ?_
          refine A_if_ne 156 d_UF_frees_135 (by decide) (fun z => ?_) (fun z => ?_)
          · have H := H.1 z
            exact r_UF_frees_156  k65 _ _ _ _ _ _ _ H
          · have H := H.2 z
            refine A_bipush 10 (by decide) d_UF_frees_138 ?_
            refine A_iload d_UF_frees_140 rfl ?_
            refine A_imul d_UF_frees_142 ?_
            refine A_aload_n d_UF_frees_143 rfl ?_
            refine A_get (v := .ref 5) d_UF_frees_144 (fo_UF_34_11 rfl) (vA_s (by decide)) rfl (by first | rfl | (show Value.int _ = Value.int _; simp [wI, wL, wR, wC, up])) ?_
            refine A_get (v := .ref 8) d_UF_frees_147 (fo_UF_127_10 rfl) (vA_s (by decide)) rfl (by first | rfl | (show Value.int _ = Value.int _; simp [wI, wL, wR, wC, up])) ?_
            refine A_iload d_UF_frees_150 rfl ?_
            obtain ⟨c8, H⟩ := H
            refine A_ialdv (n := 7) (v := (h6.1 8 x6)) d_UF_frees_152 (vA_s (by decide)) rfl c8 rfl ?_
            refine A_iadd d_UF_frees_153 ?_
            refine A_istore [some (.ref 0), some (.int x1), some (.int x2), some (.int x3), some (.int ((10 * x6) + (h6.1 8 x6))), some (.int x5), some (.int x6)] d_UF_frees_154 (by decide) rfl rfl ?_
            exact r_UF_frees_156  k65 _ _ _ _ _ _ _ H
        · have H := H.2 z
          refine A_goto 159 d_UF_frees_130 (by decide) ?_
          exact r_UF_frees_159  k65 _ _ _ _ _ _ _ H
      · have H := H.2 z
        refine A_goto 159 d_UF_frees_89 (by decide) ?_
        exact r_UF_frees_159  k65 _ _ _ _ _ _ _ H
set_option maxRecDepth 20000 in
theorem r_UF_frees_0 {G : GG} {d : Nat} {Q : Int32 → AH → Prop} (x1 : Int32) (x2 : Int32) (x3 : Int32) (h : AH) (H : p_UF_frees Q x1 x2 x3 h) : Att G T1 m_UF_frees (d + 7) 0 [some (.ref 0), some (.int x1), some (.int x2), some (.int x3), none, none, none] [] h 0 0 (iQ Q) := by
  refine A_aload_n d_UF_frees_0 rfl ?_
  refine A_iload_n d_UF_frees_1 rfl ?_
  refine A_cI [.ref 0, .int x1] [] (ct_UF_107 rfl) d_UF_frees_2 rfl rfl (by decide) (Nat.le_of_ble_eq_true rfl) (rcA_o (c := 11) rfl (vA_s (by decide)) rfl (by decide) rfl) (ok_UF_isHouse (d := d + 5) H) (fun r2 h1 H => ?_)
  refine A_if_ne 11 d_UF_frees_5 (by decide) (fun z => ?_) (fun z => ?_)
  · have H := H.1 z
    refine A_iload_n d_UF_frees_11 rfl ?_
    refine A_cI [.int x2] [] (ct_UF_143 rfl) d_UF_frees_12 rfl rfl (by decide) (Nat.le_of_ble_eq_true rfl) trivial (ok_UF_isSpan (d := d + 5) H) (fun r4 h3 H => ?_)
    refine A_if_eq 27 d_UF_frees_15 (by decide) (fun z => ?_) (fun z => ?_)
    · have H := H.1 z
      refine A_bipush (-7) (by decide) d_UF_frees_27 ?_
      exact A_iret d_UF_frees_29 rfl rfl H
    · have H := H.2 z
      refine A_iload_n d_UF_frees_18 rfl ?_
      refine A_iconst 0 (by decide) d_UF_frees_19 ?_
      refine A_iconst 1 (by decide) d_UF_frees_20 ?_
      refine A_cI [.int x3, .int 0, .int 1] [] (ct_UF_95 rfl) d_UF_frees_21 rfl rfl (by decide) (Nat.le_of_ble_eq_true rfl) trivial (ok_UF_within (d := d + 6) H) (fun r6 h5 H => ?_)
      refine A_if_ne 30 d_UF_frees_24 (by decide) (fun z => ?_) (fun z => ?_)
      · have H := H.1 z
        refine A_iconst (-1) (by decide) d_UF_frees_30 ?_
        refine A_istore [some (.ref 0), some (.int x1), some (.int x2), some (.int x3), some (.int (-1)), none, none] d_UF_frees_31 (by decide) rfl rfl ?_
        refine A_iconst 0 (by decide) d_UF_frees_33 ?_
        refine A_istore [some (.ref 0), some (.int x1), some (.int x2), some (.int x3), some (.int (-1)), some (.int 0), none] d_UF_frees_34 (by decide) rfl rfl ?_
        refine A_aload_n d_UF_frees_36 rfl ?_
        refine A_cV [.ref 0] [] (ct_UF_110 rfl) d_UF_frees_37 rfl rfl (by decide) (Nat.le_of_ble_eq_true rfl) (rcA_o (c := 11) rfl (vA_s (by decide)) rfl (by decide) rfl) (ok_UF_ready (d := d + 3) H) (fun h7 H => ?_)
        refine A_aload_n d_UF_frees_40 rfl ?_
        refine A_get (v := .ref 13) d_UF_frees_41 (fo_UF_44_11 rfl) (vA_s (by decide)) rfl (by first | rfl | (show Value.int _ = Value.int _; simp [wI, wL, wR, wC, up])) ?_
        refine A_iload_n d_UF_frees_44 rfl ?_
        refine A_cV [.ref 13, .int x2] [] (ct_UF_146 rfl) d_UF_frees_45 rfl rfl (by decide) (Nat.le_of_ble_eq_true rfl) (rcA_o (c := 2) rfl (vA_s (by decide)) rfl (by decide) rfl) (ok_Dusk_go (d := d) H) (fun h8 H => ?_)
        refine A_aload_n d_UF_frees_48 rfl ?_
        refine A_get (v := .ref 13) d_UF_frees_49 (fo_UF_44_11 rfl) (vA_s (by decide)) rfl (by first | rfl | (show Value.int _ = Value.int _; simp [wI, wL, wR, wC, up])) ?_
        refine A_get (v := .ref 14) d_UF_frees_52 (fo_UF_149_2 rfl) (vA_s (by decide)) rfl (by first | rfl | (show Value.int _ = Value.int _; simp [wI, wL, wR, wC, up])) ?_
        refine A_iload_n d_UF_frees_55 rfl ?_
        refine A_cI [.ref 14, .int x1] [] (ct_UF_181 rfl) d_UF_frees_56 rfl rfl (by decide) (Nat.le_of_ble_eq_true rfl) (rcA_o (c := 10) rfl (vA_s (by decide)) rfl (by decide) rfl) (ok_Town_isDown (d := d + 6) H) (fun r10 h9 H => ?_)
        refine A_if_ne 165 d_UF_frees_59 (by decide) (fun z => ?_) (fun z => ?_)
        · have H := H.1 z
          refine A_sub (L' := [none, none, none, some (.int x3), some (.int (-1)), some (.int 0), none]) ⟨rfl, rfl, rfl, trivial⟩ ?_
          exact r_UF_frees_165   _ _ _ _ H
        · have H := H.2 z
          refine A_iconst 0 (by decide) d_UF_frees_62 ?_
          refine A_istore [some (.ref 0), some (.int x1), some (.int x2), some (.int x3), some (.int (-1)), some (.int 0), some (.int 0)] d_UF_frees_63 (by decide) rfl rfl ?_
          obtain ⟨n9, H⟩ := H
          exact r_UF_frees_65   n9 _ _ _ _ _ _ _ H
      · have H := H.2 z
        refine A_bipush (-7) (by decide) d_UF_frees_27 ?_
        exact A_iret d_UF_frees_29 rfl rfl H
  · have H := H.2 z
    refine A_bipush (-5) (by decide) d_UF_frees_8 ?_
    exact A_iret d_UF_frees_10 rfl rfl H
set_option maxRecDepth 20000 in
theorem ok_UF_frees {G : GG} {d : Nat} {Q : Int32 → AH → Prop} {x1 : Int32} {x2 : Int32} {x3 : Int32} {h : AH} (H : p_UF_frees Q x1 x2 x3 h) : WP G T1 m_UF_frees (d + 7) [.ref 0, .int x1, .int x2, .int x3] h 0 0 (iQ Q) := by
  exact WP.enter 3 (by decide) rfl rfl (r_UF_frees_0 x1 x2 x3 h H)
theorem d_UF_hang_0 : decode prog_1_method_20_code 0 = .ok (.aload_n 0, 1) := by decide +kernel
theorem d_UF_hang_1 : decode prog_1_method_20_code 1 = .ok (.iload_n 1, 1) := by decide +kernel
theorem d_UF_hang_2 : decode prog_1_method_20_code 2 = .ok (.invokevirtual 107, 3) := by decide +kernel
theorem d_UF_hang_5 : decode prog_1_method_20_code 5 = .ok (.ifCond .eq 11, 3) := by decide +kernel
theorem d_UF_hang_8 : decode prog_1_method_20_code 8 = .ok (.aload_n 0, 1) := by decide +kernel
theorem d_UF_hang_9 : decode prog_1_method_20_code 9 = .ok (.iload_n 2, 1) := by decide +kernel
theorem d_UF_hang_10 : decode prog_1_method_20_code 10 = .ok (.invokevirtual 107, 3) := by decide +kernel
theorem d_UF_hang_13 : decode prog_1_method_20_code 13 = .ok (.ifCond .ne 6, 3) := by decide +kernel
theorem d_UF_hang_16 : decode prog_1_method_20_code 16 = .ok (.bipush (-5), 2) := by decide +kernel
theorem d_UF_hang_18 : decode prog_1_method_20_code 18 = .ok (.ireturn, 1) := by decide +kernel
theorem d_UF_hang_19 : decode prog_1_method_20_code 19 = .ok (.iload_n 3, 1) := by decide +kernel
theorem d_UF_hang_20 : decode prog_1_method_20_code 20 = .ok (.iconst 0, 1) := by decide +kernel
theorem d_UF_hang_21 : decode prog_1_method_20_code 21 = .ok (.iconst 1, 1) := by decide +kernel
theorem d_UF_hang_22 : decode prog_1_method_20_code 22 = .ok (.invokestatic 95, 3) := by decide +kernel
theorem d_UF_hang_25 : decode prog_1_method_20_code 25 = .ok (.ifCond .ne 6, 3) := by decide +kernel
theorem d_UF_hang_28 : decode prog_1_method_20_code 28 = .ok (.bipush (-7), 2) := by decide +kernel
theorem d_UF_hang_30 : decode prog_1_method_20_code 30 = .ok (.ireturn, 1) := by decide +kernel
theorem d_UF_hang_31 : decode prog_1_method_20_code 31 = .ok (.iconst (-1), 1) := by decide +kernel
theorem d_UF_hang_32 : decode prog_1_method_20_code 32 = .ok (.istore 4, 2) := by decide +kernel
theorem d_UF_hang_34 : decode prog_1_method_20_code 34 = .ok (.iconst (-1), 1) := by decide +kernel
theorem d_UF_hang_35 : decode prog_1_method_20_code 35 = .ok (.istore 5, 2) := by decide +kernel
theorem d_UF_hang_37 : decode prog_1_method_20_code 37 = .ok (.iconst 0, 1) := by decide +kernel
theorem d_UF_hang_38 : decode prog_1_method_20_code 38 = .ok (.istore 6, 2) := by decide +kernel
theorem d_UF_hang_40 : decode prog_1_method_20_code 40 = .ok (.iload 6, 2) := by decide +kernel
theorem d_UF_hang_42 : decode prog_1_method_20_code 42 = .ok (.bipush 9, 2) := by decide +kernel
theorem d_UF_hang_44 : decode prog_1_method_20_code 44 = .ok (.if_icmp .gt 64, 3) := by decide +kernel
theorem d_UF_hang_47 : decode prog_1_method_20_code 47 = .ok (.aload_n 0, 1) := by decide +kernel
theorem d_UF_hang_48 : decode prog_1_method_20_code 48 = .ok (.invokevirtual 110, 3) := by decide +kernel
theorem d_UF_hang_51 : decode prog_1_method_20_code 51 = .ok (.aload_n 0, 1) := by decide +kernel
theorem d_UF_hang_52 : decode prog_1_method_20_code 52 = .ok (.getfield 44, 3) := by decide +kernel
theorem d_UF_hang_55 : decode prog_1_method_20_code 55 = .ok (.getfield 149, 3) := by decide +kernel
theorem d_UF_hang_58 : decode prog_1_method_20_code 58 = .ok (.getfield 121, 3) := by decide +kernel
theorem d_UF_hang_61 : decode prog_1_method_20_code 61 = .ok (.iload_n 2, 1) := by decide +kernel
theorem d_UF_hang_62 : decode prog_1_method_20_code 62 = .ok (.iload 6, 2) := by decide +kernel
theorem d_UF_hang_64 : decode prog_1_method_20_code 64 = .ok (.iastore, 1) := by decide +kernel
theorem d_UF_hang_65 : decode prog_1_method_20_code 65 = .ok (.aload_n 0, 1) := by decide +kernel
theorem d_UF_hang_66 : decode prog_1_method_20_code 66 = .ok (.getfield 44, 3) := by decide +kernel
theorem d_UF_hang_69 : decode prog_1_method_20_code 69 = .ok (.iload_n 1, 1) := by decide +kernel
theorem d_UF_hang_70 : decode prog_1_method_20_code 70 = .ok (.invokevirtual 177, 3) := by decide +kernel
theorem d_UF_hang_73 : decode prog_1_method_20_code 73 = .ok (.istore 7, 2) := by decide +kernel
theorem d_UF_hang_75 : decode prog_1_method_20_code 75 = .ok (.iload 7, 2) := by decide +kernel
theorem d_UF_hang_77 : decode prog_1_method_20_code 77 = .ok (.iconst (-1), 1) := by decide +kernel
theorem d_UF_hang_78 : decode prog_1_method_20_code 78 = .ok (.if_icmp .eq 24, 3) := by decide +kernel
theorem d_UF_hang_81 : decode prog_1_method_20_code 81 = .ok (.iload 5, 2) := by decide +kernel
theorem d_UF_hang_83 : decode prog_1_method_20_code 83 = .ok (.iconst (-1), 1) := by decide +kernel
theorem d_UF_hang_84 : decode prog_1_method_20_code 84 = .ok (.if_icmp .eq 10, 3) := by decide +kernel
theorem d_UF_hang_87 : decode prog_1_method_20_code 87 = .ok (.iload 7, 2) := by decide +kernel
theorem d_UF_hang_89 : decode prog_1_method_20_code 89 = .ok (.iload 4, 2) := by decide +kernel
theorem d_UF_hang_91 : decode prog_1_method_20_code 91 = .ok (.if_icmp .gt 11, 3) := by decide +kernel
theorem d_UF_hang_94 : decode prog_1_method_20_code 94 = .ok (.iload 7, 2) := by decide +kernel
theorem d_UF_hang_96 : decode prog_1_method_20_code 96 = .ok (.istore 4, 2) := by decide +kernel
theorem d_UF_hang_98 : decode prog_1_method_20_code 98 = .ok (.iload 6, 2) := by decide +kernel
theorem d_UF_hang_100 : decode prog_1_method_20_code 100 = .ok (.istore 5, 2) := by decide +kernel
theorem d_UF_hang_102 : decode prog_1_method_20_code 102 = .ok (.iinc 6 1, 3) := by decide +kernel
theorem d_UF_hang_105 : decode prog_1_method_20_code 105 = .ok (.goto (-65), 3) := by decide +kernel
theorem d_UF_hang_108 : decode prog_1_method_20_code 108 = .ok (.iload_n 3, 1) := by decide +kernel
theorem d_UF_hang_109 : decode prog_1_method_20_code 109 = .ok (.ifCond .ne 8, 3) := by decide +kernel
theorem d_UF_hang_112 : decode prog_1_method_20_code 112 = .ok (.iload 5, 2) := by decide +kernel
theorem d_UF_hang_114 : decode prog_1_method_20_code 114 = .ok (.goto 5, 3) := by decide +kernel
theorem d_UF_hang_117 : decode prog_1_method_20_code 117 = .ok (.iload 4, 2) := by decide +kernel
theorem d_UF_hang_119 : decode prog_1_method_20_code 119 = .ok (.ireturn, 1) := by decide +kernel
def p_UF_hang_102 (Q : Int32 → AH → Prop) (K40 : Int32 → Int32 → Int32 → Int32 → Int32 → Int32 → AH → Prop) (x1 : Int32) (x2 : Int32) (x3 : Int32) (x4 : Int32) (x5 : Int32) (x6 : Int32) (h : AH) : Prop := K40 x1 x2 x3 x4 x5 (x6 + 1) h
def p_UF_hang_94 (Q : Int32 → AH → Prop) (K40 : Int32 → Int32 → Int32 → Int32 → Int32 → Int32 → AH → Prop) (x1 : Int32) (x2 : Int32) (x3 : Int32) (x6 : Int32) (x7 : Int32) (h : AH) : Prop := p_UF_hang_102 Q  K40 x1 x2 x3 x7 x6 x6 h
def p_UF_hang_40 (Q : Int32 → AH → Prop) : Nat → Int32 → Int32 → Int32 → Int32 → Int32 → Int32 → AH → Prop
  | 0 => fun _ _ _ _ _ _ _ => False
  | n + 1 => fun x1 x2 x3 x4 x5 x6 h => let K40 := p_UF_hang_40 Q n; ((9 < x6 → ((¬ x3 = 0 → Q x4 h) ∧ (x3 = 0 → Q x5 h))) ∧ (¬ 9 < x6 → p_UF_ready (fun h1 => inb x2 7 ∧ p_Dusk_firstDown (fun r4 h3 => ((r4 = (-1) → p_UF_hang_102 Q  K40 x1 x2 x3 x4 x5 x6 h3) ∧ (¬ r4 = (-1) → ((x5 = (-1) → p_UF_hang_94 Q  K40 x1 x2 x3 x6 r4 h3) ∧ (¬ x5 = (-1) → ((x4 < r4 → p_UF_hang_102 Q  K40 x1 x2 x3 x4 x5 x6 h3) ∧ (¬ x4 < r4 → p_UF_hang_94 Q  K40 x1 x2 x3 x6 r4 h3))))))) x1 (wI h1 15 x2 x6)) h))
def p_UF_hang (Q : Int32 → AH → Prop) (x1 : Int32) (x2 : Int32) (x3 : Int32) (h : AH) : Prop := p_UF_isHouse (fun r2 h1 => ((r2 = 0 → Q (-5) h1) ∧ (¬ r2 = 0 → p_UF_isHouse (fun r4 h3 => ((¬ r4 = 0 → p_UF_within (fun r6 h5 => ((¬ r6 = 0 → ∃ n, p_UF_hang_40 Q   n x1 x2 x3 (-1) (-1) 0 h5) ∧ (r6 = 0 → Q (-7) h5))) x3 0 1 h3) ∧ (r4 = 0 → Q (-5) h3))) x2 h1))) x1 h
set_option maxRecDepth 20000 in
theorem r_UF_hang_102 {G : GG} {d : Nat} {Q : Int32 → AH → Prop} {K40 : Int32 → Int32 → Int32 → Int32 → Int32 → Int32 → AH → Prop} (k40 : ∀ x1 x2 x3 x4 x5 x6 h, K40 x1 x2 x3 x4 x5 x6 h → Att G T1 m_UF_hang (d + 7) 40 [some (.ref 0), some (.int x1), some (.int x2), some (.int x3), some (.int x4), some (.int x5), some (.int x6), none] [] h 0 0 (iQ Q)) (x1 : Int32) (x2 : Int32) (x3 : Int32) (x4 : Int32) (x5 : Int32) (x6 : Int32) (h : AH) (H : p_UF_hang_102 Q K40 x1 x2 x3 x4 x5 x6 h) : Att G T1 m_UF_hang (d + 7) 102 [some (.ref 0), some (.int x1), some (.int x2), some (.int x3), some (.int x4), some (.int x5), some (.int x6), none] [] h 0 0 (iQ Q) := by
  refine A_iinc 1 [some (.ref 0), some (.int x1), some (.int x2), some (.int x3), some (.int x4), some (.int x5), some (.int (x6 + 1)), none] d_UF_hang_102 rfl (by decide) (by decide) rfl rfl ?_
  refine A_goto 40 d_UF_hang_105 (by decide) ?_
  exact k40 _ _ _ _ _ _ _ H
set_option maxRecDepth 20000 in
theorem r_UF_hang_94 {G : GG} {d : Nat} {Q : Int32 → AH → Prop} {K40 : Int32 → Int32 → Int32 → Int32 → Int32 → Int32 → AH → Prop} (k40 : ∀ x1 x2 x3 x4 x5 x6 h, K40 x1 x2 x3 x4 x5 x6 h → Att G T1 m_UF_hang (d + 7) 40 [some (.ref 0), some (.int x1), some (.int x2), some (.int x3), some (.int x4), some (.int x5), some (.int x6), none] [] h 0 0 (iQ Q)) (x1 : Int32) (x2 : Int32) (x3 : Int32) (x6 : Int32) (x7 : Int32) (h : AH) (H : p_UF_hang_94 Q K40 x1 x2 x3 x6 x7 h) : Att G T1 m_UF_hang (d + 7) 94 [some (.ref 0), some (.int x1), some (.int x2), some (.int x3), none, none, some (.int x6), some (.int x7)] [] h 0 0 (iQ Q) := by
  refine A_iload d_UF_hang_94 rfl ?_
  refine A_istore [some (.ref 0), some (.int x1), some (.int x2), some (.int x3), some (.int x7), none, some (.int x6), some (.int x7)] d_UF_hang_96 (by decide) rfl rfl ?_
  refine A_iload d_UF_hang_98 rfl ?_
  refine A_istore [some (.ref 0), some (.int x1), some (.int x2), some (.int x3), some (.int x7), some (.int x6), some (.int x6), some (.int x7)] d_UF_hang_100 (by decide) rfl rfl ?_
  refine A_sub (L' := [some (.ref 0), some (.int x1), some (.int x2), some (.int x3), some (.int x7), some (.int x6), some (.int x6), none]) ⟨rfl, rfl, rfl, rfl, rfl, rfl, rfl, trivial⟩ ?_
  exact r_UF_hang_102  k40 _ _ _ _ _ _ _ H
set_option maxRecDepth 20000 in
theorem r_UF_hang_40 {G : GG} {d : Nat} {Q : Int32 → AH → Prop} : ∀ (n : Nat) (x1 : Int32) (x2 : Int32) (x3 : Int32) (x4 : Int32) (x5 : Int32) (x6 : Int32) (h : AH), p_UF_hang_40 Q n x1 x2 x3 x4 x5 x6 h → Att G T1 m_UF_hang (d + 7) 40 [some (.ref 0), some (.int x1), some (.int x2), some (.int x3), some (.int x4), some (.int x5), some (.int x6), none] [] h 0 0 (iQ Q) := by
  intro n
  induction n with
  | zero => intro x1 x2 x3 x4 x5 x6 h H; exact H.elim
  | succ n k40 =>
    intro x1 x2 x3 x4 x5 x6 h H
    refine A_iload d_UF_hang_40 rfl ?_
    refine A_bipush 9 (by decide) d_UF_hang_42 ?_
    refine A_icmp_gt 108 d_UF_hang_44 (by decide) (fun z => ?_) (fun z => ?_)
    · have H := H.1 z
      refine A_iload_n d_UF_hang_108 rfl ?_
      refine A_if_ne 117 d_UF_hang_109 (by decide) (fun z => ?_) (fun z => ?_)
      · have H := H.1 z
        refine A_iload d_UF_hang_117 rfl ?_
        exact A_iret d_UF_hang_119 rfl rfl H
      · have H := H.2 z
        refine A_iload d_UF_hang_112 rfl ?_
        refine A_goto 119 d_UF_hang_114 (by decide) ?_
        exact A_iret d_UF_hang_119 rfl rfl H
    · have H := H.2 z
      refine A_aload_n d_UF_hang_47 rfl ?_
      refine A_cV [.ref 0] [] (ct_UF_110 rfl) d_UF_hang_48 rfl rfl (by decide) (Nat.le_of_ble_eq_true rfl) (rcA_o (c := 11) rfl (vA_s (by decide)) rfl (by decide) rfl) (ok_UF_ready (d := d + 3) H) (fun h1 H => ?_)
      refine A_aload_n d_UF_hang_51 rfl ?_
      refine A_get (v := .ref 13) d_UF_hang_52 (fo_UF_44_11 rfl) (vA_s (by decide)) rfl (by first | rfl | (show Value.int _ = Value.int _; simp [wI, wL, wR, wC, up])) ?_
      refine A_get (v := .ref 14) d_UF_hang_55 (fo_UF_149_2 rfl) (vA_s (by decide)) rfl (by first | rfl | (show Value.int _ = Value.int _; simp [wI, wL, wR, wC, up])) ?_
      refine A_get (v := .ref 15) d_UF_hang_58 (fo_UF_121_10 rfl) (vA_s (by decide)) rfl (by first | rfl | (show Value.int _ = Value.int _; simp [wI, wL, wR, wC, up])) ?_
      refine A_iload_n d_UF_hang_61 rfl ?_
      refine A_iload d_UF_hang_62 rfl ?_
      obtain ⟨c2, H⟩ := H
      refine A_iast (n := 7) d_UF_hang_64 (vA_s (by decide)) rfl c2 ?_
      refine A_aload_n d_UF_hang_65 rfl ?_
      refine A_get (v := .ref 13) d_UF_hang_66 (fo_UF_44_11 rfl) (vA_s (by decide)) rfl (by first | rfl | (show Value.int _ = Value.int _; simp [wI, wL, wR, wC, up])) ?_
      refine A_iload_n d_UF_hang_69 rfl ?_
      refine A_cI [.ref 13, .int x1] [] (ct_UF_177 rfl) d_UF_hang_70 rfl rfl (by decide) (Nat.le_of_ble_eq_true rfl) (rcA_o (c := 2) rfl (vA_s (by decide)) rfl (by decide) rfl) (ok_Dusk_firstDown (d := d) H) (fun r4 h3 H => ?_)
      refine A_istore [some (.ref 0), some (.int x1), some (.int x2), some (.int x3), some (.int x4), some (.int x5), some (.int x6), some (.int r4)] d_UF_hang_73 (by decide) rfl rfl ?_
      refine A_iload d_UF_hang_75 rfl ?_
      refine A_iconst (-1) (by decide) d_UF_hang_77 ?_
      refine A_icmp_eq 102 d_UF_hang_78 (by decide) (fun z => ?_) (fun z => ?_)
      · have H := H.1 z
        refine A_sub (L' := [some (.ref 0), some (.int x1), some (.int x2), some (.int x3), some (.int x4), some (.int x5), some (.int x6), none]) ⟨rfl, rfl, rfl, rfl, rfl, rfl, rfl, trivial⟩ ?_
        exact r_UF_hang_102  k40 _ _ _ _ _ _ _ H
      · have H := H.2 z
        refine A_iload d_UF_hang_81 rfl ?_
        refine A_iconst (-1) (by decide) d_UF_hang_83 ?_
        refine A_icmp_eq 94 d_UF_hang_84 (by decide) (fun z => ?_) (fun z => ?_)
        · have H := H.1 z
          refine A_sub (L' := [some (.ref 0), some (.int x1), some (.int x2), some (.int x3), none, none, some (.int x6), some (.int r4)]) ⟨rfl, rfl, rfl, rfl, rfl, rfl, trivial⟩ ?_
          exact r_UF_hang_94  k40 _ _ _ _ _ _ H
        · have H := H.2 z
          refine A_iload d_UF_hang_87 rfl ?_
          refine A_iload d_UF_hang_89 rfl ?_
          refine A_icmp_gt 102 d_UF_hang_91 (by decide) (fun z => ?_) (fun z => ?_)
          · have H := H.1 z
            refine A_sub (L' := [some (.ref 0), some (.int x1), some (.int x2), some (.int x3), some (.int x4), some (.int x5), some (.int x6), none]) ⟨rfl, rfl, rfl, rfl, rfl, rfl, rfl, trivial⟩ ?_
            exact r_UF_hang_102  k40 _ _ _ _ _ _ _ H
          · have H := H.2 z
            refine A_sub (L' := [some (.ref 0), some (.int x1), some (.int x2), some (.int x3), none, none, some (.int x6), some (.int r4)]) ⟨rfl, rfl, rfl, rfl, rfl, rfl, trivial⟩ ?_
            exact r_UF_hang_94  k40 _ _ _ _ _ _ H
set_option maxRecDepth 20000 in
theorem r_UF_hang_0 {G : GG} {d : Nat} {Q : Int32 → AH → Prop} (x1 : Int32) (x2 : Int32) (x3 : Int32) (h : AH) (H : p_UF_hang Q x1 x2 x3 h) : Att G T1 m_UF_hang (d + 7) 0 [some (.ref 0), some (.int x1), some (.int x2), some (.int x3), none, none, none, none] [] h 0 0 (iQ Q) := by
  refine A_aload_n d_UF_hang_0 rfl ?_
  refine A_iload_n d_UF_hang_1 rfl ?_
  refine A_cI [.ref 0, .int x1] [] (ct_UF_107 rfl) d_UF_hang_2 rfl rfl (by decide) (Nat.le_of_ble_eq_true rfl) (rcA_o (c := 11) rfl (vA_s (by decide)) rfl (by decide) rfl) (ok_UF_isHouse (d := d + 5) H) (fun r2 h1 H => ?_)
  refine A_if_eq 16 d_UF_hang_5 (by decide) (fun z => ?_) (fun z => ?_)
  · have H := H.1 z
    refine A_bipush (-5) (by decide) d_UF_hang_16 ?_
    exact A_iret d_UF_hang_18 rfl rfl H
  · have H := H.2 z
    refine A_aload_n d_UF_hang_8 rfl ?_
    refine A_iload_n d_UF_hang_9 rfl ?_
    refine A_cI [.ref 0, .int x2] [] (ct_UF_107 rfl) d_UF_hang_10 rfl rfl (by decide) (Nat.le_of_ble_eq_true rfl) (rcA_o (c := 11) rfl (vA_s (by decide)) rfl (by decide) rfl) (ok_UF_isHouse (d := d + 5) H) (fun r4 h3 H => ?_)
    refine A_if_ne 19 d_UF_hang_13 (by decide) (fun z => ?_) (fun z => ?_)
    · have H := H.1 z
      refine A_iload_n d_UF_hang_19 rfl ?_
      refine A_iconst 0 (by decide) d_UF_hang_20 ?_
      refine A_iconst 1 (by decide) d_UF_hang_21 ?_
      refine A_cI [.int x3, .int 0, .int 1] [] (ct_UF_95 rfl) d_UF_hang_22 rfl rfl (by decide) (Nat.le_of_ble_eq_true rfl) trivial (ok_UF_within (d := d + 6) H) (fun r6 h5 H => ?_)
      refine A_if_ne 31 d_UF_hang_25 (by decide) (fun z => ?_) (fun z => ?_)
      · have H := H.1 z
        refine A_iconst (-1) (by decide) d_UF_hang_31 ?_
        refine A_istore [some (.ref 0), some (.int x1), some (.int x2), some (.int x3), some (.int (-1)), none, none, none] d_UF_hang_32 (by decide) rfl rfl ?_
        refine A_iconst (-1) (by decide) d_UF_hang_34 ?_
        refine A_istore [some (.ref 0), some (.int x1), some (.int x2), some (.int x3), some (.int (-1)), some (.int (-1)), none, none] d_UF_hang_35 (by decide) rfl rfl ?_
        refine A_iconst 0 (by decide) d_UF_hang_37 ?_
        refine A_istore [some (.ref 0), some (.int x1), some (.int x2), some (.int x3), some (.int (-1)), some (.int (-1)), some (.int 0), none] d_UF_hang_38 (by decide) rfl rfl ?_
        obtain ⟨n9, H⟩ := H
        exact r_UF_hang_40   n9 _ _ _ _ _ _ _ H
      · have H := H.2 z
        refine A_bipush (-7) (by decide) d_UF_hang_28 ?_
        exact A_iret d_UF_hang_30 rfl rfl H
    · have H := H.2 z
      refine A_bipush (-5) (by decide) d_UF_hang_16 ?_
      exact A_iret d_UF_hang_18 rfl rfl H
set_option maxRecDepth 20000 in
theorem ok_UF_hang {G : GG} {d : Nat} {Q : Int32 → AH → Prop} {x1 : Int32} {x2 : Int32} {x3 : Int32} {h : AH} (H : p_UF_hang Q x1 x2 x3 h) : WP G T1 m_UF_hang (d + 7) [.ref 0, .int x1, .int x2, .int x3] h 0 0 (iQ Q) := by
  exact WP.enter 4 (by decide) rfl rfl (r_UF_hang_0 x1 x2 x3 h H)
theorem d_UF_night_0 : decode prog_1_method_21_code 0 = .ok (.iload_n 1, 1) := by decide +kernel
theorem d_UF_night_1 : decode prog_1_method_21_code 1 = .ok (.invokestatic 143, 3) := by decide +kernel
theorem d_UF_night_4 : decode prog_1_method_21_code 4 = .ok (.ifCond .ne 6, 3) := by decide +kernel
theorem d_UF_night_7 : decode prog_1_method_21_code 7 = .ok (.bipush (-2), 2) := by decide +kernel
theorem d_UF_night_9 : decode prog_1_method_21_code 9 = .ok (.ireturn, 1) := by decide +kernel
theorem d_UF_night_10 : decode prog_1_method_21_code 10 = .ok (.aload_n 0, 1) := by decide +kernel
theorem d_UF_night_11 : decode prog_1_method_21_code 11 = .ok (.invokevirtual 110, 3) := by decide +kernel
theorem d_UF_night_14 : decode prog_1_method_21_code 14 = .ok (.aload_n 0, 1) := by decide +kernel
theorem d_UF_night_15 : decode prog_1_method_21_code 15 = .ok (.getfield 44, 3) := by decide +kernel
theorem d_UF_night_18 : decode prog_1_method_21_code 18 = .ok (.iload_n 1, 1) := by decide +kernel
theorem d_UF_night_19 : decode prog_1_method_21_code 19 = .ok (.invokevirtual 146, 3) := by decide +kernel
theorem d_UF_night_22 : decode prog_1_method_21_code 22 = .ok (.iconst 0, 1) := by decide +kernel
theorem d_UF_night_23 : decode prog_1_method_21_code 23 = .ok (.istore_n 2, 1) := by decide +kernel
theorem d_UF_night_24 : decode prog_1_method_21_code 24 = .ok (.iload_n 2, 1) := by decide +kernel
theorem d_UF_night_25 : decode prog_1_method_21_code 25 = .ok (.aload_n 0, 1) := by decide +kernel
theorem d_UF_night_26 : decode prog_1_method_21_code 26 = .ok (.getfield 34, 3) := by decide +kernel
theorem d_UF_night_29 : decode prog_1_method_21_code 29 = .ok (.getfield 80, 3) := by decide +kernel
theorem d_UF_night_32 : decode prog_1_method_21_code 32 = .ok (.if_icmp .ge 30, 3) := by decide +kernel
theorem d_UF_night_35 : decode prog_1_method_21_code 35 = .ok (.aload_n 0, 1) := by decide +kernel
theorem d_UF_night_36 : decode prog_1_method_21_code 36 = .ok (.getfield 34, 3) := by decide +kernel
theorem d_UF_night_39 : decode prog_1_method_21_code 39 = .ok (.getfield 121, 3) := by decide +kernel
theorem d_UF_night_42 : decode prog_1_method_21_code 42 = .ok (.iload_n 2, 1) := by decide +kernel
theorem d_UF_night_43 : decode prog_1_method_21_code 43 = .ok (.aload_n 0, 1) := by decide +kernel
theorem d_UF_night_44 : decode prog_1_method_21_code 44 = .ok (.getfield 44, 3) := by decide +kernel
theorem d_UF_night_47 : decode prog_1_method_21_code 47 = .ok (.getfield 149, 3) := by decide +kernel
theorem d_UF_night_50 : decode prog_1_method_21_code 50 = .ok (.getfield 121, 3) := by decide +kernel
theorem d_UF_night_53 : decode prog_1_method_21_code 53 = .ok (.iload_n 2, 1) := by decide +kernel
theorem d_UF_night_54 : decode prog_1_method_21_code 54 = .ok (.iaload, 1) := by decide +kernel
theorem d_UF_night_55 : decode prog_1_method_21_code 55 = .ok (.iastore, 1) := by decide +kernel
theorem d_UF_night_56 : decode prog_1_method_21_code 56 = .ok (.iinc 2 1, 3) := by decide +kernel
theorem d_UF_night_59 : decode prog_1_method_21_code 59 = .ok (.goto (-35), 3) := by decide +kernel
theorem d_UF_night_62 : decode prog_1_method_21_code 62 = .ok (.aload_n 0, 1) := by decide +kernel
theorem d_UF_night_63 : decode prog_1_method_21_code 63 = .ok (.getfield 34, 3) := by decide +kernel
theorem d_UF_night_66 : decode prog_1_method_21_code 66 = .ok (.invokevirtual 184, 3) := by decide +kernel
theorem d_UF_night_69 : decode prog_1_method_21_code 69 = .ok (.ireturn, 1) := by decide +kernel
def p_UF_night_24 (Q : Int32 → AH → Prop) : Nat → Int32 → AH → Prop
  | 0 => fun _ _ => False
  | n + 1 => fun x2 h => let K24 := p_UF_night_24 Q n; (((h.1 5 3) ≤ x2 → p_Town_downCount (fun r2 h1 => Q r2 h1) 5 h) ∧ (¬ (h.1 5 3) ≤ x2 → inb x2 7 ∧ K24 (x2 + 1) (wI h 6 x2 (h.1 15 x2))))
def p_UF_night (Q : Int32 → AH → Prop) (x1 : Int32) (h : AH) : Prop := p_UF_isSpan (fun r2 h1 => ((¬ r2 = 0 → p_UF_ready (fun h3 => p_Dusk_go (fun h4 => ∃ n, p_UF_night_24 Q   n 0 h4) x1 h3) h1) ∧ (r2 = 0 → Q (-2) h1))) x1 h
set_option maxRecDepth 20000 in
theorem r_UF_night_24 {G : GG} {d : Nat} {Q : Int32 → AH → Prop} : ∀ (n : Nat) (x2 : Int32) (h : AH), p_UF_night_24 Q n x2 h → Att G T1 m_UF_night (d + 7) 24 [some (.ref 0), none, some (.int x2)] [] h 0 0 (iQ Q) := by
  intro n
  induction n with
  | zero => intro x2 h H; exact H.elim
  | succ n k24 =>
    intro x2 h H
    refine A_iload_n d_UF_night_24 rfl ?_
    refine A_aload_n d_UF_night_25 rfl ?_
    refine A_get (v := .ref 5) d_UF_night_26 (fo_UF_34_11 rfl) (vA_s (by decide)) rfl (by first | rfl | (show Value.int _ = Value.int _; simp [wI, wL, wR, wC, up])) ?_
    refine A_get (v := .int (h.1 5 3)) d_UF_night_29 (fo_UF_80_10 rfl) (vA_s (by decide)) rfl (by first | rfl | (show Value.int _ = Value.int _; simp [wI, wL, wR, wC, up])) ?_
    refine A_icmp_ge 62 d_UF_night_32 (by decide) (fun z => ?_) (fun z => ?_)
    · have H := H.1 z
      refine A_aload_n d_UF_night_62 rfl ?_
      refine A_get (v := .ref 5) d_UF_night_63 (fo_UF_34_11 rfl) (vA_s (by decide)) rfl (by first | rfl | (show Value.int _ = Value.int _; simp [wI, wL, wR, wC, up])) ?_
      refine A_cI [.ref 5] [] (ct_UF_184 rfl) d_UF_night_66 rfl rfl (by decide) (Nat.le_of_ble_eq_true rfl) (rcA_o (c := 10) rfl (vA_s (by decide)) rfl (by decide) rfl) (ok_Town_downCount (d := d + 4) H) (fun r2 h1 H => ?_)
      exact A_iret d_UF_night_69 rfl rfl H
    · have H := H.2 z
      refine A_aload_n d_UF_night_35 rfl ?_
      refine A_get (v := .ref 5) d_UF_night_36 (fo_UF_34_11 rfl) (vA_s (by decide)) rfl (by first | rfl | (show Value.int _ = Value.int _; simp [wI, wL, wR, wC, up])) ?_
      refine A_get (v := .ref 6) d_UF_night_39 (fo_UF_121_10 rfl) (vA_s (by decide)) rfl (by first | rfl | (show Value.int _ = Value.int _; simp [wI, wL, wR, wC, up])) ?_
      refine A_iload_n d_UF_night_42 rfl ?_
      refine A_aload_n d_UF_night_43 rfl ?_
      refine A_get (v := .ref 13) d_UF_night_44 (fo_UF_44_11 rfl) (vA_s (by decide)) rfl (by first | rfl | (show Value.int _ = Value.int _; simp [wI, wL, wR, wC, up])) ?_
      refine A_get (v := .ref 14) d_UF_night_47 (fo_UF_149_2 rfl) (vA_s (by decide)) rfl (by first | rfl | (show Value.int _ = Value.int _; simp [wI, wL, wR, wC, up])) ?_
      refine A_get (v := .ref 15) d_UF_night_50 (fo_UF_121_10 rfl) (vA_s (by decide)) rfl (by first | rfl | (show Value.int _ = Value.int _; simp [wI, wL, wR, wC, up])) ?_
      refine A_iload_n d_UF_night_53 rfl ?_
      obtain ⟨c3, H⟩ := H
      refine A_ialdv (n := 7) (v := (h.1 15 x2)) d_UF_night_54 (vA_s (by decide)) rfl c3 rfl ?_
      refine A_iast (n := 7) d_UF_night_55 (vA_s (by decide)) rfl c3 ?_
      refine A_iinc 1 [some (.ref 0), none, some (.int (x2 + 1))] d_UF_night_56 rfl (by decide) (by decide) rfl rfl ?_
      refine A_goto 24 d_UF_night_59 (by decide) ?_
      exact k24 _ _ H
set_option maxRecDepth 20000 in
theorem r_UF_night_0 {G : GG} {d : Nat} {Q : Int32 → AH → Prop} (x1 : Int32) (h : AH) (H : p_UF_night Q x1 h) : Att G T1 m_UF_night (d + 7) 0 [some (.ref 0), some (.int x1), none] [] h 0 0 (iQ Q) := by
  refine A_iload_n d_UF_night_0 rfl ?_
  refine A_cI [.int x1] [] (ct_UF_143 rfl) d_UF_night_1 rfl rfl (by decide) (Nat.le_of_ble_eq_true rfl) trivial (ok_UF_isSpan (d := d + 5) H) (fun r2 h1 H => ?_)
  refine A_if_ne 10 d_UF_night_4 (by decide) (fun z => ?_) (fun z => ?_)
  · have H := H.1 z
    refine A_aload_n d_UF_night_10 rfl ?_
    refine A_cV [.ref 0] [] (ct_UF_110 rfl) d_UF_night_11 rfl rfl (by decide) (Nat.le_of_ble_eq_true rfl) (rcA_o (c := 11) rfl (vA_s (by decide)) rfl (by decide) rfl) (ok_UF_ready (d := d + 3) H) (fun h3 H => ?_)
    refine A_aload_n d_UF_night_14 rfl ?_
    refine A_get (v := .ref 13) d_UF_night_15 (fo_UF_44_11 rfl) (vA_s (by decide)) rfl (by first | rfl | (show Value.int _ = Value.int _; simp [wI, wL, wR, wC, up])) ?_
    refine A_iload_n d_UF_night_18 rfl ?_
    refine A_cV [.ref 13, .int x1] [] (ct_UF_146 rfl) d_UF_night_19 rfl rfl (by decide) (Nat.le_of_ble_eq_true rfl) (rcA_o (c := 2) rfl (vA_s (by decide)) rfl (by decide) rfl) (ok_Dusk_go (d := d) H) (fun h4 H => ?_)
    refine A_iconst 0 (by decide) d_UF_night_22 ?_
    refine A_istore_n [some (.ref 0), some (.int x1), some (.int 0)] d_UF_night_23 (by decide) rfl rfl ?_
    refine A_sub (L' := [some (.ref 0), none, some (.int 0)]) ⟨rfl, rfl, trivial⟩ ?_
    obtain ⟨n9, H⟩ := H
    exact r_UF_night_24   n9 _ _ H
  · have H := H.2 z
    refine A_bipush (-2) (by decide) d_UF_night_7 ?_
    exact A_iret d_UF_night_9 rfl rfl H
set_option maxRecDepth 20000 in
theorem ok_UF_night {G : GG} {d : Nat} {Q : Int32 → AH → Prop} {x1 : Int32} {h : AH} (H : p_UF_night Q x1 h) : WP G T1 m_UF_night (d + 7) [.ref 0, .int x1] h 0 0 (iQ Q) := by
  exact WP.enter 1 (by decide) rfl rfl (r_UF_night_0 x1 h H)
theorem d_UF_judge_0 : decode prog_1_method_23_code 0 = .ok (.aload_n 0, 1) := by decide +kernel
theorem d_UF_judge_1 : decode prog_1_method_23_code 1 = .ok (.iload_n 1, 1) := by decide +kernel
theorem d_UF_judge_2 : decode prog_1_method_23_code 2 = .ok (.invokevirtual 198, 3) := by decide +kernel
theorem d_UF_judge_5 : decode prog_1_method_23_code 5 = .ok (.istore_n 3, 1) := by decide +kernel
theorem d_UF_judge_6 : decode prog_1_method_23_code 6 = .ok (.iload_n 3, 1) := by decide +kernel
theorem d_UF_judge_7 : decode prog_1_method_23_code 7 = .ok (.ifCond .eq 5, 3) := by decide +kernel
theorem d_UF_judge_10 : decode prog_1_method_23_code 10 = .ok (.iload_n 3, 1) := by decide +kernel
theorem d_UF_judge_11 : decode prog_1_method_23_code 11 = .ok (.ireturn, 1) := by decide +kernel
theorem d_UF_judge_12 : decode prog_1_method_23_code 12 = .ok (.iload_n 2, 1) := by decide +kernel
theorem d_UF_judge_13 : decode prog_1_method_23_code 13 = .ok (.invokestatic 143, 3) := by decide +kernel
theorem d_UF_judge_16 : decode prog_1_method_23_code 16 = .ok (.ifCond .ne 6, 3) := by decide +kernel
theorem d_UF_judge_19 : decode prog_1_method_23_code 19 = .ok (.bipush (-7), 2) := by decide +kernel
theorem d_UF_judge_21 : decode prog_1_method_23_code 21 = .ok (.ireturn, 1) := by decide +kernel
theorem d_UF_judge_22 : decode prog_1_method_23_code 22 = .ok (.aload_n 0, 1) := by decide +kernel
theorem d_UF_judge_23 : decode prog_1_method_23_code 23 = .ok (.invokevirtual 110, 3) := by decide +kernel
theorem d_UF_judge_26 : decode prog_1_method_23_code 26 = .ok (.aload_n 0, 1) := by decide +kernel
theorem d_UF_judge_27 : decode prog_1_method_23_code 27 = .ok (.getfield 44, 3) := by decide +kernel
theorem d_UF_judge_30 : decode prog_1_method_23_code 30 = .ok (.iload_n 2, 1) := by decide +kernel
theorem d_UF_judge_31 : decode prog_1_method_23_code 31 = .ok (.invokevirtual 146, 3) := by decide +kernel
theorem d_UF_judge_34 : decode prog_1_method_23_code 34 = .ok (.aload_n 0, 1) := by decide +kernel
theorem d_UF_judge_35 : decode prog_1_method_23_code 35 = .ok (.getfield 23, 3) := by decide +kernel
theorem d_UF_judge_38 : decode prog_1_method_23_code 38 = .ok (.iload_n 1, 1) := by decide +kernel
theorem d_UF_judge_39 : decode prog_1_method_23_code 39 = .ok (.aaload, 1) := by decide +kernel
theorem d_UF_judge_40 : decode prog_1_method_23_code 40 = .ok (.aload_n 0, 1) := by decide +kernel
theorem d_UF_judge_41 : decode prog_1_method_23_code 41 = .ok (.getfield 44, 3) := by decide +kernel
theorem d_UF_judge_44 : decode prog_1_method_23_code 44 = .ok (.getfield 149, 3) := by decide +kernel
theorem d_UF_judge_47 : decode prog_1_method_23_code 47 = .ok (.invokevirtual 201, 3) := by decide +kernel
theorem d_UF_judge_50 : decode prog_1_method_23_code 50 = .ok (.ireturn, 1) := by decide +kernel
def p_UF_judge (Q : Int32 → AH → Prop) (x1 : Int32) (x2 : Int32) (h : AH) : Prop := p_UF_tellingRefusal (fun r2 h1 => ((r2 = 0 → p_UF_isSpan (fun r4 h3 => ((¬ r4 = 0 → p_UF_ready (fun h5 => p_Dusk_go (fun h6 => inb x1 4 ∧ 0 < rR T1 h6 3 x1.toNatClampNeg ∧ vA T1 h6 (rR T1 h6 3 x1.toNatClampNeg - 1) ∧ (rS T1 h6 (rR T1 h6 3 x1.toNatClampNeg - 1)).1 = 8 ∧ p_Sheet_firstOtherwise (fun r12 h11 => Q r12 h11) (rR T1 h6 3 x1.toNatClampNeg - 1) 14 h6) x2 h5) h3) ∧ (r4 = 0 → Q (-7) h3))) x2 h1) ∧ (¬ r2 = 0 → Q r2 h1))) x1 h
set_option maxRecDepth 20000 in
theorem r_UF_judge_0 {G : GG} {d : Nat} {Q : Int32 → AH → Prop} (x1 : Int32) (x2 : Int32) (h : AH) (H : p_UF_judge Q x1 x2 h) : Att G T1 m_UF_judge (d + 7) 0 [some (.ref 0), some (.int x1), some (.int x2), none] [] h 0 0 (iQ Q) := by
  refine A_aload_n d_UF_judge_0 rfl ?_
  refine A_iload_n d_UF_judge_1 rfl ?_
  refine A_cI [.ref 0, .int x1] [] (ct_UF_198 rfl) d_UF_judge_2 rfl rfl (by decide) (Nat.le_of_ble_eq_true rfl) (rcA_o (c := 11) rfl (vA_s (by decide)) rfl (by decide) rfl) (ok_UF_tellingRefusal (d := d + 4) H) (fun r2 h1 H => ?_)
  refine A_istore_n [some (.ref 0), some (.int x1), some (.int x2), some (.int r2)] d_UF_judge_5 (by decide) rfl rfl ?_
  refine A_iload_n d_UF_judge_6 rfl ?_
  refine A_if_eq 12 d_UF_judge_7 (by decide) (fun z => ?_) (fun z => ?_)
  · have H := H.1 z
    refine A_iload_n d_UF_judge_12 rfl ?_
    refine A_cI [.int x2] [] (ct_UF_143 rfl) d_UF_judge_13 rfl rfl (by decide) (Nat.le_of_ble_eq_true rfl) trivial (ok_UF_isSpan (d := d + 5) H) (fun r4 h3 H => ?_)
    refine A_if_ne 22 d_UF_judge_16 (by decide) (fun z => ?_) (fun z => ?_)
    · have H := H.1 z
      refine A_aload_n d_UF_judge_22 rfl ?_
      refine A_cV [.ref 0] [] (ct_UF_110 rfl) d_UF_judge_23 rfl rfl (by decide) (Nat.le_of_ble_eq_true rfl) (rcA_o (c := 11) rfl (vA_s (by decide)) rfl (by decide) rfl) (ok_UF_ready (d := d + 3) H) (fun h5 H => ?_)
      refine A_aload_n d_UF_judge_26 rfl ?_
      refine A_get (v := .ref 13) d_UF_judge_27 (fo_UF_44_11 rfl) (vA_s (by decide)) rfl (by first | rfl | (show Value.int _ = Value.int _; simp [wI, wL, wR, wC, up])) ?_
      refine A_iload_n d_UF_judge_30 rfl ?_
      refine A_cV [.ref 13, .int x2] [] (ct_UF_146 rfl) d_UF_judge_31 rfl rfl (by decide) (Nat.le_of_ble_eq_true rfl) (rcA_o (c := 2) rfl (vA_s (by decide)) rfl (by decide) rfl) (ok_Dusk_go (d := d) H) (fun h6 H => ?_)
      refine A_aload_n d_UF_judge_34 rfl ?_
      refine A_get (v := .ref 3) d_UF_judge_35 (fo_UF_23_11 rfl) (vA_s (by decide)) rfl (by first | rfl | (show Value.int _ = Value.int _; simp [wI, wL, wR, wC, up])) ?_
      refine A_iload_n d_UF_judge_38 rfl ?_
      obtain ⟨c7, H⟩ := H
      obtain ⟨c8, H⟩ := H
      refine A_aald (t := 2) (n := 4) d_UF_judge_39 (by decide) (vA_s (by decide)) rfl c7 (pos_sub c8) ?_
      refine A_aload_n d_UF_judge_40 rfl ?_
      refine A_get (v := .ref 13) d_UF_judge_41 (fo_UF_44_11 rfl) (vA_s (by decide)) rfl (by first | rfl | (show Value.int _ = Value.int _; simp [wI, wL, wR, wC, up])) ?_
      refine A_get (v := .ref 14) d_UF_judge_44 (fo_UF_149_2 rfl) (vA_s (by decide)) rfl (by first | rfl | (show Value.int _ = Value.int _; simp [wI, wL, wR, wC, up])) ?_
      obtain ⟨c9, H⟩ := H
      obtain ⟨c10, H⟩ := H
      refine A_cI [.ref (rR T1 h6 3 x1.toNatClampNeg - 1), .ref 14] [] (ct_UF_201 rfl) d_UF_judge_47 rfl rfl (by decide) (Nat.le_of_ble_eq_true rfl) (rcA_o (c := 8) rfl c9 c10 (by decide) rfl) (ok_Sheet_firstOtherwise (d := d + 6) H) (fun r12 h11 H => ?_)
      exact A_iret d_UF_judge_50 rfl rfl H
    · have H := H.2 z
      refine A_bipush (-7) (by decide) d_UF_judge_19 ?_
      exact A_iret d_UF_judge_21 rfl rfl H
  · have H := H.2 z
    refine A_iload_n d_UF_judge_10 rfl ?_
    exact A_iret d_UF_judge_11 rfl rfl H
set_option maxRecDepth 20000 in
theorem ok_UF_judge {G : GG} {d : Nat} {Q : Int32 → AH → Prop} {x1 : Int32} {x2 : Int32} {h : AH} (H : p_UF_judge Q x1 x2 h) : WP G T1 m_UF_judge (d + 7) [.ref 0, .int x1, .int x2] h 0 0 (iQ Q) := by
  exact WP.enter 1 (by decide) rfl rfl (r_UF_judge_0 x1 x2 h H)
theorem d_UF_laws_0 : decode prog_1_method_25_code 0 = .ok (.aload_n 0, 1) := by decide +kernel
theorem d_UF_laws_1 : decode prog_1_method_25_code 1 = .ok (.iload_n 1, 1) := by decide +kernel
theorem d_UF_laws_2 : decode prog_1_method_25_code 2 = .ok (.invokevirtual 198, 3) := by decide +kernel
theorem d_UF_laws_5 : decode prog_1_method_25_code 5 = .ok (.istore_n 3, 1) := by decide +kernel
theorem d_UF_laws_6 : decode prog_1_method_25_code 6 = .ok (.iload_n 3, 1) := by decide +kernel
theorem d_UF_laws_7 : decode prog_1_method_25_code 7 = .ok (.ifCond .eq 5, 3) := by decide +kernel
theorem d_UF_laws_10 : decode prog_1_method_25_code 10 = .ok (.iload_n 3, 1) := by decide +kernel
theorem d_UF_laws_11 : decode prog_1_method_25_code 11 = .ok (.ireturn, 1) := by decide +kernel
theorem d_UF_laws_12 : decode prog_1_method_25_code 12 = .ok (.iload_n 2, 1) := by decide +kernel
theorem d_UF_laws_13 : decode prog_1_method_25_code 13 = .ok (.invokestatic 143, 3) := by decide +kernel
theorem d_UF_laws_16 : decode prog_1_method_25_code 16 = .ok (.ifCond .ne 6, 3) := by decide +kernel
theorem d_UF_laws_19 : decode prog_1_method_25_code 19 = .ok (.bipush (-7), 2) := by decide +kernel
theorem d_UF_laws_21 : decode prog_1_method_25_code 21 = .ok (.ireturn, 1) := by decide +kernel
theorem d_UF_laws_22 : decode prog_1_method_25_code 22 = .ok (.iconst 0, 1) := by decide +kernel
theorem d_UF_laws_23 : decode prog_1_method_25_code 23 = .ok (.istore 4, 2) := by decide +kernel
theorem d_UF_laws_25 : decode prog_1_method_25_code 25 = .ok (.iconst 0, 1) := by decide +kernel
theorem d_UF_laws_26 : decode prog_1_method_25_code 26 = .ok (.istore 5, 2) := by decide +kernel
theorem d_UF_laws_28 : decode prog_1_method_25_code 28 = .ok (.iload 5, 2) := by decide +kernel
theorem d_UF_laws_30 : decode prog_1_method_25_code 30 = .ok (.aload_n 0, 1) := by decide +kernel
theorem d_UF_laws_31 : decode prog_1_method_25_code 31 = .ok (.getfield 76, 3) := by decide +kernel
theorem d_UF_laws_34 : decode prog_1_method_25_code 34 = .ok (.if_icmp .ge 64, 3) := by decide +kernel
theorem d_UF_laws_37 : decode prog_1_method_25_code 37 = .ok (.aload_n 0, 1) := by decide +kernel
theorem d_UF_laws_38 : decode prog_1_method_25_code 38 = .ok (.invokevirtual 110, 3) := by decide +kernel
theorem d_UF_laws_41 : decode prog_1_method_25_code 41 = .ok (.aload_n 0, 1) := by decide +kernel
theorem d_UF_laws_42 : decode prog_1_method_25_code 42 = .ok (.getfield 44, 3) := by decide +kernel
theorem d_UF_laws_45 : decode prog_1_method_25_code 45 = .ok (.aload_n 0, 1) := by decide +kernel
theorem d_UF_laws_46 : decode prog_1_method_25_code 46 = .ok (.getfield 17, 3) := by decide +kernel
theorem d_UF_laws_49 : decode prog_1_method_25_code 49 = .ok (.iload 5, 2) := by decide +kernel
theorem d_UF_laws_51 : decode prog_1_method_25_code 51 = .ok (.aaload, 1) := by decide +kernel
theorem d_UF_laws_52 : decode prog_1_method_25_code 52 = .ok (.putfield 208, 3) := by decide +kernel
theorem d_UF_laws_55 : decode prog_1_method_25_code 55 = .ok (.aload_n 0, 1) := by decide +kernel
theorem d_UF_laws_56 : decode prog_1_method_25_code 56 = .ok (.getfield 44, 3) := by decide +kernel
theorem d_UF_laws_59 : decode prog_1_method_25_code 59 = .ok (.iload_n 2, 1) := by decide +kernel
theorem d_UF_laws_60 : decode prog_1_method_25_code 60 = .ok (.invokevirtual 146, 3) := by decide +kernel
theorem d_UF_laws_63 : decode prog_1_method_25_code 63 = .ok (.aload_n 0, 1) := by decide +kernel
theorem d_UF_laws_64 : decode prog_1_method_25_code 64 = .ok (.getfield 23, 3) := by decide +kernel
theorem d_UF_laws_67 : decode prog_1_method_25_code 67 = .ok (.iload_n 1, 1) := by decide +kernel
theorem d_UF_laws_68 : decode prog_1_method_25_code 68 = .ok (.aaload, 1) := by decide +kernel
theorem d_UF_laws_69 : decode prog_1_method_25_code 69 = .ok (.aload_n 0, 1) := by decide +kernel
theorem d_UF_laws_70 : decode prog_1_method_25_code 70 = .ok (.getfield 44, 3) := by decide +kernel
theorem d_UF_laws_73 : decode prog_1_method_25_code 73 = .ok (.getfield 149, 3) := by decide +kernel
theorem d_UF_laws_76 : decode prog_1_method_25_code 76 = .ok (.invokevirtual 201, 3) := by decide +kernel
theorem d_UF_laws_79 : decode prog_1_method_25_code 79 = .ok (.iconst (-1), 1) := by decide +kernel
theorem d_UF_laws_80 : decode prog_1_method_25_code 80 = .ok (.if_icmp .ne 12, 3) := by decide +kernel
theorem d_UF_laws_83 : decode prog_1_method_25_code 83 = .ok (.iload 4, 2) := by decide +kernel
theorem d_UF_laws_85 : decode prog_1_method_25_code 85 = .ok (.iconst 1, 1) := by decide +kernel
theorem d_UF_laws_86 : decode prog_1_method_25_code 86 = .ok (.iload 5, 2) := by decide +kernel
theorem d_UF_laws_88 : decode prog_1_method_25_code 88 = .ok (.ishl, 1) := by decide +kernel
theorem d_UF_laws_89 : decode prog_1_method_25_code 89 = .ok (.ior, 1) := by decide +kernel
theorem d_UF_laws_90 : decode prog_1_method_25_code 90 = .ok (.istore 4, 2) := by decide +kernel
theorem d_UF_laws_92 : decode prog_1_method_25_code 92 = .ok (.iinc 5 1, 3) := by decide +kernel
theorem d_UF_laws_95 : decode prog_1_method_25_code 95 = .ok (.goto (-67), 3) := by decide +kernel
theorem d_UF_laws_98 : decode prog_1_method_25_code 98 = .ok (.iload 4, 2) := by decide +kernel
theorem d_UF_laws_100 : decode prog_1_method_25_code 100 = .ok (.ireturn, 1) := by decide +kernel
def p_UF_laws_92 (Q : Int32 → AH → Prop) (K28 : Int32 → Int32 → Int32 → Int32 → AH → Prop) (x1 : Int32) (x2 : Int32) (x4 : Int32) (x5 : Int32) (h : AH) : Prop := K28 x1 x2 x4 (x5 + 1) h
def p_UF_laws_28 (Q : Int32 → AH → Prop) : Nat → Int32 → Int32 → Int32 → Int32 → AH → Prop
  | 0 => fun _ _ _ _ _ => False
  | n + 1 => fun x1 x2 x4 x5 h => let K28 := p_UF_laws_28 Q n; (((h.1 0 8) ≤ x5 → Q x4 h) ∧ (¬ (h.1 0 8) ≤ x5 → p_UF_ready (fun h1 => inb x5 6 ∧ 0 < rR T1 h1 2 x5.toNatClampNeg ∧ p_Dusk_go (fun h4 => inb x1 4 ∧ 0 < rR T1 h4 3 x1.toNatClampNeg ∧ vA T1 h4 (rR T1 h4 3 x1.toNatClampNeg - 1) ∧ (rS T1 h4 (rR T1 h4 3 x1.toNatClampNeg - 1)).1 = 8 ∧ p_Sheet_firstOtherwise (fun r10 h9 => ((¬ r10 = (-1) → p_UF_laws_92 Q  K28 x1 x2 x4 x5 h9) ∧ (r10 = (-1) → p_UF_laws_92 Q  K28 x1 x2 (x4 ||| (1 <<< (x5 &&& 31))) x5 h9))) (rR T1 h4 3 x1.toNatClampNeg - 1) 14 h4) x2 (wR h1 13 8 ((rR T1 h1 2 x5.toNatClampNeg - 1) + 1))) h))
def p_UF_laws (Q : Int32 → AH → Prop) (x1 : Int32) (x2 : Int32) (h : AH) : Prop := p_UF_tellingRefusal (fun r2 h1 => ((r2 = 0 → p_UF_isSpan (fun r4 h3 => ((¬ r4 = 0 → ∃ n, p_UF_laws_28 Q   n x1 x2 0 0 h3) ∧ (r4 = 0 → Q (-7) h3))) x2 h1) ∧ (¬ r2 = 0 → Q r2 h1))) x1 h
set_option maxRecDepth 20000 in
theorem r_UF_laws_92 {G : GG} {d : Nat} {Q : Int32 → AH → Prop} {K28 : Int32 → Int32 → Int32 → Int32 → AH → Prop} (k28 : ∀ x1 x2 x4 x5 h, K28 x1 x2 x4 x5 h → Att G T1 m_UF_laws (d + 7) 28 [some (.ref 0), some (.int x1), some (.int x2), none, some (.int x4), some (.int x5)] [] h 0 0 (iQ Q)) (x1 : Int32) (x2 : Int32) (x4 : Int32) (x5 : Int32) (h : AH) (H : p_UF_laws_92 Q K28 x1 x2 x4 x5 h) : Att G T1 m_UF_laws (d + 7) 92 [some (.ref 0), some (.int x1), some (.int x2), none, some (.int x4), some (.int x5)] [] h 0 0 (iQ Q) := by
  refine A_iinc 1 [some (.ref 0), some (.int x1), some (.int x2), none, some (.int x4), some (.int (x5 + 1))] d_UF_laws_92 rfl (by decide) (by decide) rfl rfl ?_
  refine A_goto 28 d_UF_laws_95 (by decide) ?_
  exact k28 _ _ _ _ _ H
set_option maxRecDepth 20000 in
theorem r_UF_laws_28 {G : GG} {d : Nat} {Q : Int32 → AH → Prop} : ∀ (n : Nat) (x1 : Int32) (x2 : Int32) (x4 : Int32) (x5 : Int32) (h : AH), p_UF_laws_28 Q n x1 x2 x4 x5 h → Att G T1 m_UF_laws (d + 7) 28 [some (.ref 0), some (.int x1), some (.int x2), none, some (.int x4), some (.int x5)] [] h 0 0 (iQ Q) := by
  intro n
  induction n with
  | zero => intro x1 x2 x4 x5 h H; exact H.elim
  | succ n k28 =>
    intro x1 x2 x4 x5 h H
    refine A_iload d_UF_laws_28 rfl ?_
    refine A_aload_n d_UF_laws_30 rfl ?_
    refine A_get (v := .int (h.1 0 8)) d_UF_laws_31 (fo_UF_76_11 rfl) (vA_s (by decide)) rfl (by first | rfl | (show Value.int _ = Value.int _; simp [wI, wL, wR, wC, up])) ?_
    refine A_icmp_ge 98 d_UF_laws_34 (by decide) (fun z => ?_) (fun z => ?_)
    · have H := H.1 z
      refine A_iload d_UF_laws_98 rfl ?_
      exact A_iret d_UF_laws_100 rfl rfl H
    · have H := H.2 z
      refine A_aload_n d_UF_laws_37 rfl ?_
      refine A_cV [.ref 0] [] (ct_UF_110 rfl) d_UF_laws_38 rfl rfl (by decide) (Nat.le_of_ble_eq_true rfl) (rcA_o (c := 11) rfl (vA_s (by decide)) rfl (by decide) rfl) (ok_UF_ready (d := d + 3) H) (fun h1 H => ?_)
      refine A_aload_n d_UF_laws_41 rfl ?_
      refine A_get (v := .ref 13) d_UF_laws_42 (fo_UF_44_11 rfl) (vA_s (by decide)) rfl (by first | rfl | (show Value.int _ = Value.int _; simp [wI, wL, wR, wC, up])) ?_
      refine A_aload_n d_UF_laws_45 rfl ?_
      refine A_get (v := .ref 2) d_UF_laws_46 (fo_UF_17_11 rfl) (vA_s (by decide)) rfl (by first | rfl | (show Value.int _ = Value.int _; simp [wI, wL, wR, wC, up])) ?_
      refine A_iload d_UF_laws_49 rfl ?_
      obtain ⟨c2, H⟩ := H
      obtain ⟨c3, H⟩ := H
      refine A_aald (t := 1) (n := 6) d_UF_laws_51 (by decide) (vA_s (by decide)) rfl c2 (pos_sub c3) ?_
      refine A_putR (k := 8) d_UF_laws_52 (fo_UF_208_2 rfl) (Or.inr ⟨rfl, _, ft_2_8⟩) (fun z => by cases z) rfl (vA_s (by decide)) rfl rfl (fun _ => rfl) (fun _ => rfl) ?_
      refine A_aload_n d_UF_laws_55 rfl ?_
      refine A_get (v := .ref 13) d_UF_laws_56 (fo_UF_44_11 rfl) (vA_s (by decide)) rfl (by first | rfl | (show Value.int _ = Value.int _; simp [wI, wL, wR, wC, up])) ?_
      refine A_iload_n d_UF_laws_59 rfl ?_
      refine A_cV [.ref 13, .int x2] [] (ct_UF_146 rfl) d_UF_laws_60 rfl rfl (by decide) (Nat.le_of_ble_eq_true rfl) (rcA_o (c := 2) rfl (vA_s (by decide)) rfl (by decide) rfl) (ok_Dusk_go (d := d) H) (fun h4 H => ?_)
      refine A_aload_n d_UF_laws_63 rfl ?_
      refine A_get (v := .ref 3) d_UF_laws_64 (fo_UF_23_11 rfl) (vA_s (by decide)) rfl (by first | rfl | (show Value.int _ = Value.int _; simp [wI, wL, wR, wC, up])) ?_
      refine A_iload_n d_UF_laws_67 rfl ?_
      obtain ⟨c5, H⟩ := H
      obtain ⟨c6, H⟩ := H
      refine A_aald (t := 2) (n := 4) d_UF_laws_68 (by decide) (vA_s (by decide)) rfl c5 (pos_sub c6) ?_
      refine A_aload_n d_UF_laws_69 rfl ?_
      refine A_get (v := .ref 13) d_UF_laws_70 (fo_UF_44_11 rfl) (vA_s (by decide)) rfl (by first | rfl | (show Value.int _ = Value.int _; simp [wI, wL, wR, wC, up])) ?_
      refine A_get (v := .ref 14) d_UF_laws_73 (fo_UF_149_2 rfl) (vA_s (by decide)) rfl (by first | rfl | (show Value.int _ = Value.int _; simp [wI, wL, wR, wC, up])) ?_
      obtain ⟨c7, H⟩ := H
      obtain ⟨c8, H⟩ := H
      refine A_cI [.ref (rR T1 h4 3 x1.toNatClampNeg - 1), .ref 14] [] (ct_UF_201 rfl) d_UF_laws_76 rfl rfl (by decide) (Nat.le_of_ble_eq_true rfl) (rcA_o (c := 8) rfl c7 c8 (by decide) rfl) (ok_Sheet_firstOtherwise (d := d + 6) H) (fun r10 h9 H => ?_)
      refine A_iconst (-1) (by decide) d_UF_laws_79 ?_
      refine A_icmp_ne 92 d_UF_laws_80 (by decide) (fun z => ?_) (fun z => ?_)
      · have H := H.1 z
        exact r_UF_laws_92  k28 _ _ _ _ _ H
      · have H := H.2 z
        refine A_iload d_UF_laws_83 rfl ?_
        refine A_iconst 1 (by decide) d_UF_laws_85 ?_
        refine A_iload d_UF_laws_86 rfl ?_
        refine A_ishl d_UF_laws_88 ?_
        refine A_ior d_UF_laws_89 ?_
        refine A_istore [some (.ref 0), some (.int x1), some (.int x2), none, some (.int (x4 ||| (1 <<< (x5 &&& 31)))), some (.int x5)] d_UF_laws_90 (by decide) rfl rfl ?_
        exact r_UF_laws_92  k28 _ _ _ _ _ H
set_option maxRecDepth 20000 in
theorem r_UF_laws_0 {G : GG} {d : Nat} {Q : Int32 → AH → Prop} (x1 : Int32) (x2 : Int32) (h : AH) (H : p_UF_laws Q x1 x2 h) : Att G T1 m_UF_laws (d + 7) 0 [some (.ref 0), some (.int x1), some (.int x2), none, none, none] [] h 0 0 (iQ Q) := by
  refine A_aload_n d_UF_laws_0 rfl ?_
  refine A_iload_n d_UF_laws_1 rfl ?_
  refine A_cI [.ref 0, .int x1] [] (ct_UF_198 rfl) d_UF_laws_2 rfl rfl (by decide) (Nat.le_of_ble_eq_true rfl) (rcA_o (c := 11) rfl (vA_s (by decide)) rfl (by decide) rfl) (ok_UF_tellingRefusal (d := d + 4) H) (fun r2 h1 H => ?_)
  refine A_istore_n [some (.ref 0), some (.int x1), some (.int x2), some (.int r2), none, none] d_UF_laws_5 (by decide) rfl rfl ?_
  refine A_iload_n d_UF_laws_6 rfl ?_
  refine A_if_eq 12 d_UF_laws_7 (by decide) (fun z => ?_) (fun z => ?_)
  · have H := H.1 z
    refine A_iload_n d_UF_laws_12 rfl ?_
    refine A_cI [.int x2] [] (ct_UF_143 rfl) d_UF_laws_13 rfl rfl (by decide) (Nat.le_of_ble_eq_true rfl) trivial (ok_UF_isSpan (d := d + 5) H) (fun r4 h3 H => ?_)
    refine A_if_ne 22 d_UF_laws_16 (by decide) (fun z => ?_) (fun z => ?_)
    · have H := H.1 z
      refine A_iconst 0 (by decide) d_UF_laws_22 ?_
      refine A_istore [some (.ref 0), some (.int x1), some (.int x2), some (.int r2), some (.int 0), none] d_UF_laws_23 (by decide) rfl rfl ?_
      refine A_iconst 0 (by decide) d_UF_laws_25 ?_
      refine A_istore [some (.ref 0), some (.int x1), some (.int x2), some (.int r2), some (.int 0), some (.int 0)] d_UF_laws_26 (by decide) rfl rfl ?_
      refine A_sub (L' := [some (.ref 0), some (.int x1), some (.int x2), none, some (.int 0), some (.int 0)]) ⟨rfl, rfl, rfl, rfl, rfl, trivial⟩ ?_
      obtain ⟨n9, H⟩ := H
      exact r_UF_laws_28   n9 _ _ _ _ _ H
    · have H := H.2 z
      refine A_bipush (-7) (by decide) d_UF_laws_19 ?_
      exact A_iret d_UF_laws_21 rfl rfl H
  · have H := H.2 z
    refine A_iload_n d_UF_laws_10 rfl ?_
    exact A_iret d_UF_laws_11 rfl rfl H
set_option maxRecDepth 20000 in
theorem ok_UF_laws {G : GG} {d : Nat} {Q : Int32 → AH → Prop} {x1 : Int32} {x2 : Int32} {h : AH} (H : p_UF_laws Q x1 x2 h) : WP G T1 m_UF_laws (d + 7) [.ref 0, .int x1, .int x2] h 0 0 (iQ Q) := by
  exact WP.enter 3 (by decide) rfl rfl (r_UF_laws_0 x1 x2 h H)
theorem d_UF_thief_0 : decode prog_1_method_26_code 0 = .ok (.aload_n 0, 1) := by decide +kernel
theorem d_UF_thief_1 : decode prog_1_method_26_code 1 = .ok (.iload_n 1, 1) := by decide +kernel
theorem d_UF_thief_2 : decode prog_1_method_26_code 2 = .ok (.invokevirtual 198, 3) := by decide +kernel
theorem d_UF_thief_5 : decode prog_1_method_26_code 5 = .ok (.istore 4, 2) := by decide +kernel
theorem d_UF_thief_7 : decode prog_1_method_26_code 7 = .ok (.iload 4, 2) := by decide +kernel
theorem d_UF_thief_9 : decode prog_1_method_26_code 9 = .ok (.ifCond .eq 6, 3) := by decide +kernel
theorem d_UF_thief_12 : decode prog_1_method_26_code 12 = .ok (.iload 4, 2) := by decide +kernel
theorem d_UF_thief_14 : decode prog_1_method_26_code 14 = .ok (.ireturn, 1) := by decide +kernel
theorem d_UF_thief_15 : decode prog_1_method_26_code 15 = .ok (.aload_n 0, 1) := by decide +kernel
theorem d_UF_thief_16 : decode prog_1_method_26_code 16 = .ok (.iload_n 3, 1) := by decide +kernel
theorem d_UF_thief_17 : decode prog_1_method_26_code 17 = .ok (.invokevirtual 107, 3) := by decide +kernel
theorem d_UF_thief_20 : decode prog_1_method_26_code 20 = .ok (.ifCond .ne 6, 3) := by decide +kernel
theorem d_UF_thief_23 : decode prog_1_method_26_code 23 = .ok (.bipush (-5), 2) := by decide +kernel
theorem d_UF_thief_25 : decode prog_1_method_26_code 25 = .ok (.ireturn, 1) := by decide +kernel
theorem d_UF_thief_26 : decode prog_1_method_26_code 26 = .ok (.iload_n 2, 1) := by decide +kernel
theorem d_UF_thief_27 : decode prog_1_method_26_code 27 = .ok (.invokestatic 143, 3) := by decide +kernel
theorem d_UF_thief_30 : decode prog_1_method_26_code 30 = .ok (.ifCond .ne 6, 3) := by decide +kernel
theorem d_UF_thief_33 : decode prog_1_method_26_code 33 = .ok (.bipush (-7), 2) := by decide +kernel
theorem d_UF_thief_35 : decode prog_1_method_26_code 35 = .ok (.ireturn, 1) := by decide +kernel
theorem d_UF_thief_36 : decode prog_1_method_26_code 36 = .ok (.iconst 0, 1) := by decide +kernel
theorem d_UF_thief_37 : decode prog_1_method_26_code 37 = .ok (.istore 5, 2) := by decide +kernel
theorem d_UF_thief_39 : decode prog_1_method_26_code 39 = .ok (.iconst 0, 1) := by decide +kernel
theorem d_UF_thief_40 : decode prog_1_method_26_code 40 = .ok (.istore 6, 2) := by decide +kernel
theorem d_UF_thief_42 : decode prog_1_method_26_code 42 = .ok (.iload 6, 2) := by decide +kernel
theorem d_UF_thief_44 : decode prog_1_method_26_code 44 = .ok (.bipush 20, 2) := by decide +kernel
theorem d_UF_thief_46 : decode prog_1_method_26_code 46 = .ok (.if_icmp .gt 67, 3) := by decide +kernel
theorem d_UF_thief_49 : decode prog_1_method_26_code 49 = .ok (.aload_n 0, 1) := by decide +kernel
theorem d_UF_thief_50 : decode prog_1_method_26_code 50 = .ok (.invokevirtual 110, 3) := by decide +kernel
theorem d_UF_thief_53 : decode prog_1_method_26_code 53 = .ok (.aload_n 0, 1) := by decide +kernel
theorem d_UF_thief_54 : decode prog_1_method_26_code 54 = .ok (.getfield 44, 3) := by decide +kernel
theorem d_UF_thief_57 : decode prog_1_method_26_code 57 = .ok (.getfield 149, 3) := by decide +kernel
theorem d_UF_thief_60 : decode prog_1_method_26_code 60 = .ok (.getfield 124, 3) := by decide +kernel
theorem d_UF_thief_63 : decode prog_1_method_26_code 63 = .ok (.iload_n 3, 1) := by decide +kernel
theorem d_UF_thief_64 : decode prog_1_method_26_code 64 = .ok (.dup2, 1) := by decide +kernel
theorem d_UF_thief_65 : decode prog_1_method_26_code 65 = .ok (.iaload, 1) := by decide +kernel
theorem d_UF_thief_66 : decode prog_1_method_26_code 66 = .ok (.iload 6, 2) := by decide +kernel
theorem d_UF_thief_68 : decode prog_1_method_26_code 68 = .ok (.iadd, 1) := by decide +kernel
theorem d_UF_thief_69 : decode prog_1_method_26_code 69 = .ok (.iastore, 1) := by decide +kernel
theorem d_UF_thief_70 : decode prog_1_method_26_code 70 = .ok (.aload_n 0, 1) := by decide +kernel
theorem d_UF_thief_71 : decode prog_1_method_26_code 71 = .ok (.getfield 44, 3) := by decide +kernel
theorem d_UF_thief_74 : decode prog_1_method_26_code 74 = .ok (.iload_n 2, 1) := by decide +kernel
theorem d_UF_thief_75 : decode prog_1_method_26_code 75 = .ok (.invokevirtual 146, 3) := by decide +kernel
theorem d_UF_thief_78 : decode prog_1_method_26_code 78 = .ok (.aload_n 0, 1) := by decide +kernel
theorem d_UF_thief_79 : decode prog_1_method_26_code 79 = .ok (.getfield 23, 3) := by decide +kernel
theorem d_UF_thief_82 : decode prog_1_method_26_code 82 = .ok (.iload_n 1, 1) := by decide +kernel
theorem d_UF_thief_83 : decode prog_1_method_26_code 83 = .ok (.aaload, 1) := by decide +kernel
theorem d_UF_thief_84 : decode prog_1_method_26_code 84 = .ok (.aload_n 0, 1) := by decide +kernel
theorem d_UF_thief_85 : decode prog_1_method_26_code 85 = .ok (.getfield 44, 3) := by decide +kernel
theorem d_UF_thief_88 : decode prog_1_method_26_code 88 = .ok (.getfield 149, 3) := by decide +kernel
theorem d_UF_thief_91 : decode prog_1_method_26_code 91 = .ok (.invokevirtual 201, 3) := by decide +kernel
theorem d_UF_thief_94 : decode prog_1_method_26_code 94 = .ok (.iconst (-1), 1) := by decide +kernel
theorem d_UF_thief_95 : decode prog_1_method_26_code 95 = .ok (.if_icmp .ne 12, 3) := by decide +kernel
theorem d_UF_thief_98 : decode prog_1_method_26_code 98 = .ok (.iload 5, 2) := by decide +kernel
theorem d_UF_thief_100 : decode prog_1_method_26_code 100 = .ok (.iconst 1, 1) := by decide +kernel
theorem d_UF_thief_101 : decode prog_1_method_26_code 101 = .ok (.iload 6, 2) := by decide +kernel
theorem d_UF_thief_103 : decode prog_1_method_26_code 103 = .ok (.ishl, 1) := by decide +kernel
theorem d_UF_thief_104 : decode prog_1_method_26_code 104 = .ok (.ior, 1) := by decide +kernel
theorem d_UF_thief_105 : decode prog_1_method_26_code 105 = .ok (.istore 5, 2) := by decide +kernel
theorem d_UF_thief_107 : decode prog_1_method_26_code 107 = .ok (.iinc 6 1, 3) := by decide +kernel
theorem d_UF_thief_110 : decode prog_1_method_26_code 110 = .ok (.goto (-68), 3) := by decide +kernel
theorem d_UF_thief_113 : decode prog_1_method_26_code 113 = .ok (.iload 5, 2) := by decide +kernel
theorem d_UF_thief_115 : decode prog_1_method_26_code 115 = .ok (.ireturn, 1) := by decide +kernel
def p_UF_thief_107 (Q : Int32 → AH → Prop) (K42 : Int32 → Int32 → Int32 → Int32 → Int32 → AH → Prop) (x1 : Int32) (x2 : Int32) (x3 : Int32) (x5 : Int32) (x6 : Int32) (h : AH) : Prop := K42 x1 x2 x3 x5 (x6 + 1) h
def p_UF_thief_42 (Q : Int32 → AH → Prop) : Nat → Int32 → Int32 → Int32 → Int32 → Int32 → AH → Prop
  | 0 => fun _ _ _ _ _ _ => False
  | n + 1 => fun x1 x2 x3 x5 x6 h => let K42 := p_UF_thief_42 Q n; ((20 < x6 → Q x5 h) ∧ (¬ 20 < x6 → p_UF_ready (fun h1 => inb x3 7 ∧ p_Dusk_go (fun h3 => inb x1 4 ∧ 0 < rR T1 h3 3 x1.toNatClampNeg ∧ vA T1 h3 (rR T1 h3 3 x1.toNatClampNeg - 1) ∧ (rS T1 h3 (rR T1 h3 3 x1.toNatClampNeg - 1)).1 = 8 ∧ p_Sheet_firstOtherwise (fun r9 h8 => ((¬ r9 = (-1) → p_UF_thief_107 Q  K42 x1 x2 x3 x5 x6 h8) ∧ (r9 = (-1) → p_UF_thief_107 Q  K42 x1 x2 x3 (x5 ||| (1 <<< (x6 &&& 31))) x6 h8))) (rR T1 h3 3 x1.toNatClampNeg - 1) 14 h3) x2 (wI h1 16 x3 ((h1.1 16 x3) + x6))) h))
def p_UF_thief (Q : Int32 → AH → Prop) (x1 : Int32) (x2 : Int32) (x3 : Int32) (h : AH) : Prop := p_UF_tellingRefusal (fun r2 h1 => ((r2 = 0 → p_UF_isHouse (fun r4 h3 => ((¬ r4 = 0 → p_UF_isSpan (fun r6 h5 => ((¬ r6 = 0 → ∃ n, p_UF_thief_42 Q   n x1 x2 x3 0 0 h5) ∧ (r6 = 0 → Q (-7) h5))) x2 h3) ∧ (r4 = 0 → Q (-5) h3))) x3 h1) ∧ (¬ r2 = 0 → Q r2 h1))) x1 h
set_option maxRecDepth 20000 in
theorem r_UF_thief_107 {G : GG} {d : Nat} {Q : Int32 → AH → Prop} {K42 : Int32 → Int32 → Int32 → Int32 → Int32 → AH → Prop} (k42 : ∀ x1 x2 x3 x5 x6 h, K42 x1 x2 x3 x5 x6 h → Att G T1 m_UF_thief (d + 7) 42 [some (.ref 0), some (.int x1), some (.int x2), some (.int x3), none, some (.int x5), some (.int x6)] [] h 0 0 (iQ Q)) (x1 : Int32) (x2 : Int32) (x3 : Int32) (x5 : Int32) (x6 : Int32) (h : AH) (H : p_UF_thief_107 Q K42 x1 x2 x3 x5 x6 h) : Att G T1 m_UF_thief (d + 7) 107 [some (.ref 0), some (.int x1), some (.int x2), some (.int x3), none, some (.int x5), some (.int x6)] [] h 0 0 (iQ Q) := by
  refine A_iinc 1 [some (.ref 0), some (.int x1), some (.int x2), some (.int x3), none, some (.int x5), some (.int (x6 + 1))] d_UF_thief_107 rfl (by decide) (by decide) rfl rfl ?_
  refine A_goto 42 d_UF_thief_110 (by decide) ?_
  exact k42 _ _ _ _ _ _ H
set_option maxRecDepth 20000 in
theorem r_UF_thief_42 {G : GG} {d : Nat} {Q : Int32 → AH → Prop} : ∀ (n : Nat) (x1 : Int32) (x2 : Int32) (x3 : Int32) (x5 : Int32) (x6 : Int32) (h : AH), p_UF_thief_42 Q n x1 x2 x3 x5 x6 h → Att G T1 m_UF_thief (d + 7) 42 [some (.ref 0), some (.int x1), some (.int x2), some (.int x3), none, some (.int x5), some (.int x6)] [] h 0 0 (iQ Q) := by
  intro n
  induction n with
  | zero => intro x1 x2 x3 x5 x6 h H; exact H.elim
  | succ n k42 =>
    intro x1 x2 x3 x5 x6 h H
    refine A_iload d_UF_thief_42 rfl ?_
    refine A_bipush 20 (by decide) d_UF_thief_44 ?_
    refine A_icmp_gt 113 d_UF_thief_46 (by decide) (fun z => ?_) (fun z => ?_)
    · have H := H.1 z
      refine A_iload d_UF_thief_113 rfl ?_
      exact A_iret d_UF_thief_115 rfl rfl H
    · have H := H.2 z
      refine A_aload_n d_UF_thief_49 rfl ?_
      refine A_cV [.ref 0] [] (ct_UF_110 rfl) d_UF_thief_50 rfl rfl (by decide) (Nat.le_of_ble_eq_true rfl) (rcA_o (c := 11) rfl (vA_s (by decide)) rfl (by decide) rfl) (ok_UF_ready (d := d + 3) H) (fun h1 H => ?_)
      refine A_aload_n d_UF_thief_53 rfl ?_
      refine A_get (v := .ref 13) d_UF_thief_54 (fo_UF_44_11 rfl) (vA_s (by decide)) rfl (by first | rfl | (show Value.int _ = Value.int _; simp [wI, wL, wR, wC, up])) ?_
      refine A_get (v := .ref 14) d_UF_thief_57 (fo_UF_149_2 rfl) (vA_s (by decide)) rfl (by first | rfl | (show Value.int _ = Value.int _; simp [wI, wL, wR, wC, up])) ?_
      refine A_get (v := .ref 16) d_UF_thief_60 (fo_UF_124_10 rfl) (vA_s (by decide)) rfl (by first | rfl | (show Value.int _ = Value.int _; simp [wI, wL, wR, wC, up])) ?_
      refine A_iload_n d_UF_thief_63 rfl ?_
      refine A_dup2 rfl rfl d_UF_thief_64 ?_
      obtain ⟨c2, H⟩ := H
      refine A_ialdv (n := 7) (v := (h1.1 16 x3)) d_UF_thief_65 (vA_s (by decide)) rfl c2 rfl ?_
      refine A_iload d_UF_thief_66 rfl ?_
      refine A_iadd d_UF_thief_68 ?_
      refine A_iast (n := 7) d_UF_thief_69 (vA_s (by decide)) rfl c2 ?_
      refine A_aload_n d_UF_thief_70 rfl ?_
      refine A_get (v := .ref 13) d_UF_thief_71 (fo_UF_44_11 rfl) (vA_s (by decide)) rfl (by first | rfl | (show Value.int _ = Value.int _; simp [wI, wL, wR, wC, up])) ?_
      refine A_iload_n d_UF_thief_74 rfl ?_
      refine A_cV [.ref 13, .int x2] [] (ct_UF_146 rfl) d_UF_thief_75 rfl rfl (by decide) (Nat.le_of_ble_eq_true rfl) (rcA_o (c := 2) rfl (vA_s (by decide)) rfl (by decide) rfl) (ok_Dusk_go (d := d) H) (fun h3 H => ?_)
      refine A_aload_n d_UF_thief_78 rfl ?_
      refine A_get (v := .ref 3) d_UF_thief_79 (fo_UF_23_11 rfl) (vA_s (by decide)) rfl (by first | rfl | (show Value.int _ = Value.int _; simp [wI, wL, wR, wC, up])) ?_
      refine A_iload_n d_UF_thief_82 rfl ?_
      obtain ⟨c4, H⟩ := H
      obtain ⟨c5, H⟩ := H
      refine A_aald (t := 2) (n := 4) d_UF_thief_83 (by decide) (vA_s (by decide)) rfl c4 (pos_sub c5) ?_
      refine A_aload_n d_UF_thief_84 rfl ?_
      refine A_get (v := .ref 13) d_UF_thief_85 (fo_UF_44_11 rfl) (vA_s (by decide)) rfl (by first | rfl | (show Value.int _ = Value.int _; simp [wI, wL, wR, wC, up])) ?_
      refine A_get (v := .ref 14) d_UF_thief_88 (fo_UF_149_2 rfl) (vA_s (by decide)) rfl (by first | rfl | (show Value.int _ = Value.int _; simp [wI, wL, wR, wC, up])) ?_
      obtain ⟨c6, H⟩ := H
      obtain ⟨c7, H⟩ := H
      refine A_cI [.ref (rR T1 h3 3 x1.toNatClampNeg - 1), .ref 14] [] (ct_UF_201 rfl) d_UF_thief_91 rfl rfl (by decide) (Nat.le_of_ble_eq_true rfl) (rcA_o (c := 8) rfl c6 c7 (by decide) rfl) (ok_Sheet_firstOtherwise (d := d + 6) H) (fun r9 h8 H => ?_)
      refine A_iconst (-1) (by decide) d_UF_thief_94 ?_
      refine A_icmp_ne 107 d_UF_thief_95 (by decide) (fun z => ?_) (fun z => ?_)
      · have H := H.1 z
        exact r_UF_thief_107  k42 _ _ _ _ _ _ H
      · have H := H.2 z
        refine A_iload d_UF_thief_98 rfl ?_
        refine A_iconst 1 (by decide) d_UF_thief_100 ?_
        refine A_iload d_UF_thief_101 rfl ?_
        refine A_ishl d_UF_thief_103 ?_
        refine A_ior d_UF_thief_104 ?_
        refine A_istore [some (.ref 0), some (.int x1), some (.int x2), some (.int x3), none, some (.int (x5 ||| (1 <<< (x6 &&& 31)))), some (.int x6)] d_UF_thief_105 (by decide) rfl rfl ?_
        exact r_UF_thief_107  k42 _ _ _ _ _ _ H
set_option maxRecDepth 20000 in
theorem r_UF_thief_0 {G : GG} {d : Nat} {Q : Int32 → AH → Prop} (x1 : Int32) (x2 : Int32) (x3 : Int32) (h : AH) (H : p_UF_thief Q x1 x2 x3 h) : Att G T1 m_UF_thief (d + 7) 0 [some (.ref 0), some (.int x1), some (.int x2), some (.int x3), none, none, none] [] h 0 0 (iQ Q) := by
  refine A_aload_n d_UF_thief_0 rfl ?_
  refine A_iload_n d_UF_thief_1 rfl ?_
  refine A_cI [.ref 0, .int x1] [] (ct_UF_198 rfl) d_UF_thief_2 rfl rfl (by decide) (Nat.le_of_ble_eq_true rfl) (rcA_o (c := 11) rfl (vA_s (by decide)) rfl (by decide) rfl) (ok_UF_tellingRefusal (d := d + 4) H) (fun r2 h1 H => ?_)
  refine A_istore [some (.ref 0), some (.int x1), some (.int x2), some (.int x3), some (.int r2), none, none] d_UF_thief_5 (by decide) rfl rfl ?_
  refine A_iload d_UF_thief_7 rfl ?_
  refine A_if_eq 15 d_UF_thief_9 (by decide) (fun z => ?_) (fun z => ?_)
  · have H := H.1 z
    refine A_aload_n d_UF_thief_15 rfl ?_
    refine A_iload_n d_UF_thief_16 rfl ?_
    refine A_cI [.ref 0, .int x3] [] (ct_UF_107 rfl) d_UF_thief_17 rfl rfl (by decide) (Nat.le_of_ble_eq_true rfl) (rcA_o (c := 11) rfl (vA_s (by decide)) rfl (by decide) rfl) (ok_UF_isHouse (d := d + 5) H) (fun r4 h3 H => ?_)
    refine A_if_ne 26 d_UF_thief_20 (by decide) (fun z => ?_) (fun z => ?_)
    · have H := H.1 z
      refine A_iload_n d_UF_thief_26 rfl ?_
      refine A_cI [.int x2] [] (ct_UF_143 rfl) d_UF_thief_27 rfl rfl (by decide) (Nat.le_of_ble_eq_true rfl) trivial (ok_UF_isSpan (d := d + 5) H) (fun r6 h5 H => ?_)
      refine A_if_ne 36 d_UF_thief_30 (by decide) (fun z => ?_) (fun z => ?_)
      · have H := H.1 z
        refine A_iconst 0 (by decide) d_UF_thief_36 ?_
        refine A_istore [some (.ref 0), some (.int x1), some (.int x2), some (.int x3), some (.int r2), some (.int 0), none] d_UF_thief_37 (by decide) rfl rfl ?_
        refine A_iconst 0 (by decide) d_UF_thief_39 ?_
        refine A_istore [some (.ref 0), some (.int x1), some (.int x2), some (.int x3), some (.int r2), some (.int 0), some (.int 0)] d_UF_thief_40 (by decide) rfl rfl ?_
        refine A_sub (L' := [some (.ref 0), some (.int x1), some (.int x2), some (.int x3), none, some (.int 0), some (.int 0)]) ⟨rfl, rfl, rfl, rfl, rfl, rfl, trivial⟩ ?_
        obtain ⟨n9, H⟩ := H
        exact r_UF_thief_42   n9 _ _ _ _ _ _ H
      · have H := H.2 z
        refine A_bipush (-7) (by decide) d_UF_thief_33 ?_
        exact A_iret d_UF_thief_35 rfl rfl H
    · have H := H.2 z
      refine A_bipush (-5) (by decide) d_UF_thief_23 ?_
      exact A_iret d_UF_thief_25 rfl rfl H
  · have H := H.2 z
    refine A_iload d_UF_thief_12 rfl ?_
    exact A_iret d_UF_thief_14 rfl rfl H
set_option maxRecDepth 20000 in
theorem ok_UF_thief {G : GG} {d : Nat} {Q : Int32 → AH → Prop} {x1 : Int32} {x2 : Int32} {x3 : Int32} {h : AH} (H : p_UF_thief Q x1 x2 x3 h) : WP G T1 m_UF_thief (d + 7) [.ref 0, .int x1, .int x2, .int x3] h 0 0 (iQ Q) := by
  exact WP.enter 3 (by decide) rfl rfl (r_UF_thief_0 x1 x2 x3 h H)
