theorem d_MO_weight_0 : decode prog_14_method_54_code 0 = .ok (.iload_n 1, 1) := by decide +kernel
theorem d_MO_weight_1 : decode prog_14_method_54_code 1 = .ok (.iconst 0, 1) := by decide +kernel
theorem d_MO_weight_2 : decode prog_14_method_54_code 2 = .ok (.bipush 20, 2) := by decide +kernel
theorem d_MO_weight_4 : decode prog_14_method_54_code 4 = .ok (.invokestatic 93, 3) := by decide +kernel
theorem d_MO_weight_7 : decode prog_14_method_54_code 7 = .ok (.ifCond .eq 19, 3) := by decide +kernel
theorem d_MO_weight_10 : decode prog_14_method_54_code 10 = .ok (.iload_n 2, 1) := by decide +kernel
theorem d_MO_weight_11 : decode prog_14_method_54_code 11 = .ok (.invokestatic 185, 3) := by decide +kernel
theorem d_MO_weight_14 : decode prog_14_method_54_code 14 = .ok (.ifCond .eq 12, 3) := by decide +kernel
theorem d_MO_weight_17 : decode prog_14_method_54_code 17 = .ok (.iload_n 3, 1) := by decide +kernel
theorem d_MO_weight_18 : decode prog_14_method_54_code 18 = .ok (.iconst 0, 1) := by decide +kernel
theorem d_MO_weight_19 : decode prog_14_method_54_code 19 = .ok (.iconst 1, 1) := by decide +kernel
theorem d_MO_weight_20 : decode prog_14_method_54_code 20 = .ok (.invokestatic 93, 3) := by decide +kernel
theorem d_MO_weight_23 : decode prog_14_method_54_code 23 = .ok (.ifCond .ne 6, 3) := by decide +kernel
theorem d_MO_weight_26 : decode prog_14_method_54_code 26 = .ok (.bipush (-2), 2) := by decide +kernel
theorem d_MO_weight_28 : decode prog_14_method_54_code 28 = .ok (.ireturn, 1) := by decide +kernel
theorem d_MO_weight_29 : decode prog_14_method_54_code 29 = .ok (.iconst (-1), 1) := by decide +kernel
theorem d_MO_weight_30 : decode prog_14_method_54_code 30 = .ok (.istore 4, 2) := by decide +kernel
theorem d_MO_weight_32 : decode prog_14_method_54_code 32 = .ok (.iconst (-1), 1) := by decide +kernel
theorem d_MO_weight_33 : decode prog_14_method_54_code 33 = .ok (.istore 5, 2) := by decide +kernel
theorem d_MO_weight_35 : decode prog_14_method_54_code 35 = .ok (.iconst 0, 1) := by decide +kernel
theorem d_MO_weight_36 : decode prog_14_method_54_code 36 = .ok (.istore 6, 2) := by decide +kernel
theorem d_MO_weight_38 : decode prog_14_method_54_code 38 = .ok (.iload 6, 2) := by decide +kernel
theorem d_MO_weight_40 : decode prog_14_method_54_code 40 = .ok (.aload_n 0, 1) := by decide +kernel
theorem d_MO_weight_41 : decode prog_14_method_54_code 41 = .ok (.getfield 90, 3) := by decide +kernel
theorem d_MO_weight_44 : decode prog_14_method_54_code 44 = .ok (.if_icmp .ge 70, 3) := by decide +kernel
theorem d_MO_weight_47 : decode prog_14_method_54_code 47 = .ok (.aload_n 0, 1) := by decide +kernel
theorem d_MO_weight_48 : decode prog_14_method_54_code 48 = .ok (.getfield 22, 3) := by decide +kernel
theorem d_MO_weight_51 : decode prog_14_method_54_code 51 = .ok (.iload 6, 2) := by decide +kernel
theorem d_MO_weight_53 : decode prog_14_method_54_code 53 = .ok (.dup2, 1) := by decide +kernel
theorem d_MO_weight_54 : decode prog_14_method_54_code 54 = .ok (.iaload, 1) := by decide +kernel
theorem d_MO_weight_55 : decode prog_14_method_54_code 55 = .ok (.iload_n 1, 1) := by decide +kernel
theorem d_MO_weight_56 : decode prog_14_method_54_code 56 = .ok (.iadd, 1) := by decide +kernel
theorem d_MO_weight_57 : decode prog_14_method_54_code 57 = .ok (.iastore, 1) := by decide +kernel
theorem d_MO_weight_58 : decode prog_14_method_54_code 58 = .ok (.aload_n 0, 1) := by decide +kernel
theorem d_MO_weight_59 : decode prog_14_method_54_code 59 = .ok (.iload_n 2, 1) := by decide +kernel
theorem d_MO_weight_60 : decode prog_14_method_54_code 60 = .ok (.invokevirtual 253, 3) := by decide +kernel
theorem d_MO_weight_63 : decode prog_14_method_54_code 63 = .ok (.istore 7, 2) := by decide +kernel
theorem d_MO_weight_65 : decode prog_14_method_54_code 65 = .ok (.aload_n 0, 1) := by decide +kernel
theorem d_MO_weight_66 : decode prog_14_method_54_code 66 = .ok (.getfield 22, 3) := by decide +kernel
theorem d_MO_weight_69 : decode prog_14_method_54_code 69 = .ok (.iload 6, 2) := by decide +kernel
theorem d_MO_weight_71 : decode prog_14_method_54_code 71 = .ok (.dup2, 1) := by decide +kernel
theorem d_MO_weight_72 : decode prog_14_method_54_code 72 = .ok (.iaload, 1) := by decide +kernel
theorem d_MO_weight_73 : decode prog_14_method_54_code 73 = .ok (.iload_n 1, 1) := by decide +kernel
theorem d_MO_weight_74 : decode prog_14_method_54_code 74 = .ok (.isub, 1) := by decide +kernel
theorem d_MO_weight_75 : decode prog_14_method_54_code 75 = .ok (.iastore, 1) := by decide +kernel
theorem d_MO_weight_76 : decode prog_14_method_54_code 76 = .ok (.iload 7, 2) := by decide +kernel
theorem d_MO_weight_78 : decode prog_14_method_54_code 78 = .ok (.iload 5, 2) := by decide +kernel
theorem d_MO_weight_80 : decode prog_14_method_54_code 80 = .ok (.if_icmp .le 8, 3) := by decide +kernel
theorem d_MO_weight_83 : decode prog_14_method_54_code 83 = .ok (.iload 6, 2) := by decide +kernel
theorem d_MO_weight_85 : decode prog_14_method_54_code 85 = .ok (.goto 5, 3) := by decide +kernel
theorem d_MO_weight_88 : decode prog_14_method_54_code 88 = .ok (.iload 4, 2) := by decide +kernel
theorem d_MO_weight_90 : decode prog_14_method_54_code 90 = .ok (.istore 4, 2) := by decide +kernel
theorem d_MO_weight_92 : decode prog_14_method_54_code 92 = .ok (.iload 7, 2) := by decide +kernel
theorem d_MO_weight_94 : decode prog_14_method_54_code 94 = .ok (.iload 5, 2) := by decide +kernel
theorem d_MO_weight_96 : decode prog_14_method_54_code 96 = .ok (.if_icmp .le 8, 3) := by decide +kernel
theorem d_MO_weight_99 : decode prog_14_method_54_code 99 = .ok (.iload 7, 2) := by decide +kernel
theorem d_MO_weight_101 : decode prog_14_method_54_code 101 = .ok (.goto 5, 3) := by decide +kernel
theorem d_MO_weight_104 : decode prog_14_method_54_code 104 = .ok (.iload 5, 2) := by decide +kernel
theorem d_MO_weight_106 : decode prog_14_method_54_code 106 = .ok (.istore 5, 2) := by decide +kernel
theorem d_MO_weight_108 : decode prog_14_method_54_code 108 = .ok (.iinc 6 1, 3) := by decide +kernel
theorem d_MO_weight_111 : decode prog_14_method_54_code 111 = .ok (.goto (-73), 3) := by decide +kernel
theorem d_MO_weight_114 : decode prog_14_method_54_code 114 = .ok (.iload_n 3, 1) := by decide +kernel
theorem d_MO_weight_115 : decode prog_14_method_54_code 115 = .ok (.ifCond .ne 8, 3) := by decide +kernel
theorem d_MO_weight_118 : decode prog_14_method_54_code 118 = .ok (.iload 4, 2) := by decide +kernel
theorem d_MO_weight_120 : decode prog_14_method_54_code 120 = .ok (.goto 5, 3) := by decide +kernel
theorem d_MO_weight_123 : decode prog_14_method_54_code 123 = .ok (.iload 5, 2) := by decide +kernel
theorem d_MO_weight_125 : decode prog_14_method_54_code 125 = .ok (.ireturn, 1) := by decide +kernel
def p_MO_weight_106 (Q : Int32 → AH → Prop) (K38 : Int32 → Int32 → Int32 → Int32 → Int32 → Int32 → AH → Prop) (x1 : Int32) (x2 : Int32) (x3 : Int32) (x4 : Int32) (x6 : Int32) (s0 : Int32) (h : AH) : Prop := K38 x1 x2 x3 x4 s0 (x6 + 1) h
def p_MO_weight_90 (Q : Int32 → AH → Prop) (K38 : Int32 → Int32 → Int32 → Int32 → Int32 → Int32 → AH → Prop) (x1 : Int32) (x2 : Int32) (x3 : Int32) (x5 : Int32) (x6 : Int32) (x7 : Int32) (s0 : Int32) (h : AH) : Prop := ((x7 ≤ x5 → p_MO_weight_106 Q  K38 x1 x2 x3 s0 x6 x5 h) ∧ (¬ x7 ≤ x5 → p_MO_weight_106 Q  K38 x1 x2 x3 s0 x6 x7 h))
def p_MO_weight_38 (Q : Int32 → AH → Prop) : Nat → Int32 → Int32 → Int32 → Int32 → Int32 → Int32 → AH → Prop
  | 0 => fun _ _ _ _ _ _ _ => False
  | n + 1 => fun x1 x2 x3 x4 x5 x6 h => let K38 := p_MO_weight_38 Q n; (((h.1 59 0) ≤ x6 → ((¬ x3 = 0 → Q x5 h) ∧ (x3 = 0 → Q x4 h))) ∧ (¬ (h.1 59 0) ≤ x6 → inb x6 7 ∧ p_MO_downs (fun r3 h2 => inb x6 7 ∧ ((r3 ≤ x5 → p_MO_weight_90 Q  K38 x1 x2 x3 x5 x6 r3 x4 (wI h2 64 x6 ((h2.1 64 x6) - x1))) ∧ (¬ r3 ≤ x5 → p_MO_weight_90 Q  K38 x1 x2 x3 x5 x6 r3 x6 (wI h2 64 x6 ((h2.1 64 x6) - x1))))) x2 (wI h 64 x6 ((h.1 64 x6) + x1))))
def p_MO_weight (Q : Int32 → AH → Prop) (x1 : Int32) (x2 : Int32) (x3 : Int32) (h : AH) : Prop := p_MO_in (fun r2 h1 => ((r2 = 0 → Q (-2) h1) ∧ (¬ r2 = 0 → p_MO_isMany (fun r4 h3 => ((r4 = 0 → Q (-2) h3) ∧ (¬ r4 = 0 → p_MO_in (fun r6 h5 => ((¬ r6 = 0 → ∃ n, p_MO_weight_38 Q   n x1 x2 x3 (-1) (-1) 0 h5) ∧ (r6 = 0 → Q (-2) h5))) x3 0 1 h3))) x2 h1))) x1 0 20 h
set_option maxRecDepth 20000 in
theorem r_MO_weight_106 {G : GG} {d : Nat} {Q : Int32 → AH → Prop} {K38 : Int32 → Int32 → Int32 → Int32 → Int32 → Int32 → AH → Prop} (k38 : ∀ x1 x2 x3 x4 x5 x6 h, K38 x1 x2 x3 x4 x5 x6 h → Att G T1 m_MO_weight (d + 9) 38 [some (.ref 59), some (.int x1), some (.int x2), some (.int x3), some (.int x4), some (.int x5), some (.int x6), none] [] h 0 0 (iQ Q)) (x1 : Int32) (x2 : Int32) (x3 : Int32) (x4 : Int32) (x6 : Int32) (s0 : Int32) (h : AH) (H : p_MO_weight_106 Q K38 x1 x2 x3 x4 x6 s0 h) : Att G T1 m_MO_weight (d + 9) 106 [some (.ref 59), some (.int x1), some (.int x2), some (.int x3), some (.int x4), none, some (.int x6), none] [.int s0] h 0 0 (iQ Q) := by
  refine A_istore [some (.ref 59), some (.int x1), some (.int x2), some (.int x3), some (.int x4), some (.int s0), some (.int x6), none] d_MO_weight_106 (by decide) rfl rfl ?_
  refine A_iinc 1 [some (.ref 59), some (.int x1), some (.int x2), some (.int x3), some (.int x4), some (.int s0), some (.int (x6 + 1)), none] d_MO_weight_108 rfl (by decide) (by decide) rfl rfl ?_
  refine A_goto 38 d_MO_weight_111 (by decide) ?_
  exact k38 _ _ _ _ _ _ _ H
set_option maxRecDepth 20000 in
theorem r_MO_weight_90 {G : GG} {d : Nat} {Q : Int32 → AH → Prop} {K38 : Int32 → Int32 → Int32 → Int32 → Int32 → Int32 → AH → Prop} (k38 : ∀ x1 x2 x3 x4 x5 x6 h, K38 x1 x2 x3 x4 x5 x6 h → Att G T1 m_MO_weight (d + 9) 38 [some (.ref 59), some (.int x1), some (.int x2), some (.int x3), some (.int x4), some (.int x5), some (.int x6), none] [] h 0 0 (iQ Q)) (x1 : Int32) (x2 : Int32) (x3 : Int32) (x5 : Int32) (x6 : Int32) (x7 : Int32) (s0 : Int32) (h : AH) (H : p_MO_weight_90 Q K38 x1 x2 x3 x5 x6 x7 s0 h) : Att G T1 m_MO_weight (d + 9) 90 [some (.ref 59), some (.int x1), some (.int x2), some (.int x3), none, some (.int x5), some (.int x6), some (.int x7)] [.int s0] h 0 0 (iQ Q) := by
  refine A_istore [some (.ref 59), some (.int x1), some (.int x2), some (.int x3), some (.int s0), some (.int x5), some (.int x6), some (.int x7)] d_MO_weight_90 (by decide) rfl rfl ?_
  refine A_iload d_MO_weight_92 rfl ?_
  refine A_iload d_MO_weight_94 rfl ?_
  refine A_icmp_le 104 d_MO_weight_96 (by decide) (fun z => ?_) (fun z => ?_)
  · have H := H.1 z
    refine A_iload d_MO_weight_104 rfl ?_
    refine A_sub (L' := [some (.ref 59), some (.int x1), some (.int x2), some (.int x3), some (.int s0), none, some (.int x6), none]) ⟨rfl, rfl, rfl, rfl, rfl, rfl, trivial⟩ ?_
    exact r_MO_weight_106  k38 _ _ _ _ _ _ _ H
  · have H := H.2 z
    refine A_iload d_MO_weight_99 rfl ?_
    refine A_goto 106 d_MO_weight_101 (by decide) ?_
    refine A_sub (L' := [some (.ref 59), some (.int x1), some (.int x2), some (.int x3), some (.int s0), none, some (.int x6), none]) ⟨rfl, rfl, rfl, rfl, rfl, rfl, trivial⟩ ?_
    exact r_MO_weight_106  k38 _ _ _ _ _ _ _ H
set_option maxRecDepth 20000 in
theorem r_MO_weight_38 {G : GG} {d : Nat} {Q : Int32 → AH → Prop} : ∀ (n : Nat) (x1 : Int32) (x2 : Int32) (x3 : Int32) (x4 : Int32) (x5 : Int32) (x6 : Int32) (h : AH), p_MO_weight_38 Q n x1 x2 x3 x4 x5 x6 h → Att G T1 m_MO_weight (d + 9) 38 [some (.ref 59), some (.int x1), some (.int x2), some (.int x3), some (.int x4), some (.int x5), some (.int x6), none] [] h 0 0 (iQ Q) := by
  intro n
  induction n with
  | zero => intro x1 x2 x3 x4 x5 x6 h H; exact H.elim
  | succ n k38 =>
    intro x1 x2 x3 x4 x5 x6 h H
    refine A_iload d_MO_weight_38 rfl ?_
    refine A_aload_n d_MO_weight_40 rfl ?_
    refine A_get (v := .int (h.1 59 0)) d_MO_weight_41 (fo_MO_90_12 rfl) (vA_s (by decide)) rfl (by first | rfl | (show Value.int _ = Value.int _; simp [wI, wL, wR, wC, up])) ?_
    refine A_icmp_ge 114 d_MO_weight_44 (by decide) (fun z => ?_) (fun z => ?_)
    · have H := H.1 z
      refine A_iload_n d_MO_weight_114 rfl ?_
      refine A_if_ne 123 d_MO_weight_115 (by decide) (fun z => ?_) (fun z => ?_)
      · have H := H.1 z
        refine A_iload d_MO_weight_123 rfl ?_
        exact A_iret d_MO_weight_125 rfl rfl H
      · have H := H.2 z
        refine A_iload d_MO_weight_118 rfl ?_
        refine A_goto 125 d_MO_weight_120 (by decide) ?_
        exact A_iret d_MO_weight_125 rfl rfl H
    · have H := H.2 z
      refine A_aload_n d_MO_weight_47 rfl ?_
      refine A_get (v := .ref 64) d_MO_weight_48 (fo_MO_22_12 rfl) (vA_s (by decide)) rfl (by first | rfl | (show Value.int _ = Value.int _; simp [wI, wL, wR, wC, up])) ?_
      refine A_iload d_MO_weight_51 rfl ?_
      refine A_dup2 rfl rfl d_MO_weight_53 ?_
      obtain ⟨c1, H⟩ := H
      refine A_ialdv (n := 7) (v := (h.1 64 x6)) d_MO_weight_54 (vA_s (by decide)) rfl c1 rfl ?_
      refine A_iload_n d_MO_weight_55 rfl ?_
      refine A_iadd d_MO_weight_56 ?_
      refine A_iast (n := 7) d_MO_weight_57 (vA_s (by decide)) rfl c1 ?_
      refine A_aload_n d_MO_weight_58 rfl ?_
      refine A_iload_n d_MO_weight_59 rfl ?_
      refine A_cI [.ref 59, .int x2] [] (ct_MO_253 rfl) d_MO_weight_60 rfl rfl (by decide) (Nat.le_of_ble_eq_true rfl) (rcA_o (c := 12) rfl (vA_s (by decide)) rfl (by decide) rfl) (ok_MO_downs (d := d) H) (fun r3 h2 H => ?_)
      refine A_istore [some (.ref 59), some (.int x1), some (.int x2), some (.int x3), some (.int x4), some (.int x5), some (.int x6), some (.int r3)] d_MO_weight_63 (by decide) rfl rfl ?_
      refine A_aload_n d_MO_weight_65 rfl ?_
      refine A_get (v := .ref 64) d_MO_weight_66 (fo_MO_22_12 rfl) (vA_s (by decide)) rfl (by first | rfl | (show Value.int _ = Value.int _; simp [wI, wL, wR, wC, up])) ?_
      refine A_iload d_MO_weight_69 rfl ?_
      refine A_dup2 rfl rfl d_MO_weight_71 ?_
      obtain ⟨c4, H⟩ := H
      refine A_ialdv (n := 7) (v := (h2.1 64 x6)) d_MO_weight_72 (vA_s (by decide)) rfl c4 rfl ?_
      refine A_iload_n d_MO_weight_73 rfl ?_
      refine A_isub d_MO_weight_74 ?_
      refine A_iast (n := 7) d_MO_weight_75 (vA_s (by decide)) rfl c4 ?_
      refine A_iload d_MO_weight_76 rfl ?_
      refine A_iload d_MO_weight_78 rfl ?_
      refine A_icmp_le 88 d_MO_weight_80 (by decide) (fun z => ?_) (fun z => ?_)
      · have H := H.1 z
        refine A_iload d_MO_weight_88 rfl ?_
        refine A_sub (L' := [some (.ref 59), some (.int x1), some (.int x2), some (.int x3), none, some (.int x5), some (.int x6), some (.int r3)]) ⟨rfl, rfl, rfl, rfl, rfl, rfl, rfl, trivial⟩ ?_
        exact r_MO_weight_90  k38 _ _ _ _ _ _ _ _ H
      · have H := H.2 z
        refine A_iload d_MO_weight_83 rfl ?_
        refine A_goto 90 d_MO_weight_85 (by decide) ?_
        refine A_sub (L' := [some (.ref 59), some (.int x1), some (.int x2), some (.int x3), none, some (.int x5), some (.int x6), some (.int r3)]) ⟨rfl, rfl, rfl, rfl, rfl, rfl, rfl, trivial⟩ ?_
        exact r_MO_weight_90  k38 _ _ _ _ _ _ _ _ H
set_option maxRecDepth 20000 in
theorem r_MO_weight_0 {G : GG} {d : Nat} {Q : Int32 → AH → Prop} (x1 : Int32) (x2 : Int32) (x3 : Int32) (h : AH) (H : p_MO_weight Q x1 x2 x3 h) : Att G T1 m_MO_weight (d + 9) 0 [some (.ref 59), some (.int x1), some (.int x2), some (.int x3), none, none, none, none] [] h 0 0 (iQ Q) := by
  refine A_iload_n d_MO_weight_0 rfl ?_
  refine A_iconst 0 (by decide) d_MO_weight_1 ?_
  refine A_bipush 20 (by decide) d_MO_weight_2 ?_
  refine A_cI [.int x1, .int 0, .int 20] [] (ct_MO_93 rfl) d_MO_weight_4 rfl rfl (by decide) (Nat.le_of_ble_eq_true rfl) trivial (ok_MO_in (d := d + 8) H) (fun r2 h1 H => ?_)
  refine A_if_eq 26 d_MO_weight_7 (by decide) (fun z => ?_) (fun z => ?_)
  · have H := H.1 z
    refine A_bipush (-2) (by decide) d_MO_weight_26 ?_
    exact A_iret d_MO_weight_28 rfl rfl H
  · have H := H.2 z
    refine A_iload_n d_MO_weight_10 rfl ?_
    refine A_cI [.int x2] [] (ct_MO_185 rfl) d_MO_weight_11 rfl rfl (by decide) (Nat.le_of_ble_eq_true rfl) trivial (ok_MO_isMany (d := d + 7) H) (fun r4 h3 H => ?_)
    refine A_if_eq 26 d_MO_weight_14 (by decide) (fun z => ?_) (fun z => ?_)
    · have H := H.1 z
      refine A_bipush (-2) (by decide) d_MO_weight_26 ?_
      exact A_iret d_MO_weight_28 rfl rfl H
    · have H := H.2 z
      refine A_iload_n d_MO_weight_17 rfl ?_
      refine A_iconst 0 (by decide) d_MO_weight_18 ?_
      refine A_iconst 1 (by decide) d_MO_weight_19 ?_
      refine A_cI [.int x3, .int 0, .int 1] [] (ct_MO_93 rfl) d_MO_weight_20 rfl rfl (by decide) (Nat.le_of_ble_eq_true rfl) trivial (ok_MO_in (d := d + 8) H) (fun r6 h5 H => ?_)
      refine A_if_ne 29 d_MO_weight_23 (by decide) (fun z => ?_) (fun z => ?_)
      · have H := H.1 z
        refine A_iconst (-1) (by decide) d_MO_weight_29 ?_
        refine A_istore [some (.ref 59), some (.int x1), some (.int x2), some (.int x3), some (.int (-1)), none, none, none] d_MO_weight_30 (by decide) rfl rfl ?_
        refine A_iconst (-1) (by decide) d_MO_weight_32 ?_
        refine A_istore [some (.ref 59), some (.int x1), some (.int x2), some (.int x3), some (.int (-1)), some (.int (-1)), none, none] d_MO_weight_33 (by decide) rfl rfl ?_
        refine A_iconst 0 (by decide) d_MO_weight_35 ?_
        refine A_istore [some (.ref 59), some (.int x1), some (.int x2), some (.int x3), some (.int (-1)), some (.int (-1)), some (.int 0), none] d_MO_weight_36 (by decide) rfl rfl ?_
        obtain ⟨n9, H⟩ := H
        exact r_MO_weight_38   n9 _ _ _ _ _ _ _ H
      · have H := H.2 z
        refine A_bipush (-2) (by decide) d_MO_weight_26 ?_
        exact A_iret d_MO_weight_28 rfl rfl H
set_option maxRecDepth 20000 in
theorem ok_MO_weight {G : GG} {d : Nat} {Q : Int32 → AH → Prop} {x1 : Int32} {x2 : Int32} {x3 : Int32} {h : AH} (H : p_MO_weight Q x1 x2 x3 h) : WP G T1 m_MO_weight (d + 9) [.ref 59, .int x1, .int x2, .int x3] h 0 0 (iQ Q) := by
  exact WP.enter 4 (by decide) rfl rfl (r_MO_weight_0 x1 x2 x3 h H)
theorem d_MO_over_0 : decode prog_14_method_55_code 0 = .ok (.iload_n 1, 1) := by decide +kernel
theorem d_MO_over_1 : decode prog_14_method_55_code 1 = .ok (.invokestatic 185, 3) := by decide +kernel
theorem d_MO_over_4 : decode prog_14_method_55_code 4 = .ok (.ifCond .eq 12, 3) := by decide +kernel
theorem d_MO_over_7 : decode prog_14_method_55_code 7 = .ok (.iload_n 2, 1) := by decide +kernel
theorem d_MO_over_8 : decode prog_14_method_55_code 8 = .ok (.iconst 0, 1) := by decide +kernel
theorem d_MO_over_9 : decode prog_14_method_55_code 9 = .ok (.iconst 1, 1) := by decide +kernel
theorem d_MO_over_10 : decode prog_14_method_55_code 10 = .ok (.invokestatic 93, 3) := by decide +kernel
theorem d_MO_over_13 : decode prog_14_method_55_code 13 = .ok (.ifCond .ne 6, 3) := by decide +kernel
theorem d_MO_over_16 : decode prog_14_method_55_code 16 = .ok (.bipush (-2), 2) := by decide +kernel
theorem d_MO_over_18 : decode prog_14_method_55_code 18 = .ok (.ireturn, 1) := by decide +kernel
theorem d_MO_over_19 : decode prog_14_method_55_code 19 = .ok (.iconst (-1), 1) := by decide +kernel
theorem d_MO_over_20 : decode prog_14_method_55_code 20 = .ok (.istore_n 3, 1) := by decide +kernel
theorem d_MO_over_21 : decode prog_14_method_55_code 21 = .ok (.aload_n 0, 1) := by decide +kernel
theorem d_MO_over_22 : decode prog_14_method_55_code 22 = .ok (.iload_n 1, 1) := by decide +kernel
theorem d_MO_over_23 : decode prog_14_method_55_code 23 = .ok (.invokevirtual 253, 3) := by decide +kernel
theorem d_MO_over_26 : decode prog_14_method_55_code 26 = .ok (.istore 4, 2) := by decide +kernel
theorem d_MO_over_28 : decode prog_14_method_55_code 28 = .ok (.iconst 0, 1) := by decide +kernel
theorem d_MO_over_29 : decode prog_14_method_55_code 29 = .ok (.istore 5, 2) := by decide +kernel
theorem d_MO_over_31 : decode prog_14_method_55_code 31 = .ok (.iload 5, 2) := by decide +kernel
theorem d_MO_over_33 : decode prog_14_method_55_code 33 = .ok (.aload_n 0, 1) := by decide +kernel
theorem d_MO_over_34 : decode prog_14_method_55_code 34 = .ok (.getfield 90, 3) := by decide +kernel
theorem d_MO_over_37 : decode prog_14_method_55_code 37 = .ok (.if_icmp .ge 131, 3) := by decide +kernel
theorem d_MO_over_40 : decode prog_14_method_55_code 40 = .ok (.iconst 0, 1) := by decide +kernel
theorem d_MO_over_41 : decode prog_14_method_55_code 41 = .ok (.istore 6, 2) := by decide +kernel
theorem d_MO_over_43 : decode prog_14_method_55_code 43 = .ok (.iload 6, 2) := by decide +kernel
theorem d_MO_over_45 : decode prog_14_method_55_code 45 = .ok (.aload_n 0, 1) := by decide +kernel
theorem d_MO_over_46 : decode prog_14_method_55_code 46 = .ok (.getfield 90, 3) := by decide +kernel
theorem d_MO_over_49 : decode prog_14_method_55_code 49 = .ok (.if_icmp .ge 113, 3) := by decide +kernel
theorem d_MO_over_52 : decode prog_14_method_55_code 52 = .ok (.iload 5, 2) := by decide +kernel
theorem d_MO_over_54 : decode prog_14_method_55_code 54 = .ok (.iload 6, 2) := by decide +kernel
theorem d_MO_over_56 : decode prog_14_method_55_code 56 = .ok (.if_icmp .eq 100, 3) := by decide +kernel
theorem d_MO_over_59 : decode prog_14_method_55_code 59 = .ok (.aload_n 0, 1) := by decide +kernel
theorem d_MO_over_60 : decode prog_14_method_55_code 60 = .ok (.getfield 22, 3) := by decide +kernel
theorem d_MO_over_63 : decode prog_14_method_55_code 63 = .ok (.iload 5, 2) := by decide +kernel
theorem d_MO_over_65 : decode prog_14_method_55_code 65 = .ok (.iaload, 1) := by decide +kernel
theorem d_MO_over_66 : decode prog_14_method_55_code 66 = .ok (.ifCond .le 90, 3) := by decide +kernel
theorem d_MO_over_69 : decode prog_14_method_55_code 69 = .ok (.aload_n 0, 1) := by decide +kernel
theorem d_MO_over_70 : decode prog_14_method_55_code 70 = .ok (.getfield 22, 3) := by decide +kernel
theorem d_MO_over_73 : decode prog_14_method_55_code 73 = .ok (.iload 5, 2) := by decide +kernel
theorem d_MO_over_75 : decode prog_14_method_55_code 75 = .ok (.dup2, 1) := by decide +kernel
theorem d_MO_over_76 : decode prog_14_method_55_code 76 = .ok (.iaload, 1) := by decide +kernel
theorem d_MO_over_77 : decode prog_14_method_55_code 77 = .ok (.iconst 1, 1) := by decide +kernel
theorem d_MO_over_78 : decode prog_14_method_55_code 78 = .ok (.isub, 1) := by decide +kernel
theorem d_MO_over_79 : decode prog_14_method_55_code 79 = .ok (.iastore, 1) := by decide +kernel
theorem d_MO_over_80 : decode prog_14_method_55_code 80 = .ok (.aload_n 0, 1) := by decide +kernel
theorem d_MO_over_81 : decode prog_14_method_55_code 81 = .ok (.getfield 22, 3) := by decide +kernel
theorem d_MO_over_84 : decode prog_14_method_55_code 84 = .ok (.iload 6, 2) := by decide +kernel
theorem d_MO_over_86 : decode prog_14_method_55_code 86 = .ok (.dup2, 1) := by decide +kernel
theorem d_MO_over_87 : decode prog_14_method_55_code 87 = .ok (.iaload, 1) := by decide +kernel
theorem d_MO_over_88 : decode prog_14_method_55_code 88 = .ok (.iconst 1, 1) := by decide +kernel
theorem d_MO_over_89 : decode prog_14_method_55_code 89 = .ok (.iadd, 1) := by decide +kernel
theorem d_MO_over_90 : decode prog_14_method_55_code 90 = .ok (.iastore, 1) := by decide +kernel
theorem d_MO_over_91 : decode prog_14_method_55_code 91 = .ok (.aload_n 0, 1) := by decide +kernel
theorem d_MO_over_92 : decode prog_14_method_55_code 92 = .ok (.iload_n 1, 1) := by decide +kernel
theorem d_MO_over_93 : decode prog_14_method_55_code 93 = .ok (.invokevirtual 253, 3) := by decide +kernel
theorem d_MO_over_96 : decode prog_14_method_55_code 96 = .ok (.istore 7, 2) := by decide +kernel
theorem d_MO_over_98 : decode prog_14_method_55_code 98 = .ok (.aload_n 0, 1) := by decide +kernel
theorem d_MO_over_99 : decode prog_14_method_55_code 99 = .ok (.getfield 22, 3) := by decide +kernel
theorem d_MO_over_102 : decode prog_14_method_55_code 102 = .ok (.iload 5, 2) := by decide +kernel
theorem d_MO_over_104 : decode prog_14_method_55_code 104 = .ok (.dup2, 1) := by decide +kernel
theorem d_MO_over_105 : decode prog_14_method_55_code 105 = .ok (.iaload, 1) := by decide +kernel
theorem d_MO_over_106 : decode prog_14_method_55_code 106 = .ok (.iconst 1, 1) := by decide +kernel
theorem d_MO_over_107 : decode prog_14_method_55_code 107 = .ok (.iadd, 1) := by decide +kernel
theorem d_MO_over_108 : decode prog_14_method_55_code 108 = .ok (.iastore, 1) := by decide +kernel
theorem d_MO_over_109 : decode prog_14_method_55_code 109 = .ok (.aload_n 0, 1) := by decide +kernel
theorem d_MO_over_110 : decode prog_14_method_55_code 110 = .ok (.getfield 22, 3) := by decide +kernel
theorem d_MO_over_113 : decode prog_14_method_55_code 113 = .ok (.iload 6, 2) := by decide +kernel
theorem d_MO_over_115 : decode prog_14_method_55_code 115 = .ok (.dup2, 1) := by decide +kernel
theorem d_MO_over_116 : decode prog_14_method_55_code 116 = .ok (.iaload, 1) := by decide +kernel
theorem d_MO_over_117 : decode prog_14_method_55_code 117 = .ok (.iconst 1, 1) := by decide +kernel
theorem d_MO_over_118 : decode prog_14_method_55_code 118 = .ok (.isub, 1) := by decide +kernel
theorem d_MO_over_119 : decode prog_14_method_55_code 119 = .ok (.iastore, 1) := by decide +kernel
theorem d_MO_over_120 : decode prog_14_method_55_code 120 = .ok (.iload 7, 2) := by decide +kernel
theorem d_MO_over_122 : decode prog_14_method_55_code 122 = .ok (.iload 4, 2) := by decide +kernel
theorem d_MO_over_124 : decode prog_14_method_55_code 124 = .ok (.if_icmp .le 14, 3) := by decide +kernel
theorem d_MO_over_127 : decode prog_14_method_55_code 127 = .ok (.bipush 10, 2) := by decide +kernel
theorem d_MO_over_129 : decode prog_14_method_55_code 129 = .ok (.iload 5, 2) := by decide +kernel
theorem d_MO_over_131 : decode prog_14_method_55_code 131 = .ok (.imul, 1) := by decide +kernel
theorem d_MO_over_132 : decode prog_14_method_55_code 132 = .ok (.iload 6, 2) := by decide +kernel
theorem d_MO_over_134 : decode prog_14_method_55_code 134 = .ok (.iadd, 1) := by decide +kernel
theorem d_MO_over_135 : decode prog_14_method_55_code 135 = .ok (.goto 4, 3) := by decide +kernel
theorem d_MO_over_138 : decode prog_14_method_55_code 138 = .ok (.iload_n 3, 1) := by decide +kernel
theorem d_MO_over_139 : decode prog_14_method_55_code 139 = .ok (.istore_n 3, 1) := by decide +kernel
theorem d_MO_over_140 : decode prog_14_method_55_code 140 = .ok (.iload 7, 2) := by decide +kernel
theorem d_MO_over_142 : decode prog_14_method_55_code 142 = .ok (.iload 4, 2) := by decide +kernel
theorem d_MO_over_144 : decode prog_14_method_55_code 144 = .ok (.if_icmp .le 8, 3) := by decide +kernel
theorem d_MO_over_147 : decode prog_14_method_55_code 147 = .ok (.iload 7, 2) := by decide +kernel
theorem d_MO_over_149 : decode prog_14_method_55_code 149 = .ok (.goto 5, 3) := by decide +kernel
theorem d_MO_over_152 : decode prog_14_method_55_code 152 = .ok (.iload 4, 2) := by decide +kernel
theorem d_MO_over_154 : decode prog_14_method_55_code 154 = .ok (.istore 4, 2) := by decide +kernel
theorem d_MO_over_156 : decode prog_14_method_55_code 156 = .ok (.iinc 6 1, 3) := by decide +kernel
theorem d_MO_over_159 : decode prog_14_method_55_code 159 = .ok (.goto (-116), 3) := by decide +kernel
theorem d_MO_over_162 : decode prog_14_method_55_code 162 = .ok (.iinc 5 1, 3) := by decide +kernel
theorem d_MO_over_165 : decode prog_14_method_55_code 165 = .ok (.goto (-134), 3) := by decide +kernel
theorem d_MO_over_168 : decode prog_14_method_55_code 168 = .ok (.iload_n 2, 1) := by decide +kernel
theorem d_MO_over_169 : decode prog_14_method_55_code 169 = .ok (.ifCond .ne 7, 3) := by decide +kernel
theorem d_MO_over_172 : decode prog_14_method_55_code 172 = .ok (.iload_n 3, 1) := by decide +kernel
theorem d_MO_over_173 : decode prog_14_method_55_code 173 = .ok (.goto 5, 3) := by decide +kernel
theorem d_MO_over_176 : decode prog_14_method_55_code 176 = .ok (.iload 4, 2) := by decide +kernel
theorem d_MO_over_178 : decode prog_14_method_55_code 178 = .ok (.ireturn, 1) := by decide +kernel
def p_MO_over_156 (Q : Int32 → AH → Prop) (K31 : Int32 → Int32 → Int32 → Int32 → Int32 → AH → Prop) (K43 : Int32 → Int32 → Int32 → Int32 → Int32 → Int32 → AH → Prop) (x1 : Int32) (x2 : Int32) (x3 : Int32) (x4 : Int32) (x5 : Int32) (x6 : Int32) (h : AH) : Prop := K43 x1 x2 x3 x4 x5 (x6 + 1) h
def p_MO_over_154 (Q : Int32 → AH → Prop) (K31 : Int32 → Int32 → Int32 → Int32 → Int32 → AH → Prop) (K43 : Int32 → Int32 → Int32 → Int32 → Int32 → Int32 → AH → Prop) (x1 : Int32) (x2 : Int32) (x3 : Int32) (x5 : Int32) (x6 : Int32) (s0 : Int32) (h : AH) : Prop := p_MO_over_156 Q  K31 K43 x1 x2 x3 s0 x5 x6 h
def p_MO_over_139 (Q : Int32 → AH → Prop) (K31 : Int32 → Int32 → Int32 → Int32 → Int32 → AH → Prop) (K43 : Int32 → Int32 → Int32 → Int32 → Int32 → Int32 → AH → Prop) (x1 : Int32) (x2 : Int32) (x4 : Int32) (x5 : Int32) (x6 : Int32) (x7 : Int32) (s0 : Int32) (h : AH) : Prop := ((x7 ≤ x4 → p_MO_over_154 Q  K31 K43 x1 x2 s0 x5 x6 x4 h) ∧ (¬ x7 ≤ x4 → p_MO_over_154 Q  K31 K43 x1 x2 s0 x5 x6 x7 h))
def p_MO_over_43 (Q : Int32 → AH → Prop) (K31 : Int32 → Int32 → Int32 → Int32 → Int32 → AH → Prop) : Nat → Int32 → Int32 → Int32 → Int32 → Int32 → Int32 → AH → Prop
  | 0 => fun _ _ _ _ _ _ _ => False
  | n + 1 => fun x1 x2 x3 x4 x5 x6 h => let K43 := p_MO_over_43 Q K31 n; (((h.1 59 0) ≤ x6 → K31 x1 x2 x3 x4 (x5 + 1) h) ∧ (¬ (h.1 59 0) ≤ x6 → ((x5 = x6 → p_MO_over_156 Q  K31 K43 x1 x2 x3 x4 x5 x6 h) ∧ (¬ x5 = x6 → inb x5 7 ∧ (((h.1 64 x5) ≤ 0 → p_MO_over_156 Q  K31 K43 x1 x2 x3 x4 x5 x6 h) ∧ (¬ (h.1 64 x5) ≤ 0 → inb x6 7 ∧ p_MO_downs (fun r4 h3 => inb x5 7 ∧ inb x6 7 ∧ ((r4 ≤ x4 → p_MO_over_139 Q  K31 K43 x1 x2 x4 x5 x6 r4 x3 (wI (wI h3 64 x5 ((h3.1 64 x5) + 1)) 64 x6 (((wI h3 64 x5 ((h3.1 64 x5) + 1)).1 64 x6) - 1))) ∧ (¬ r4 ≤ x4 → p_MO_over_139 Q  K31 K43 x1 x2 x4 x5 x6 r4 ((10 * x5) + x6) (wI (wI h3 64 x5 ((h3.1 64 x5) + 1)) 64 x6 (((wI h3 64 x5 ((h3.1 64 x5) + 1)).1 64 x6) - 1))))) x1 (wI (wI h 64 x5 ((h.1 64 x5) - 1)) 64 x6 (((wI h 64 x5 ((h.1 64 x5) - 1)).1 64 x6) + 1))))))))
def p_MO_over_31 (Q : Int32 → AH → Prop) : Nat → Int32 → Int32 → Int32 → Int32 → Int32 → AH → Prop
  | 0 => fun _ _ _ _ _ _ => False
  | n + 1 => fun x1 x2 x3 x4 x5 h => let K31 := p_MO_over_31 Q n; (((h.1 59 0) ≤ x5 → ((¬ x2 = 0 → Q x4 h) ∧ (x2 = 0 → Q x3 h))) ∧ (¬ (h.1 59 0) ≤ x5 → ∃ n, p_MO_over_43 Q  K31 n x1 x2 x3 x4 x5 0 h))
def p_MO_over (Q : Int32 → AH → Prop) (x1 : Int32) (x2 : Int32) (h : AH) : Prop := p_MO_isMany (fun r2 h1 => ((r2 = 0 → Q (-2) h1) ∧ (¬ r2 = 0 → p_MO_in (fun r4 h3 => ((¬ r4 = 0 → p_MO_downs (fun r6 h5 => ∃ n, p_MO_over_31 Q   n x1 x2 (-1) r6 0 h5) x1 h3) ∧ (r4 = 0 → Q (-2) h3))) x2 0 1 h1))) x1 h
set_option maxRecDepth 20000 in
theorem r_MO_over_156 {G : GG} {d : Nat} {Q : Int32 → AH → Prop} {K31 : Int32 → Int32 → Int32 → Int32 → Int32 → AH → Prop} {K43 : Int32 → Int32 → Int32 → Int32 → Int32 → Int32 → AH → Prop} (k31 : ∀ x1 x2 x3 x4 x5 h, K31 x1 x2 x3 x4 x5 h → Att G T1 m_MO_over (d + 9) 31 [some (.ref 59), some (.int x1), some (.int x2), some (.int x3), some (.int x4), some (.int x5), none, none] [] h 0 0 (iQ Q)) (k43 : ∀ x1 x2 x3 x4 x5 x6 h, K43 x1 x2 x3 x4 x5 x6 h → Att G T1 m_MO_over (d + 9) 43 [some (.ref 59), some (.int x1), some (.int x2), some (.int x3), some (.int x4), some (.int x5), some (.int x6), none] [] h 0 0 (iQ Q)) (x1 : Int32) (x2 : Int32) (x3 : Int32) (x4 : Int32) (x5 : Int32) (x6 : Int32) (h : AH) (H : p_MO_over_156 Q K31 K43 x1 x2 x3 x4 x5 x6 h) : Att G T1 m_MO_over (d + 9) 156 [some (.ref 59), some (.int x1), some (.int x2), some (.int x3), some (.int x4), some (.int x5), some (.int x6), none] [] h 0 0 (iQ Q) := by
  refine A_iinc 1 [some (.ref 59), some (.int x1), some (.int x2), some (.int x3), some (.int x4), some (.int x5), some (.int (x6 + 1)), none] d_MO_over_156 rfl (by decide) (by decide) rfl rfl ?_
  refine A_goto 43 d_MO_over_159 (by decide) ?_
  exact k43 _ _ _ _ _ _ _ H
set_option maxRecDepth 20000 in
theorem r_MO_over_154 {G : GG} {d : Nat} {Q : Int32 → AH → Prop} {K31 : Int32 → Int32 → Int32 → Int32 → Int32 → AH → Prop} {K43 : Int32 → Int32 → Int32 → Int32 → Int32 → Int32 → AH → Prop} (k31 : ∀ x1 x2 x3 x4 x5 h, K31 x1 x2 x3 x4 x5 h → Att G T1 m_MO_over (d + 9) 31 [some (.ref 59), some (.int x1), some (.int x2), some (.int x3), some (.int x4), some (.int x5), none, none] [] h 0 0 (iQ Q)) (k43 : ∀ x1 x2 x3 x4 x5 x6 h, K43 x1 x2 x3 x4 x5 x6 h → Att G T1 m_MO_over (d + 9) 43 [some (.ref 59), some (.int x1), some (.int x2), some (.int x3), some (.int x4), some (.int x5), some (.int x6), none] [] h 0 0 (iQ Q)) (x1 : Int32) (x2 : Int32) (x3 : Int32) (x5 : Int32) (x6 : Int32) (s0 : Int32) (h : AH) (H : p_MO_over_154 Q K31 K43 x1 x2 x3 x5 x6 s0 h) : Att G T1 m_MO_over (d + 9) 154 [some (.ref 59), some (.int x1), some (.int x2), some (.int x3), none, some (.int x5), some (.int x6), none] [.int s0] h 0 0 (iQ Q) := by
  refine A_istore [some (.ref 59), some (.int x1), some (.int x2), some (.int x3), some (.int s0), some (.int x5), some (.int x6), none] d_MO_over_154 (by decide) rfl rfl ?_
  exact r_MO_over_156  k31 k43 _ _ _ _ _ _ _ H
set_option maxRecDepth 20000 in
theorem r_MO_over_139 {G : GG} {d : Nat} {Q : Int32 → AH → Prop} {K31 : Int32 → Int32 → Int32 → Int32 → Int32 → AH → Prop} {K43 : Int32 → Int32 → Int32 → Int32 → Int32 → Int32 → AH → Prop} (k31 : ∀ x1 x2 x3 x4 x5 h, K31 x1 x2 x3 x4 x5 h → Att G T1 m_MO_over (d + 9) 31 [some (.ref 59), some (.int x1), some (.int x2), some (.int x3), some (.int x4), some (.int x5), none, none] [] h 0 0 (iQ Q)) (k43 : ∀ x1 x2 x3 x4 x5 x6 h, K43 x1 x2 x3 x4 x5 x6 h → Att G T1 m_MO_over (d + 9) 43 [some (.ref 59), some (.int x1), some (.int x2), some (.int x3), some (.int x4), some (.int x5), some (.int x6), none] [] h 0 0 (iQ Q)) (x1 : Int32) (x2 : Int32) (x4 : Int32) (x5 : Int32) (x6 : Int32) (x7 : Int32) (s0 : Int32) (h : AH) (H : p_MO_over_139 Q K31 K43 x1 x2 x4 x5 x6 x7 s0 h) : Att G T1 m_MO_over (d + 9) 139 [some (.ref 59), some (.int x1), some (.int x2), none, some (.int x4), some (.int x5), some (.int x6), some (.int x7)] [.int s0] h 0 0 (iQ Q) := by
  refine A_istore_n [some (.ref 59), some (.int x1), some (.int x2), some (.int s0), some (.int x4), some (.int x5), some (.int x6), some (.int x7)] d_MO_over_139 (by decide) rfl rfl ?_
  refine A_iload d_MO_over_140 rfl ?_
  refine A_iload d_MO_over_142 rfl ?_
  refine A_icmp_le 152 d_MO_over_144 (by decide) (fun z => ?_) (fun z => ?_)
  · have H := H.1 z
    refine A_iload d_MO_over_152 rfl ?_
    refine A_sub (L' := [some (.ref 59), some (.int x1), some (.int x2), some (.int s0), none, some (.int x5), some (.int x6), none]) ⟨rfl, rfl, rfl, rfl, rfl, rfl, trivial⟩ ?_
    exact r_MO_over_154  k31 k43 _ _ _ _ _ _ _ H
  · have H := H.2 z
    refine A_iload d_MO_over_147 rfl ?_
    refine A_goto 154 d_MO_over_149 (by decide) ?_
    refine A_sub (L' := [some (.ref 59), some (.int x1), some (.int x2), some (.int s0), none, some (.int x5), some (.int x6), none]) ⟨rfl, rfl, rfl, rfl, rfl, rfl, trivial⟩ ?_
    exact r_MO_over_154  k31 k43 _ _ _ _ _ _ _ H
set_option maxRecDepth 20000 in
theorem r_MO_over_43 {G : GG} {d : Nat} {Q : Int32 → AH → Prop} {K31 : Int32 → Int32 → Int32 → Int32 → Int32 → AH → Prop} (k31 : ∀ x1 x2 x3 x4 x5 h, K31 x1 x2 x3 x4 x5 h → Att G T1 m_MO_over (d + 9) 31 [some (.ref 59), some (.int x1), some (.int x2), some (.int x3), some (.int x4), some (.int x5), none, none] [] h 0 0 (iQ Q)) : ∀ (n : Nat) (x1 : Int32) (x2 : Int32) (x3 : Int32) (x4 : Int32) (x5 : Int32) (x6 : Int32) (h : AH), p_MO_over_43 Q K31 n x1 x2 x3 x4 x5 x6 h → Att G T1 m_MO_over (d + 9) 43 [some (.ref 59), some (.int x1), some (.int x2), some (.int x3), some (.int x4), some (.int x5), some (.int x6), none] [] h 0 0 (iQ Q) := by
  intro n
  induction n with
  | zero => intro x1 x2 x3 x4 x5 x6 h H; exact H.elim
  | succ n k43 =>
    intro x1 x2 x3 x4 x5 x6 h H
    refine A_iload d_MO_over_43 rfl ?_
    refine A_aload_n d_MO_over_45 rfl ?_
    refine A_get (v := .int (h.1 59 0)) d_MO_over_46 (fo_MO_90_12 rfl) (vA_s (by decide)) rfl (by first | rfl | (show Value.int _ = Value.int _; simp [wI, wL, wR, wC, up])) ?_
    refine A_icmp_ge 162 d_MO_over_49 (by decide) (fun z => ?_) (fun z => ?_)
    · have H := H.1 z
      refine A_iinc 1 [some (.ref 59), some (.int x1), some (.int x2), some (.int x3), some (.int x4), some (.int (x5 + 1)), some (.int x6), none] d_MO_over_162 rfl (by decide) (by decide) rfl rfl ?_
      refine A_goto 31 d_MO_over_165 (by decide) ?_
      refine A_sub (L' := [some (.ref 59), some (.int x1), some (.int x2), some (.int x3), some (.int x4), some (.int (x5 + 1)), none, none]) ⟨rfl, rfl, rfl, rfl, rfl, rfl, trivial⟩ ?_
      exact k31 _ _ _ _ _ _ H
    · have H := H.2 z
      refine A_iload d_MO_over_52 rfl ?_
      refine A_iload d_MO_over_54 rfl ?_
      refine A_icmp_eq 156 d_MO_over_56 (by decide) (fun z => ?_) (fun z => ?_)
      · have H := H.1 z
        exact r_MO_over_156  k31 k43 _ _ _ _ _ _ _ H
      · have H := H.2 z
        refine A_aload_n d_MO_over_59 rfl ?_
        refine A_get (v := .ref 64) d_MO_over_60 (fo_MO_22_12 rfl) (vA_s (by decide)) rfl (by first | rfl | (show Value.int _ = Value.int _; simp [wI, wL, wR, wC, up])) ?_
        refine A_iload d_MO_over_63 rfl ?_
        obtain ⟨c1, H⟩ := H
        refine A_ialdv (n := 7) (v := (h.1 64 x5)) d_MO_over_65 (vA_s (by decide)) rfl c1 rfl ?_
        refine A_if_le 156 d_MO_over_66 (by decide) (fun z => ?_) (fun z => ?_)
        · have H := H.1 z
          exact r_MO_over_156  k31 k43 _ _ _ _ _ _ _ H
        · have H := H.2 z
          refine A_aload_n d_MO_over_69 rfl ?_
          refine A_get (v := .ref 64) d_MO_over_70 (fo_MO_22_12 rfl) (vA_s (by decide)) rfl (by first | rfl | (show Value.int _ = Value.int _; simp [wI, wL, wR, wC, up])) ?_
          refine A_iload d_MO_over_73 rfl ?_
          refine A_dup2 rfl rfl d_MO_over_75 ?_
          refine A_ialdv (n := 7) (v := (h.1 64 x5)) d_MO_over_76 (vA_s (by decide)) rfl c1 rfl ?_
          refine A_iconst 1 (by decide) d_MO_over_77 ?_
          refine A_isub d_MO_over_78 ?_
          refine A_iast (n := 7) d_MO_over_79 (vA_s (by decide)) rfl c1 ?_
          refine A_aload_n d_MO_over_80 rfl ?_
          refine A_get (v := .ref 64) d_MO_over_81 (fo_MO_22_12 rfl) (vA_s (by decide)) rfl (by first | rfl | (show Value.int _ = Value.int _; simp [wI, wL, wR, wC, up])) ?_
          refine A_iload d_MO_over_84 rfl ?_
          refine A_dup2 rfl rfl d_MO_over_86 ?_
          obtain ⟨c2, H⟩ := H
          refine A_ialdv (n := 7) (v := ((wI h 64 x5 ((h.1 64 x5) - 1)).1 64 x6)) d_MO_over_87 (vA_s (by decide)) rfl c2 (by first | rfl | simp [wI, wL, wR, wC, up]) ?_
          refine A_iconst 1 (by decide) d_MO_over_88 ?_
          refine A_iadd d_MO_over_89 ?_
          refine A_iast (n := 7) d_MO_over_90 (vA_s (by decide)) rfl c2 ?_
          refine A_aload_n d_MO_over_91 rfl ?_
          refine A_iload_n d_MO_over_92 rfl ?_
          refine A_cI [.ref 59, .int x1] [] (ct_MO_253 rfl) d_MO_over_93 rfl rfl (by decide) (Nat.le_of_ble_eq_true rfl) (rcA_o (c := 12) rfl (vA_s (by decide)) rfl (by decide) rfl) (ok_MO_downs (d := d) H) (fun r4 h3 H => ?_)
          refine A_istore [some (.ref 59), some (.int x1), some (.int x2), some (.int x3), some (.int x4), some (.int x5), some (.int x6), some (.int r4)] d_MO_over_96 (by decide) rfl rfl ?_
          refine A_aload_n d_MO_over_98 rfl ?_
          refine A_get (v := .ref 64) d_MO_over_99 (fo_MO_22_12 rfl) (vA_s (by decide)) rfl (by first | rfl | (show Value.int _ = Value.int _; simp [wI, wL, wR, wC, up])) ?_
          refine A_iload d_MO_over_102 rfl ?_
          refine A_dup2 rfl rfl d_MO_over_104 ?_
          obtain ⟨c5, H⟩ := H
          refine A_ialdv (n := 7) (v := (h3.1 64 x5)) d_MO_over_105 (vA_s (by decide)) rfl c5 rfl ?_
          refine A_iconst 1 (by decide) d_MO_over_106 ?_
          refine A_iadd d_MO_over_107 ?_
          refine A_iast (n := 7) d_MO_over_108 (vA_s (by decide)) rfl c5 ?_
          refine A_aload_n d_MO_over_109 rfl ?_
          refine A_get (v := .ref 64) d_MO_over_110 (fo_MO_22_12 rfl) (vA_s (by decide)) rfl (by first | rfl | (show Value.int _ = Value.int _; simp [wI, wL, wR, wC, up])) ?_
          refine A_iload d_MO_over_113 rfl ?_
          refine A_dup2 rfl rfl d_MO_over_115 ?_
          obtain ⟨c6, H⟩ := H
          refine A_ialdv (n := 7) (v := ((wI h3 64 x5 ((h3.1 64 x5) + 1)).1 64 x6)) d_MO_over_116 (vA_s (by decide)) rfl c6 (by first | rfl | simp [wI, wL, wR, wC, up]) ?_
          refine A_iconst 1 (by decide) d_MO_over_117 ?_
          refine A_isub d_MO_over_118 ?_
          refine A_iast (n := 7) d_MO_over_119 (vA_s (by decide)) rfl c6 ?_
          refine A_iload d_MO_over_120 rfl ?_
          refine A_iload d_MO_over_122 rfl ?_
          refine A_icmp_le 138 d_MO_over_124 (by decide) (fun z => ?_) (fun z => ?_)
          · have H := H.1 z
            refine A_iload_n d_MO_over_138 rfl ?_
            refine A_sub (L' := [some (.ref 59), some (.int x1), some (.int x2), none, some (.int x4), some (.int x5), some (.int x6), some (.int r4)]) ⟨rfl, rfl, rfl, rfl, rfl, rfl, rfl, trivial⟩ ?_
            exact r_MO_over_139  k31 k43 _ _ _ _ _ _ _ _ H
          · have H := H.2 z
            refine A_bipush 10 (by decide) d_MO_over_127 ?_
            refine A_iload d_MO_over_129 rfl ?_
            refine A_imul d_MO_over_131 ?_
            refine A_iload d_MO_over_132 rfl ?_
            refine A_iadd d_MO_over_134 ?_
            refine A_goto 139 d_MO_over_135 (by decide) ?_
            refine A_sub (L' := [some (.ref 59), some (.int x1), some (.int x2), none, some (.int x4), some (.int x5), some (.int x6), some (.int r4)]) ⟨rfl, rfl, rfl, rfl, rfl, rfl, rfl, trivial⟩ ?_
            exact r_MO_over_139  k31 k43 _ _ _ _ _ _ _ _ H
set_option maxRecDepth 20000 in
theorem r_MO_over_31 {G : GG} {d : Nat} {Q : Int32 → AH → Prop} : ∀ (n : Nat) (x1 : Int32) (x2 : Int32) (x3 : Int32) (x4 : Int32) (x5 : Int32) (h : AH), p_MO_over_31 Q n x1 x2 x3 x4 x5 h → Att G T1 m_MO_over (d + 9) 31 [some (.ref 59), some (.int x1), some (.int x2), some (.int x3), some (.int x4), some (.int x5), none, none] [] h 0 0 (iQ Q) := by
  intro n
  induction n with
  | zero => intro x1 x2 x3 x4 x5 h H; exact H.elim
  | succ n k31 =>
    intro x1 x2 x3 x4 x5 h H
    refine A_iload d_MO_over_31 rfl ?_
    refine A_aload_n d_MO_over_33 rfl ?_
    refine A_get (v := .int (h.1 59 0)) d_MO_over_34 (fo_MO_90_12 rfl) (vA_s (by decide)) rfl (by first | rfl | (show Value.int _ = Value.int _; simp [wI, wL, wR, wC, up])) ?_
    refine A_icmp_ge 168 d_MO_over_37 (by decide) (fun z => ?_) (fun z => ?_)
    · have H := H.1 z
      refine A_iload_n d_MO_over_168 rfl ?_
      refine A_if_ne 176 d_MO_over_169 (by decide) (fun z => ?_) (fun z => ?_)
      · have H := H.1 z
        refine A_iload d_MO_over_176 rfl ?_
        exact A_iret d_MO_over_178 rfl rfl H
      · have H := H.2 z
        refine A_iload_n d_MO_over_172 rfl ?_
        refine A_goto 178 d_MO_over_173 (by decide) ?_
        exact A_iret d_MO_over_178 rfl rfl H
    · have H := H.2 z
      refine A_iconst 0 (by decide) d_MO_over_40 ?_
      refine A_istore [some (.ref 59), some (.int x1), some (.int x2), some (.int x3), some (.int x4), some (.int x5), some (.int 0), none] d_MO_over_41 (by decide) rfl rfl ?_
      obtain ⟨n9, H⟩ := H
      exact r_MO_over_43  k31 n9 _ _ _ _ _ _ _ H
set_option maxRecDepth 20000 in
theorem r_MO_over_0 {G : GG} {d : Nat} {Q : Int32 → AH → Prop} (x1 : Int32) (x2 : Int32) (h : AH) (H : p_MO_over Q x1 x2 h) : Att G T1 m_MO_over (d + 9) 0 [some (.ref 59), some (.int x1), some (.int x2), none, none, none, none, none] [] h 0 0 (iQ Q) := by
  refine A_iload_n d_MO_over_0 rfl ?_
  refine A_cI [.int x1] [] (ct_MO_185 rfl) d_MO_over_1 rfl rfl (by decide) (Nat.le_of_ble_eq_true rfl) trivial (ok_MO_isMany (d := d + 7) H) (fun r2 h1 H => ?_)
  refine A_if_eq 16 d_MO_over_4 (by decide) (fun z => ?_) (fun z => ?_)
  · have H := H.1 z
    refine A_bipush (-2) (by decide) d_MO_over_16 ?_
    exact A_iret d_MO_over_18 rfl rfl H
  · have H := H.2 z
    refine A_iload_n d_MO_over_7 rfl ?_
    refine A_iconst 0 (by decide) d_MO_over_8 ?_
    refine A_iconst 1 (by decide) d_MO_over_9 ?_
    refine A_cI [.int x2, .int 0, .int 1] [] (ct_MO_93 rfl) d_MO_over_10 rfl rfl (by decide) (Nat.le_of_ble_eq_true rfl) trivial (ok_MO_in (d := d + 8) H) (fun r4 h3 H => ?_)
    refine A_if_ne 19 d_MO_over_13 (by decide) (fun z => ?_) (fun z => ?_)
    · have H := H.1 z
      refine A_iconst (-1) (by decide) d_MO_over_19 ?_
      refine A_istore_n [some (.ref 59), some (.int x1), some (.int x2), some (.int (-1)), none, none, none, none] d_MO_over_20 (by decide) rfl rfl ?_
      refine A_aload_n d_MO_over_21 rfl ?_
      refine A_iload_n d_MO_over_22 rfl ?_
      refine A_cI [.ref 59, .int x1] [] (ct_MO_253 rfl) d_MO_over_23 rfl rfl (by decide) (Nat.le_of_ble_eq_true rfl) (rcA_o (c := 12) rfl (vA_s (by decide)) rfl (by decide) rfl) (ok_MO_downs (d := d) H) (fun r6 h5 H => ?_)
      refine A_istore [some (.ref 59), some (.int x1), some (.int x2), some (.int (-1)), some (.int r6), none, none, none] d_MO_over_26 (by decide) rfl rfl ?_
      refine A_iconst 0 (by decide) d_MO_over_28 ?_
      refine A_istore [some (.ref 59), some (.int x1), some (.int x2), some (.int (-1)), some (.int r6), some (.int 0), none, none] d_MO_over_29 (by decide) rfl rfl ?_
      obtain ⟨n9, H⟩ := H
      exact r_MO_over_31   n9 _ _ _ _ _ _ H
    · have H := H.2 z
      refine A_bipush (-2) (by decide) d_MO_over_16 ?_
      exact A_iret d_MO_over_18 rfl rfl H
set_option maxRecDepth 20000 in
theorem ok_MO_over {G : GG} {d : Nat} {Q : Int32 → AH → Prop} {x1 : Int32} {x2 : Int32} {h : AH} (H : p_MO_over Q x1 x2 h) : WP G T1 m_MO_over (d + 9) [.ref 59, .int x1, .int x2] h 0 0 (iQ Q) := by
  exact WP.enter 5 (by decide) rfl rfl (r_MO_over_0 x1 x2 h H)
theorem d_MO_link_0 : decode prog_14_method_58_code 0 = .ok (.iload_n 1, 1) := by decide +kernel
theorem d_MO_link_1 : decode prog_14_method_58_code 1 = .ok (.invokestatic 185, 3) := by decide +kernel
theorem d_MO_link_4 : decode prog_14_method_58_code 4 = .ok (.ifCond .eq 12, 3) := by decide +kernel
theorem d_MO_link_7 : decode prog_14_method_58_code 7 = .ok (.iload_n 2, 1) := by decide +kernel
theorem d_MO_link_8 : decode prog_14_method_58_code 8 = .ok (.iconst 0, 1) := by decide +kernel
theorem d_MO_link_9 : decode prog_14_method_58_code 9 = .ok (.iconst 1, 1) := by decide +kernel
theorem d_MO_link_10 : decode prog_14_method_58_code 10 = .ok (.invokestatic 93, 3) := by decide +kernel
theorem d_MO_link_13 : decode prog_14_method_58_code 13 = .ok (.ifCond .ne 6, 3) := by decide +kernel
theorem d_MO_link_16 : decode prog_14_method_58_code 16 = .ok (.bipush (-2), 2) := by decide +kernel
theorem d_MO_link_18 : decode prog_14_method_58_code 18 = .ok (.ireturn, 1) := by decide +kernel
theorem d_MO_link_19 : decode prog_14_method_58_code 19 = .ok (.iconst (-1), 1) := by decide +kernel
theorem d_MO_link_20 : decode prog_14_method_58_code 20 = .ok (.istore_n 3, 1) := by decide +kernel
theorem d_MO_link_21 : decode prog_14_method_58_code 21 = .ok (.aload_n 0, 1) := by decide +kernel
theorem d_MO_link_22 : decode prog_14_method_58_code 22 = .ok (.iload_n 1, 1) := by decide +kernel
theorem d_MO_link_23 : decode prog_14_method_58_code 23 = .ok (.invokevirtual 253, 3) := by decide +kernel
theorem d_MO_link_26 : decode prog_14_method_58_code 26 = .ok (.istore 4, 2) := by decide +kernel
theorem d_MO_link_28 : decode prog_14_method_58_code 28 = .ok (.aload_n 0, 1) := by decide +kernel
theorem d_MO_link_29 : decode prog_14_method_58_code 29 = .ok (.invokevirtual 256, 3) := by decide +kernel
theorem d_MO_link_32 : decode prog_14_method_58_code 32 = .ok (.iconst 0, 1) := by decide +kernel
theorem d_MO_link_33 : decode prog_14_method_58_code 33 = .ok (.istore 5, 2) := by decide +kernel
theorem d_MO_link_35 : decode prog_14_method_58_code 35 = .ok (.iload 5, 2) := by decide +kernel
theorem d_MO_link_37 : decode prog_14_method_58_code 37 = .ok (.aload_n 0, 1) := by decide +kernel
theorem d_MO_link_38 : decode prog_14_method_58_code 38 = .ok (.getfield 90, 3) := by decide +kernel
theorem d_MO_link_41 : decode prog_14_method_58_code 41 = .ok (.if_icmp .ge 85, 3) := by decide +kernel
theorem d_MO_link_44 : decode prog_14_method_58_code 44 = .ok (.iload 5, 2) := by decide +kernel
theorem d_MO_link_46 : decode prog_14_method_58_code 46 = .ok (.iconst 1, 1) := by decide +kernel
theorem d_MO_link_47 : decode prog_14_method_58_code 47 = .ok (.iadd, 1) := by decide +kernel
theorem d_MO_link_48 : decode prog_14_method_58_code 48 = .ok (.istore 6, 2) := by decide +kernel
theorem d_MO_link_50 : decode prog_14_method_58_code 50 = .ok (.iload 6, 2) := by decide +kernel
theorem d_MO_link_52 : decode prog_14_method_58_code 52 = .ok (.aload_n 0, 1) := by decide +kernel
theorem d_MO_link_53 : decode prog_14_method_58_code 53 = .ok (.getfield 90, 3) := by decide +kernel
theorem d_MO_link_56 : decode prog_14_method_58_code 56 = .ok (.if_icmp .ge 64, 3) := by decide +kernel
theorem d_MO_link_59 : decode prog_14_method_58_code 59 = .ok (.aload_n 0, 1) := by decide +kernel
theorem d_MO_link_60 : decode prog_14_method_58_code 60 = .ok (.iload 5, 2) := by decide +kernel
theorem d_MO_link_62 : decode prog_14_method_58_code 62 = .ok (.iload 6, 2) := by decide +kernel
theorem d_MO_link_64 : decode prog_14_method_58_code 64 = .ok (.invokevirtual 195, 3) := by decide +kernel
theorem d_MO_link_67 : decode prog_14_method_58_code 67 = .ok (.aload_n 0, 1) := by decide +kernel
theorem d_MO_link_68 : decode prog_14_method_58_code 68 = .ok (.iload_n 1, 1) := by decide +kernel
theorem d_MO_link_69 : decode prog_14_method_58_code 69 = .ok (.invokevirtual 253, 3) := by decide +kernel
theorem d_MO_link_72 : decode prog_14_method_58_code 72 = .ok (.istore 7, 2) := by decide +kernel
theorem d_MO_link_74 : decode prog_14_method_58_code 74 = .ok (.aload_n 0, 1) := by decide +kernel
theorem d_MO_link_75 : decode prog_14_method_58_code 75 = .ok (.invokevirtual 259, 3) := by decide +kernel
theorem d_MO_link_78 : decode prog_14_method_58_code 78 = .ok (.iload 7, 2) := by decide +kernel
theorem d_MO_link_80 : decode prog_14_method_58_code 80 = .ok (.iload 4, 2) := by decide +kernel
theorem d_MO_link_82 : decode prog_14_method_58_code 82 = .ok (.if_icmp .le 14, 3) := by decide +kernel
theorem d_MO_link_85 : decode prog_14_method_58_code 85 = .ok (.bipush 10, 2) := by decide +kernel
theorem d_MO_link_87 : decode prog_14_method_58_code 87 = .ok (.iload 5, 2) := by decide +kernel
theorem d_MO_link_89 : decode prog_14_method_58_code 89 = .ok (.imul, 1) := by decide +kernel
theorem d_MO_link_90 : decode prog_14_method_58_code 90 = .ok (.iload 6, 2) := by decide +kernel
theorem d_MO_link_92 : decode prog_14_method_58_code 92 = .ok (.iadd, 1) := by decide +kernel
theorem d_MO_link_93 : decode prog_14_method_58_code 93 = .ok (.goto 4, 3) := by decide +kernel
theorem d_MO_link_96 : decode prog_14_method_58_code 96 = .ok (.iload_n 3, 1) := by decide +kernel
theorem d_MO_link_97 : decode prog_14_method_58_code 97 = .ok (.istore_n 3, 1) := by decide +kernel
theorem d_MO_link_98 : decode prog_14_method_58_code 98 = .ok (.iload 7, 2) := by decide +kernel
theorem d_MO_link_100 : decode prog_14_method_58_code 100 = .ok (.iload 4, 2) := by decide +kernel
theorem d_MO_link_102 : decode prog_14_method_58_code 102 = .ok (.if_icmp .le 8, 3) := by decide +kernel
theorem d_MO_link_105 : decode prog_14_method_58_code 105 = .ok (.iload 7, 2) := by decide +kernel
theorem d_MO_link_107 : decode prog_14_method_58_code 107 = .ok (.goto 5, 3) := by decide +kernel
theorem d_MO_link_110 : decode prog_14_method_58_code 110 = .ok (.iload 4, 2) := by decide +kernel
theorem d_MO_link_112 : decode prog_14_method_58_code 112 = .ok (.istore 4, 2) := by decide +kernel
theorem d_MO_link_114 : decode prog_14_method_58_code 114 = .ok (.iinc 6 1, 3) := by decide +kernel
theorem d_MO_link_117 : decode prog_14_method_58_code 117 = .ok (.goto (-67), 3) := by decide +kernel
theorem d_MO_link_120 : decode prog_14_method_58_code 120 = .ok (.iinc 5 1, 3) := by decide +kernel
theorem d_MO_link_123 : decode prog_14_method_58_code 123 = .ok (.goto (-88), 3) := by decide +kernel
theorem d_MO_link_126 : decode prog_14_method_58_code 126 = .ok (.iload_n 2, 1) := by decide +kernel
theorem d_MO_link_127 : decode prog_14_method_58_code 127 = .ok (.ifCond .ne 7, 3) := by decide +kernel
theorem d_MO_link_130 : decode prog_14_method_58_code 130 = .ok (.iload_n 3, 1) := by decide +kernel
theorem d_MO_link_131 : decode prog_14_method_58_code 131 = .ok (.goto 5, 3) := by decide +kernel
theorem d_MO_link_134 : decode prog_14_method_58_code 134 = .ok (.iload 4, 2) := by decide +kernel
theorem d_MO_link_136 : decode prog_14_method_58_code 136 = .ok (.ireturn, 1) := by decide +kernel
def p_MO_link_112 (Q : Int32 → AH → Prop) (K35 : Int32 → Int32 → Int32 → Int32 → Int32 → AH → Prop) (K50 : Int32 → Int32 → Int32 → Int32 → Int32 → Int32 → AH → Prop) (x1 : Int32) (x2 : Int32) (x3 : Int32) (x5 : Int32) (x6 : Int32) (s0 : Int32) (h : AH) : Prop := K50 x1 x2 x3 s0 x5 (x6 + 1) h
def p_MO_link_97 (Q : Int32 → AH → Prop) (K35 : Int32 → Int32 → Int32 → Int32 → Int32 → AH → Prop) (K50 : Int32 → Int32 → Int32 → Int32 → Int32 → Int32 → AH → Prop) (x1 : Int32) (x2 : Int32) (x4 : Int32) (x5 : Int32) (x6 : Int32) (x7 : Int32) (s0 : Int32) (h : AH) : Prop := ((x7 ≤ x4 → p_MO_link_112 Q  K35 K50 x1 x2 s0 x5 x6 x4 h) ∧ (¬ x7 ≤ x4 → p_MO_link_112 Q  K35 K50 x1 x2 s0 x5 x6 x7 h))
def p_MO_link_50 (Q : Int32 → AH → Prop) (K35 : Int32 → Int32 → Int32 → Int32 → Int32 → AH → Prop) : Nat → Int32 → Int32 → Int32 → Int32 → Int32 → Int32 → AH → Prop
  | 0 => fun _ _ _ _ _ _ _ => False
  | n + 1 => fun x1 x2 x3 x4 x5 x6 h => let K50 := p_MO_link_50 Q K35 n; (((h.1 59 0) ≤ x6 → K35 x1 x2 x3 x4 (x5 + 1) h) ∧ (¬ (h.1 59 0) ≤ x6 → p_MO_links (fun h1 => p_MO_downs (fun r3 h2 => p_MO_laysBack (fun h4 => ((r3 ≤ x4 → p_MO_link_97 Q  K35 K50 x1 x2 x4 x5 x6 r3 x3 h4) ∧ (¬ r3 ≤ x4 → p_MO_link_97 Q  K35 K50 x1 x2 x4 x5 x6 r3 ((10 * x5) + x6) h4))) h2) x1 h1) x5 x6 h))
def p_MO_link_35 (Q : Int32 → AH → Prop) : Nat → Int32 → Int32 → Int32 → Int32 → Int32 → AH → Prop
  | 0 => fun _ _ _ _ _ _ => False
  | n + 1 => fun x1 x2 x3 x4 x5 h => let K35 := p_MO_link_35 Q n; (((h.1 59 0) ≤ x5 → ((¬ x2 = 0 → Q x4 h) ∧ (x2 = 0 → Q x3 h))) ∧ (¬ (h.1 59 0) ≤ x5 → ∃ n, p_MO_link_50 Q  K35 n x1 x2 x3 x4 x5 (x5 + 1) h))
def p_MO_link (Q : Int32 → AH → Prop) (x1 : Int32) (x2 : Int32) (h : AH) : Prop := p_MO_isMany (fun r2 h1 => ((r2 = 0 → Q (-2) h1) ∧ (¬ r2 = 0 → p_MO_in (fun r4 h3 => ((¬ r4 = 0 → p_MO_downs (fun r6 h5 => p_MO_keeps (fun h7 => ∃ n, p_MO_link_35 Q   n x1 x2 (-1) r6 0 h7) h5) x1 h3) ∧ (r4 = 0 → Q (-2) h3))) x2 0 1 h1))) x1 h
set_option maxRecDepth 20000 in
theorem r_MO_link_112 {G : GG} {d : Nat} {Q : Int32 → AH → Prop} {K35 : Int32 → Int32 → Int32 → Int32 → Int32 → AH → Prop} {K50 : Int32 → Int32 → Int32 → Int32 → Int32 → Int32 → AH → Prop} (k35 : ∀ x1 x2 x3 x4 x5 h, K35 x1 x2 x3 x4 x5 h → Att G T1 m_MO_link (d + 9) 35 [some (.ref 59), some (.int x1), some (.int x2), some (.int x3), some (.int x4), some (.int x5), none, none] [] h 0 0 (iQ Q)) (k50 : ∀ x1 x2 x3 x4 x5 x6 h, K50 x1 x2 x3 x4 x5 x6 h → Att G T1 m_MO_link (d + 9) 50 [some (.ref 59), some (.int x1), some (.int x2), some (.int x3), some (.int x4), some (.int x5), some (.int x6), none] [] h 0 0 (iQ Q)) (x1 : Int32) (x2 : Int32) (x3 : Int32) (x5 : Int32) (x6 : Int32) (s0 : Int32) (h : AH) (H : p_MO_link_112 Q K35 K50 x1 x2 x3 x5 x6 s0 h) : Att G T1 m_MO_link (d + 9) 112 [some (.ref 59), some (.int x1), some (.int x2), some (.int x3), none, some (.int x5), some (.int x6), none] [.int s0] h 0 0 (iQ Q) := by
  refine A_istore [some (.ref 59), some (.int x1), some (.int x2), some (.int x3), some (.int s0), some (.int x5), some (.int x6), none] d_MO_link_112 (by decide) rfl rfl ?_
  refine A_iinc 1 [some (.ref 59), some (.int x1), some (.int x2), some (.int x3), some (.int s0), some (.int x5), some (.int (x6 + 1)), none] d_MO_link_114 rfl (by decide) (by decide) rfl rfl ?_
  refine A_goto 50 d_MO_link_117 (by decide) ?_
  exact k50 _ _ _ _ _ _ _ H
set_option maxRecDepth 20000 in
theorem r_MO_link_97 {G : GG} {d : Nat} {Q : Int32 → AH → Prop} {K35 : Int32 → Int32 → Int32 → Int32 → Int32 → AH → Prop} {K50 : Int32 → Int32 → Int32 → Int32 → Int32 → Int32 → AH → Prop} (k35 : ∀ x1 x2 x3 x4 x5 h, K35 x1 x2 x3 x4 x5 h → Att G T1 m_MO_link (d + 9) 35 [some (.ref 59), some (.int x1), some (.int x2), some (.int x3), some (.int x4), some (.int x5), none, none] [] h 0 0 (iQ Q)) (k50 : ∀ x1 x2 x3 x4 x5 x6 h, K50 x1 x2 x3 x4 x5 x6 h → Att G T1 m_MO_link (d + 9) 50 [some (.ref 59), some (.int x1), some (.int x2), some (.int x3), some (.int x4), some (.int x5), some (.int x6), none] [] h 0 0 (iQ Q)) (x1 : Int32) (x2 : Int32) (x4 : Int32) (x5 : Int32) (x6 : Int32) (x7 : Int32) (s0 : Int32) (h : AH) (H : p_MO_link_97 Q K35 K50 x1 x2 x4 x5 x6 x7 s0 h) : Att G T1 m_MO_link (d + 9) 97 [some (.ref 59), some (.int x1), some (.int x2), none, some (.int x4), some (.int x5), some (.int x6), some (.int x7)] [.int s0] h 0 0 (iQ Q) := by
  refine A_istore_n [some (.ref 59), some (.int x1), some (.int x2), some (.int s0), some (.int x4), some (.int x5), some (.int x6), some (.int x7)] d_MO_link_97 (by decide) rfl rfl ?_
  refine A_iload d_MO_link_98 rfl ?_
  refine A_iload d_MO_link_100 rfl ?_
  refine A_icmp_le 110 d_MO_link_102 (by decide) (fun z => ?_) (fun z => ?_)
  · have H := H.1 z
    refine A_iload d_MO_link_110 rfl ?_
    refine A_sub (L' := [some (.ref 59), some (.int x1), some (.int x2), some (.int s0), none, some (.int x5), some (.int x6), none]) ⟨rfl, rfl, rfl, rfl, rfl, rfl, trivial⟩ ?_
    exact r_MO_link_112  k35 k50 _ _ _ _ _ _ _ H
  · have H := H.2 z
    refine A_iload d_MO_link_105 rfl ?_
    refine A_goto 112 d_MO_link_107 (by decide) ?_
    refine A_sub (L' := [some (.ref 59), some (.int x1), some (.int x2), some (.int s0), none, some (.int x5), some (.int x6), none]) ⟨rfl, rfl, rfl, rfl, rfl, rfl, trivial⟩ ?_
    exact r_MO_link_112  k35 k50 _ _ _ _ _ _ _ H
set_option maxRecDepth 20000 in
theorem r_MO_link_50 {G : GG} {d : Nat} {Q : Int32 → AH → Prop} {K35 : Int32 → Int32 → Int32 → Int32 → Int32 → AH → Prop} (k35 : ∀ x1 x2 x3 x4 x5 h, K35 x1 x2 x3 x4 x5 h → Att G T1 m_MO_link (d + 9) 35 [some (.ref 59), some (.int x1), some (.int x2), some (.int x3), some (.int x4), some (.int x5), none, none] [] h 0 0 (iQ Q)) : ∀ (n : Nat) (x1 : Int32) (x2 : Int32) (x3 : Int32) (x4 : Int32) (x5 : Int32) (x6 : Int32) (h : AH), p_MO_link_50 Q K35 n x1 x2 x3 x4 x5 x6 h → Att G T1 m_MO_link (d + 9) 50 [some (.ref 59), some (.int x1), some (.int x2), some (.int x3), some (.int x4), some (.int x5), some (.int x6), none] [] h 0 0 (iQ Q) := by
  intro n
  induction n with
  | zero => intro x1 x2 x3 x4 x5 x6 h H; exact H.elim
  | succ n k50 =>
    intro x1 x2 x3 x4 x5 x6 h H
    refine A_iload d_MO_link_50 rfl ?_
    refine A_aload_n d_MO_link_52 rfl ?_
    refine A_get (v := .int (h.1 59 0)) d_MO_link_53 (fo_MO_90_12 rfl) (vA_s (by decide)) rfl (by first | rfl | (show Value.int _ = Value.int _; simp [wI, wL, wR, wC, up])) ?_
    refine A_icmp_ge 120 d_MO_link_56 (by decide) (fun z => ?_) (fun z => ?_)
    · have H := H.1 z
      refine A_iinc 1 [some (.ref 59), some (.int x1), some (.int x2), some (.int x3), some (.int x4), some (.int (x5 + 1)), some (.int x6), none] d_MO_link_120 rfl (by decide) (by decide) rfl rfl ?_
      refine A_goto 35 d_MO_link_123 (by decide) ?_
      refine A_sub (L' := [some (.ref 59), some (.int x1), some (.int x2), some (.int x3), some (.int x4), some (.int (x5 + 1)), none, none]) ⟨rfl, rfl, rfl, rfl, rfl, rfl, trivial⟩ ?_
      exact k35 _ _ _ _ _ _ H
    · have H := H.2 z
      refine A_aload_n d_MO_link_59 rfl ?_
      refine A_iload d_MO_link_60 rfl ?_
      refine A_iload d_MO_link_62 rfl ?_
      refine A_cV [.ref 59, .int x5, .int x6] [] (ct_MO_195 rfl) d_MO_link_64 rfl rfl (by decide) (Nat.le_of_ble_eq_true rfl) (rcA_o (c := 12) rfl (vA_s (by decide)) rfl (by decide) rfl) (ok_MO_links (d := d + 7) H) (fun h1 H => ?_)
      refine A_aload_n d_MO_link_67 rfl ?_
      refine A_iload_n d_MO_link_68 rfl ?_
      refine A_cI [.ref 59, .int x1] [] (ct_MO_253 rfl) d_MO_link_69 rfl rfl (by decide) (Nat.le_of_ble_eq_true rfl) (rcA_o (c := 12) rfl (vA_s (by decide)) rfl (by decide) rfl) (ok_MO_downs (d := d) H) (fun r3 h2 H => ?_)
      refine A_istore [some (.ref 59), some (.int x1), some (.int x2), some (.int x3), some (.int x4), some (.int x5), some (.int x6), some (.int r3)] d_MO_link_72 (by decide) rfl rfl ?_
      refine A_aload_n d_MO_link_74 rfl ?_
      refine A_cV [.ref 59] [] (ct_MO_259 rfl) d_MO_link_75 rfl rfl (by decide) (Nat.le_of_ble_eq_true rfl) (rcA_o (c := 12) rfl (vA_s (by decide)) rfl (by decide) rfl) (ok_MO_laysBack (d := d + 8) H) (fun h4 H => ?_)
      refine A_iload d_MO_link_78 rfl ?_
      refine A_iload d_MO_link_80 rfl ?_
      refine A_icmp_le 96 d_MO_link_82 (by decide) (fun z => ?_) (fun z => ?_)
      · have H := H.1 z
        refine A_iload_n d_MO_link_96 rfl ?_
        refine A_sub (L' := [some (.ref 59), some (.int x1), some (.int x2), none, some (.int x4), some (.int x5), some (.int x6), some (.int r3)]) ⟨rfl, rfl, rfl, rfl, rfl, rfl, rfl, trivial⟩ ?_
        exact r_MO_link_97  k35 k50 _ _ _ _ _ _ _ _ H
      · have H := H.2 z
        refine A_bipush 10 (by decide) d_MO_link_85 ?_
        refine A_iload d_MO_link_87 rfl ?_
        refine A_imul d_MO_link_89 ?_
        refine A_iload d_MO_link_90 rfl ?_
        refine A_iadd d_MO_link_92 ?_
        refine A_goto 97 d_MO_link_93 (by decide) ?_
        refine A_sub (L' := [some (.ref 59), some (.int x1), some (.int x2), none, some (.int x4), some (.int x5), some (.int x6), some (.int r3)]) ⟨rfl, rfl, rfl, rfl, rfl, rfl, rfl, trivial⟩ ?_
        exact r_MO_link_97  k35 k50 _ _ _ _ _ _ _ _ H
set_option maxRecDepth 20000 in
theorem r_MO_link_35 {G : GG} {d : Nat} {Q : Int32 → AH → Prop} : ∀ (n : Nat) (x1 : Int32) (x2 : Int32) (x3 : Int32) (x4 : Int32) (x5 : Int32) (h : AH), p_MO_link_35 Q n x1 x2 x3 x4 x5 h → Att G T1 m_MO_link (d + 9) 35 [some (.ref 59), some (.int x1), some (.int x2), some (.int x3), some (.int x4), some (.int x5), none, none] [] h 0 0 (iQ Q) := by
  intro n
  induction n with
  | zero => intro x1 x2 x3 x4 x5 h H; exact H.elim
  | succ n k35 =>
    intro x1 x2 x3 x4 x5 h H
    refine A_iload d_MO_link_35 rfl ?_
    refine A_aload_n d_MO_link_37 rfl ?_
    refine A_get (v := .int (h.1 59 0)) d_MO_link_38 (fo_MO_90_12 rfl) (vA_s (by decide)) rfl (by first | rfl | (show Value.int _ = Value.int _; simp [wI, wL, wR, wC, up])) ?_
    refine A_icmp_ge 126 d_MO_link_41 (by decide) (fun z => ?_) (fun z => ?_)
    · have H := H.1 z
      refine A_iload_n d_MO_link_126 rfl ?_
      refine A_if_ne 134 d_MO_link_127 (by decide) (fun z => ?_) (fun z => ?_)
      · have H := H.1 z
        refine A_iload d_MO_link_134 rfl ?_
        exact A_iret d_MO_link_136 rfl rfl H
      · have H := H.2 z
        refine A_iload_n d_MO_link_130 rfl ?_
        refine A_goto 136 d_MO_link_131 (by decide) ?_
        exact A_iret d_MO_link_136 rfl rfl H
    · have H := H.2 z
      refine A_iload d_MO_link_44 rfl ?_
      refine A_iconst 1 (by decide) d_MO_link_46 ?_
      refine A_iadd d_MO_link_47 ?_
      refine A_istore [some (.ref 59), some (.int x1), some (.int x2), some (.int x3), some (.int x4), some (.int x5), some (.int (x5 + 1)), none] d_MO_link_48 (by decide) rfl rfl ?_
      obtain ⟨n9, H⟩ := H
      exact r_MO_link_50  k35 n9 _ _ _ _ _ _ _ H
set_option maxRecDepth 20000 in
theorem r_MO_link_0 {G : GG} {d : Nat} {Q : Int32 → AH → Prop} (x1 : Int32) (x2 : Int32) (h : AH) (H : p_MO_link Q x1 x2 h) : Att G T1 m_MO_link (d + 9) 0 [some (.ref 59), some (.int x1), some (.int x2), none, none, none, none, none] [] h 0 0 (iQ Q) := by
  refine A_iload_n d_MO_link_0 rfl ?_
  refine A_cI [.int x1] [] (ct_MO_185 rfl) d_MO_link_1 rfl rfl (by decide) (Nat.le_of_ble_eq_true rfl) trivial (ok_MO_isMany (d := d + 7) H) (fun r2 h1 H => ?_)
  refine A_if_eq 16 d_MO_link_4 (by decide) (fun z => ?_) (fun z => ?_)
  · have H := H.1 z
    refine A_bipush (-2) (by decide) d_MO_link_16 ?_
    exact A_iret d_MO_link_18 rfl rfl H
  · have H := H.2 z
    refine A_iload_n d_MO_link_7 rfl ?_
    refine A_iconst 0 (by decide) d_MO_link_8 ?_
    refine A_iconst 1 (by decide) d_MO_link_9 ?_
    refine A_cI [.int x2, .int 0, .int 1] [] (ct_MO_93 rfl) d_MO_link_10 rfl rfl (by decide) (Nat.le_of_ble_eq_true rfl) trivial (ok_MO_in (d := d + 8) H) (fun r4 h3 H => ?_)
    refine A_if_ne 19 d_MO_link_13 (by decide) (fun z => ?_) (fun z => ?_)
    · have H := H.1 z
      refine A_iconst (-1) (by decide) d_MO_link_19 ?_
      refine A_istore_n [some (.ref 59), some (.int x1), some (.int x2), some (.int (-1)), none, none, none, none] d_MO_link_20 (by decide) rfl rfl ?_
      refine A_aload_n d_MO_link_21 rfl ?_
      refine A_iload_n d_MO_link_22 rfl ?_
      refine A_cI [.ref 59, .int x1] [] (ct_MO_253 rfl) d_MO_link_23 rfl rfl (by decide) (Nat.le_of_ble_eq_true rfl) (rcA_o (c := 12) rfl (vA_s (by decide)) rfl (by decide) rfl) (ok_MO_downs (d := d) H) (fun r6 h5 H => ?_)
      refine A_istore [some (.ref 59), some (.int x1), some (.int x2), some (.int (-1)), some (.int r6), none, none, none] d_MO_link_26 (by decide) rfl rfl ?_
      refine A_aload_n d_MO_link_28 rfl ?_
      refine A_cV [.ref 59] [] (ct_MO_256 rfl) d_MO_link_29 rfl rfl (by decide) (Nat.le_of_ble_eq_true rfl) (rcA_o (c := 12) rfl (vA_s (by decide)) rfl (by decide) rfl) (ok_MO_keeps (d := d + 8) H) (fun h7 H => ?_)
      refine A_iconst 0 (by decide) d_MO_link_32 ?_
      refine A_istore [some (.ref 59), some (.int x1), some (.int x2), some (.int (-1)), some (.int r6), some (.int 0), none, none] d_MO_link_33 (by decide) rfl rfl ?_
      obtain ⟨n9, H⟩ := H
      exact r_MO_link_35   n9 _ _ _ _ _ _ H
    · have H := H.2 z
      refine A_bipush (-2) (by decide) d_MO_link_16 ?_
      exact A_iret d_MO_link_18 rfl rfl H
set_option maxRecDepth 20000 in
theorem ok_MO_link {G : GG} {d : Nat} {Q : Int32 → AH → Prop} {x1 : Int32} {x2 : Int32} {h : AH} (H : p_MO_link Q x1 x2 h) : WP G T1 m_MO_link (d + 9) [.ref 59, .int x1, .int x2] h 0 0 (iQ Q) := by
  exact WP.enter 5 (by decide) rfl rfl (r_MO_link_0 x1 x2 h H)
theorem d_MO_hang_0 : decode prog_14_method_60_code 0 = .ok (.aload_n 0, 1) := by decide +kernel
theorem d_MO_hang_1 : decode prog_14_method_60_code 1 = .ok (.iload_n 1, 1) := by decide +kernel
theorem d_MO_hang_2 : decode prog_14_method_60_code 2 = .ok (.invokevirtual 182, 3) := by decide +kernel
theorem d_MO_hang_5 : decode prog_14_method_60_code 5 = .ok (.ifCond .eq 11, 3) := by decide +kernel
theorem d_MO_hang_8 : decode prog_14_method_60_code 8 = .ok (.aload_n 0, 1) := by decide +kernel
theorem d_MO_hang_9 : decode prog_14_method_60_code 9 = .ok (.iload_n 2, 1) := by decide +kernel
theorem d_MO_hang_10 : decode prog_14_method_60_code 10 = .ok (.invokevirtual 182, 3) := by decide +kernel
theorem d_MO_hang_13 : decode prog_14_method_60_code 13 = .ok (.ifCond .ne 6, 3) := by decide +kernel
theorem d_MO_hang_16 : decode prog_14_method_60_code 16 = .ok (.bipush (-5), 2) := by decide +kernel
theorem d_MO_hang_18 : decode prog_14_method_60_code 18 = .ok (.ireturn, 1) := by decide +kernel
theorem d_MO_hang_19 : decode prog_14_method_60_code 19 = .ok (.iload_n 3, 1) := by decide +kernel
theorem d_MO_hang_20 : decode prog_14_method_60_code 20 = .ok (.iconst 0, 1) := by decide +kernel
theorem d_MO_hang_21 : decode prog_14_method_60_code 21 = .ok (.iconst 1, 1) := by decide +kernel
theorem d_MO_hang_22 : decode prog_14_method_60_code 22 = .ok (.invokestatic 93, 3) := by decide +kernel
theorem d_MO_hang_25 : decode prog_14_method_60_code 25 = .ok (.ifCond .ne 6, 3) := by decide +kernel
theorem d_MO_hang_28 : decode prog_14_method_60_code 28 = .ok (.bipush (-7), 2) := by decide +kernel
theorem d_MO_hang_30 : decode prog_14_method_60_code 30 = .ok (.ireturn, 1) := by decide +kernel
theorem d_MO_hang_31 : decode prog_14_method_60_code 31 = .ok (.aload_n 0, 1) := by decide +kernel
theorem d_MO_hang_32 : decode prog_14_method_60_code 32 = .ok (.getfield 19, 3) := by decide +kernel
theorem d_MO_hang_35 : decode prog_14_method_60_code 35 = .ok (.iload_n 2, 1) := by decide +kernel
theorem d_MO_hang_36 : decode prog_14_method_60_code 36 = .ok (.iaload, 1) := by decide +kernel
theorem d_MO_hang_37 : decode prog_14_method_60_code 37 = .ok (.istore 4, 2) := by decide +kernel
theorem d_MO_hang_39 : decode prog_14_method_60_code 39 = .ok (.iconst (-1), 1) := by decide +kernel
theorem d_MO_hang_40 : decode prog_14_method_60_code 40 = .ok (.istore 5, 2) := by decide +kernel
theorem d_MO_hang_42 : decode prog_14_method_60_code 42 = .ok (.iconst (-1), 1) := by decide +kernel
theorem d_MO_hang_43 : decode prog_14_method_60_code 43 = .ok (.istore 6, 2) := by decide +kernel
theorem d_MO_hang_45 : decode prog_14_method_60_code 45 = .ok (.bipush 9, 2) := by decide +kernel
theorem d_MO_hang_47 : decode prog_14_method_60_code 47 = .ok (.istore 7, 2) := by decide +kernel
theorem d_MO_hang_49 : decode prog_14_method_60_code 49 = .ok (.iload 7, 2) := by decide +kernel
theorem d_MO_hang_51 : decode prog_14_method_60_code 51 = .ok (.ifCond .lt 78, 3) := by decide +kernel
theorem d_MO_hang_54 : decode prog_14_method_60_code 54 = .ok (.aload_n 0, 1) := by decide +kernel
theorem d_MO_hang_55 : decode prog_14_method_60_code 55 = .ok (.getfield 19, 3) := by decide +kernel
theorem d_MO_hang_58 : decode prog_14_method_60_code 58 = .ok (.iload_n 2, 1) := by decide +kernel
theorem d_MO_hang_59 : decode prog_14_method_60_code 59 = .ok (.iload 7, 2) := by decide +kernel
theorem d_MO_hang_61 : decode prog_14_method_60_code 61 = .ok (.iastore, 1) := by decide +kernel
theorem d_MO_hang_62 : decode prog_14_method_60_code 62 = .ok (.aload_n 0, 1) := by decide +kernel
theorem d_MO_hang_63 : decode prog_14_method_60_code 63 = .ok (.iload_n 1, 1) := by decide +kernel
theorem d_MO_hang_64 : decode prog_14_method_60_code 64 = .ok (.invokevirtual 247, 3) := by decide +kernel
theorem d_MO_hang_67 : decode prog_14_method_60_code 67 = .ok (.istore 8, 2) := by decide +kernel
theorem d_MO_hang_69 : decode prog_14_method_60_code 69 = .ok (.iload 8, 2) := by decide +kernel
theorem d_MO_hang_71 : decode prog_14_method_60_code 71 = .ok (.iconst (-1), 1) := by decide +kernel
theorem d_MO_hang_72 : decode prog_14_method_60_code 72 = .ok (.if_icmp .eq 20, 3) := by decide +kernel
theorem d_MO_hang_75 : decode prog_14_method_60_code 75 = .ok (.iload 6, 2) := by decide +kernel
theorem d_MO_hang_77 : decode prog_14_method_60_code 77 = .ok (.iconst (-1), 1) := by decide +kernel
theorem d_MO_hang_78 : decode prog_14_method_60_code 78 = .ok (.if_icmp .eq 10, 3) := by decide +kernel
theorem d_MO_hang_81 : decode prog_14_method_60_code 81 = .ok (.iload 8, 2) := by decide +kernel
theorem d_MO_hang_83 : decode prog_14_method_60_code 83 = .ok (.iload 6, 2) := by decide +kernel
theorem d_MO_hang_85 : decode prog_14_method_60_code 85 = .ok (.if_icmp .ge 7, 3) := by decide +kernel
theorem d_MO_hang_88 : decode prog_14_method_60_code 88 = .ok (.iconst 1, 1) := by decide +kernel
theorem d_MO_hang_89 : decode prog_14_method_60_code 89 = .ok (.goto 4, 3) := by decide +kernel
theorem d_MO_hang_92 : decode prog_14_method_60_code 92 = .ok (.iconst 0, 1) := by decide +kernel
theorem d_MO_hang_93 : decode prog_14_method_60_code 93 = .ok (.istore 9, 2) := by decide +kernel
theorem d_MO_hang_95 : decode prog_14_method_60_code 95 = .ok (.iload 9, 2) := by decide +kernel
theorem d_MO_hang_97 : decode prog_14_method_60_code 97 = .ok (.ifCond .eq 8, 3) := by decide +kernel
theorem d_MO_hang_100 : decode prog_14_method_60_code 100 = .ok (.iload 7, 2) := by decide +kernel
theorem d_MO_hang_102 : decode prog_14_method_60_code 102 = .ok (.goto 5, 3) := by decide +kernel
theorem d_MO_hang_105 : decode prog_14_method_60_code 105 = .ok (.iload 5, 2) := by decide +kernel
theorem d_MO_hang_107 : decode prog_14_method_60_code 107 = .ok (.istore 5, 2) := by decide +kernel
theorem d_MO_hang_109 : decode prog_14_method_60_code 109 = .ok (.iload 9, 2) := by decide +kernel
theorem d_MO_hang_111 : decode prog_14_method_60_code 111 = .ok (.ifCond .eq 8, 3) := by decide +kernel
theorem d_MO_hang_114 : decode prog_14_method_60_code 114 = .ok (.iload 8, 2) := by decide +kernel
theorem d_MO_hang_116 : decode prog_14_method_60_code 116 = .ok (.goto 5, 3) := by decide +kernel
theorem d_MO_hang_119 : decode prog_14_method_60_code 119 = .ok (.iload 6, 2) := by decide +kernel
theorem d_MO_hang_121 : decode prog_14_method_60_code 121 = .ok (.istore 6, 2) := by decide +kernel
theorem d_MO_hang_123 : decode prog_14_method_60_code 123 = .ok (.iinc 7 (-1), 3) := by decide +kernel
theorem d_MO_hang_126 : decode prog_14_method_60_code 126 = .ok (.goto (-77), 3) := by decide +kernel
theorem d_MO_hang_129 : decode prog_14_method_60_code 129 = .ok (.aload_n 0, 1) := by decide +kernel
theorem d_MO_hang_130 : decode prog_14_method_60_code 130 = .ok (.getfield 19, 3) := by decide +kernel
theorem d_MO_hang_133 : decode prog_14_method_60_code 133 = .ok (.iload_n 2, 1) := by decide +kernel
theorem d_MO_hang_134 : decode prog_14_method_60_code 134 = .ok (.iload 4, 2) := by decide +kernel
theorem d_MO_hang_136 : decode prog_14_method_60_code 136 = .ok (.iastore, 1) := by decide +kernel
theorem d_MO_hang_137 : decode prog_14_method_60_code 137 = .ok (.iload_n 3, 1) := by decide +kernel
theorem d_MO_hang_138 : decode prog_14_method_60_code 138 = .ok (.ifCond .ne 8, 3) := by decide +kernel
theorem d_MO_hang_141 : decode prog_14_method_60_code 141 = .ok (.iload 5, 2) := by decide +kernel
theorem d_MO_hang_143 : decode prog_14_method_60_code 143 = .ok (.goto 5, 3) := by decide +kernel
theorem d_MO_hang_146 : decode prog_14_method_60_code 146 = .ok (.iload 6, 2) := by decide +kernel
theorem d_MO_hang_148 : decode prog_14_method_60_code 148 = .ok (.ireturn, 1) := by decide +kernel
def p_MO_hang_121 (Q : Int32 → AH → Prop) (K49 : Int32 → Int32 → Int32 → Int32 → Int32 → Int32 → Int32 → AH → Prop) (x1 : Int32) (x2 : Int32) (x3 : Int32) (x4 : Int32) (x5 : Int32) (x7 : Int32) (s0 : Int32) (h : AH) : Prop := K49 x1 x2 x3 x4 x5 s0 (x7 + (-1)) h
def p_MO_hang_107 (Q : Int32 → AH → Prop) (K49 : Int32 → Int32 → Int32 → Int32 → Int32 → Int32 → Int32 → AH → Prop) (x1 : Int32) (x2 : Int32) (x3 : Int32) (x4 : Int32) (x6 : Int32) (x7 : Int32) (x8 : Int32) (x9 : Int32) (s0 : Int32) (h : AH) : Prop := ((x9 = 0 → p_MO_hang_121 Q  K49 x1 x2 x3 x4 s0 x7 x6 h) ∧ (¬ x9 = 0 → p_MO_hang_121 Q  K49 x1 x2 x3 x4 s0 x7 x8 h))
def p_MO_hang_93 (Q : Int32 → AH → Prop) (K49 : Int32 → Int32 → Int32 → Int32 → Int32 → Int32 → Int32 → AH → Prop) (x1 : Int32) (x2 : Int32) (x3 : Int32) (x4 : Int32) (x5 : Int32) (x6 : Int32) (x7 : Int32) (x8 : Int32) (s0 : Int32) (h : AH) : Prop := ((s0 = 0 → p_MO_hang_107 Q  K49 x1 x2 x3 x4 x6 x7 x8 s0 x5 h) ∧ (¬ s0 = 0 → p_MO_hang_107 Q  K49 x1 x2 x3 x4 x6 x7 x8 s0 x7 h))
def p_MO_hang_92 (Q : Int32 → AH → Prop) (K49 : Int32 → Int32 → Int32 → Int32 → Int32 → Int32 → Int32 → AH → Prop) (x1 : Int32) (x2 : Int32) (x3 : Int32) (x4 : Int32) (x5 : Int32) (x6 : Int32) (x7 : Int32) (x8 : Int32) (h : AH) : Prop := p_MO_hang_93 Q  K49 x1 x2 x3 x4 x5 x6 x7 x8 0 h
def p_MO_hang_88 (Q : Int32 → AH → Prop) (K49 : Int32 → Int32 → Int32 → Int32 → Int32 → Int32 → Int32 → AH → Prop) (x1 : Int32) (x2 : Int32) (x3 : Int32) (x4 : Int32) (x5 : Int32) (x6 : Int32) (x7 : Int32) (x8 : Int32) (h : AH) : Prop := p_MO_hang_93 Q  K49 x1 x2 x3 x4 x5 x6 x7 x8 1 h
def p_MO_hang_49 (Q : Int32 → AH → Prop) : Nat → Int32 → Int32 → Int32 → Int32 → Int32 → Int32 → Int32 → AH → Prop
  | 0 => fun _ _ _ _ _ _ _ _ => False
  | n + 1 => fun x1 x2 x3 x4 x5 x6 x7 h => let K49 := p_MO_hang_49 Q n; ((x7 < 0 → inb x2 7 ∧ ((¬ x3 = 0 → Q x6 (wI h 63 x2 x4)) ∧ (x3 = 0 → Q x5 (wI h 63 x2 x4)))) ∧ (¬ x7 < 0 → inb x2 7 ∧ p_MO_whenOf (fun r4 h3 => ((r4 = (-1) → p_MO_hang_92 Q  K49 x1 x2 x3 x4 x5 x6 x7 r4 h3) ∧ (¬ r4 = (-1) → ((x6 = (-1) → p_MO_hang_88 Q  K49 x1 x2 x3 x4 x5 x6 x7 r4 h3) ∧ (¬ x6 = (-1) → ((x6 ≤ r4 → p_MO_hang_92 Q  K49 x1 x2 x3 x4 x5 x6 x7 r4 h3) ∧ (¬ x6 ≤ r4 → p_MO_hang_88 Q  K49 x1 x2 x3 x4 x5 x6 x7 r4 h3))))))) x1 (wI h 63 x2 x7)))
def p_MO_hang (Q : Int32 → AH → Prop) (x1 : Int32) (x2 : Int32) (x3 : Int32) (h : AH) : Prop := p_MO_isHouse (fun r2 h1 => ((r2 = 0 → Q (-5) h1) ∧ (¬ r2 = 0 → p_MO_isHouse (fun r4 h3 => ((¬ r4 = 0 → p_MO_in (fun r6 h5 => ((¬ r6 = 0 → inb x2 7 ∧ ∃ n, p_MO_hang_49 Q   n x1 x2 x3 (h5.1 63 x2) (-1) (-1) 9 h5) ∧ (r6 = 0 → Q (-7) h5))) x3 0 1 h3) ∧ (r4 = 0 → Q (-5) h3))) x2 h1))) x1 h
set_option maxRecDepth 20000 in
theorem r_MO_hang_121 {G : GG} {d : Nat} {Q : Int32 → AH → Prop} {K49 : Int32 → Int32 → Int32 → Int32 → Int32 → Int32 → Int32 → AH → Prop} (k49 : ∀ x1 x2 x3 x4 x5 x6 x7 h, K49 x1 x2 x3 x4 x5 x6 x7 h → Att G T1 m_MO_hang (d + 9) 49 [some (.ref 59), some (.int x1), some (.int x2), some (.int x3), some (.int x4), some (.int x5), some (.int x6), some (.int x7), none, none] [] h 0 0 (iQ Q)) (x1 : Int32) (x2 : Int32) (x3 : Int32) (x4 : Int32) (x5 : Int32) (x7 : Int32) (s0 : Int32) (h : AH) (H : p_MO_hang_121 Q K49 x1 x2 x3 x4 x5 x7 s0 h) : Att G T1 m_MO_hang (d + 9) 121 [some (.ref 59), some (.int x1), some (.int x2), some (.int x3), some (.int x4), some (.int x5), none, some (.int x7), none, none] [.int s0] h 0 0 (iQ Q) := by
  refine A_istore [some (.ref 59), some (.int x1), some (.int x2), some (.int x3), some (.int x4), some (.int x5), some (.int s0), some (.int x7), none, none] d_MO_hang_121 (by decide) rfl rfl ?_
  refine A_iinc (-1) [some (.ref 59), some (.int x1), some (.int x2), some (.int x3), some (.int x4), some (.int x5), some (.int s0), some (.int (x7 + (-1))), none, none] d_MO_hang_123 rfl (by decide) (by decide) rfl rfl ?_
  refine A_goto 49 d_MO_hang_126 (by decide) ?_
  exact k49 _ _ _ _ _ _ _ _ H
set_option maxRecDepth 20000 in
theorem r_MO_hang_107 {G : GG} {d : Nat} {Q : Int32 → AH → Prop} {K49 : Int32 → Int32 → Int32 → Int32 → Int32 → Int32 → Int32 → AH → Prop} (k49 : ∀ x1 x2 x3 x4 x5 x6 x7 h, K49 x1 x2 x3 x4 x5 x6 x7 h → Att G T1 m_MO_hang (d + 9) 49 [some (.ref 59), some (.int x1), some (.int x2), some (.int x3), some (.int x4), some (.int x5), some (.int x6), some (.int x7), none, none] [] h 0 0 (iQ Q)) (x1 : Int32) (x2 : Int32) (x3 : Int32) (x4 : Int32) (x6 : Int32) (x7 : Int32) (x8 : Int32) (x9 : Int32) (s0 : Int32) (h : AH) (H : p_MO_hang_107 Q K49 x1 x2 x3 x4 x6 x7 x8 x9 s0 h) : Att G T1 m_MO_hang (d + 9) 107 [some (.ref 59), some (.int x1), some (.int x2), some (.int x3), some (.int x4), none, some (.int x6), some (.int x7), some (.int x8), some (.int x9)] [.int s0] h 0 0 (iQ Q) := by
  refine A_istore [some (.ref 59), some (.int x1), some (.int x2), some (.int x3), some (.int x4), some (.int s0), some (.int x6), some (.int x7), some (.int x8), some (.int x9)] d_MO_hang_107 (by decide) rfl rfl ?_
  refine A_iload d_MO_hang_109 rfl ?_
  refine A_if_eq 119 d_MO_hang_111 (by decide) (fun z => ?_) (fun z => ?_)
  · have H := H.1 z
    refine A_iload d_MO_hang_119 rfl ?_
    refine A_sub (L' := [some (.ref 59), some (.int x1), some (.int x2), some (.int x3), some (.int x4), some (.int s0), none, some (.int x7), none, none]) ⟨rfl, rfl, rfl, rfl, rfl, rfl, rfl, trivial⟩ ?_
    exact r_MO_hang_121  k49 _ _ _ _ _ _ _ _ H
  · have H := H.2 z
    refine A_iload d_MO_hang_114 rfl ?_
    refine A_goto 121 d_MO_hang_116 (by decide) ?_
    refine A_sub (L' := [some (.ref 59), some (.int x1), some (.int x2), some (.int x3), some (.int x4), some (.int s0), none, some (.int x7), none, none]) ⟨rfl, rfl, rfl, rfl, rfl, rfl, rfl, trivial⟩ ?_
    exact r_MO_hang_121  k49 _ _ _ _ _ _ _ _ H
set_option maxRecDepth 20000 in
theorem r_MO_hang_93 {G : GG} {d : Nat} {Q : Int32 → AH → Prop} {K49 : Int32 → Int32 → Int32 → Int32 → Int32 → Int32 → Int32 → AH → Prop} (k49 : ∀ x1 x2 x3 x4 x5 x6 x7 h, K49 x1 x2 x3 x4 x5 x6 x7 h → Att G T1 m_MO_hang (d + 9) 49 [some (.ref 59), some (.int x1), some (.int x2), some (.int x3), some (.int x4), some (.int x5), some (.int x6), some (.int x7), none, none] [] h 0 0 (iQ Q)) (x1 : Int32) (x2 : Int32) (x3 : Int32) (x4 : Int32) (x5 : Int32) (x6 : Int32) (x7 : Int32) (x8 : Int32) (s0 : Int32) (h : AH) (H : p_MO_hang_93 Q K49 x1 x2 x3 x4 x5 x6 x7 x8 s0 h) : Att G T1 m_MO_hang (d + 9) 93 [some (.ref 59), some (.int x1), some (.int x2), some (.int x3), some (.int x4), some (.int x5), some (.int x6), some (.int x7), some (.int x8), none] [.int s0] h 0 0 (iQ Q) := by
  refine A_istore [some (.ref 59), some (.int x1), some (.int x2), some (.int x3), some (.int x4), some (.int x5), some (.int x6), some (.int x7), some (.int x8), some (.int s0)] d_MO_hang_93 (by decide) rfl rfl ?_
  refine A_iload d_MO_hang_95 rfl ?_
  refine A_if_eq 105 d_MO_hang_97 (by decide) (fun z => ?_) (fun z => ?_)
  · have H := H.1 z
    refine A_iload d_MO_hang_105 rfl ?_
    refine A_sub (L' := [some (.ref 59), some (.int x1), some (.int x2), some (.int x3), some (.int x4), none, some (.int x6), some (.int x7), some (.int x8), some (.int s0)]) ⟨rfl, rfl, rfl, rfl, rfl, rfl, rfl, rfl, rfl, trivial⟩ ?_
    exact r_MO_hang_107  k49 _ _ _ _ _ _ _ _ _ _ H
  · have H := H.2 z
    refine A_iload d_MO_hang_100 rfl ?_
    refine A_goto 107 d_MO_hang_102 (by decide) ?_
    refine A_sub (L' := [some (.ref 59), some (.int x1), some (.int x2), some (.int x3), some (.int x4), none, some (.int x6), some (.int x7), some (.int x8), some (.int s0)]) ⟨rfl, rfl, rfl, rfl, rfl, rfl, rfl, rfl, rfl, trivial⟩ ?_
    exact r_MO_hang_107  k49 _ _ _ _ _ _ _ _ _ _ H
set_option maxRecDepth 20000 in
theorem r_MO_hang_92 {G : GG} {d : Nat} {Q : Int32 → AH → Prop} {K49 : Int32 → Int32 → Int32 → Int32 → Int32 → Int32 → Int32 → AH → Prop} (k49 : ∀ x1 x2 x3 x4 x5 x6 x7 h, K49 x1 x2 x3 x4 x5 x6 x7 h → Att G T1 m_MO_hang (d + 9) 49 [some (.ref 59), some (.int x1), some (.int x2), some (.int x3), some (.int x4), some (.int x5), some (.int x6), some (.int x7), none, none] [] h 0 0 (iQ Q)) (x1 : Int32) (x2 : Int32) (x3 : Int32) (x4 : Int32) (x5 : Int32) (x6 : Int32) (x7 : Int32) (x8 : Int32) (h : AH) (H : p_MO_hang_92 Q K49 x1 x2 x3 x4 x5 x6 x7 x8 h) : Att G T1 m_MO_hang (d + 9) 92 [some (.ref 59), some (.int x1), some (.int x2), some (.int x3), some (.int x4), some (.int x5), some (.int x6), some (.int x7), some (.int x8), none] [] h 0 0 (iQ Q) := by
  refine A_iconst 0 (by decide) d_MO_hang_92 ?_
  exact r_MO_hang_93  k49 _ _ _ _ _ _ _ _ _ _ H
set_option maxRecDepth 20000 in
theorem r_MO_hang_88 {G : GG} {d : Nat} {Q : Int32 → AH → Prop} {K49 : Int32 → Int32 → Int32 → Int32 → Int32 → Int32 → Int32 → AH → Prop} (k49 : ∀ x1 x2 x3 x4 x5 x6 x7 h, K49 x1 x2 x3 x4 x5 x6 x7 h → Att G T1 m_MO_hang (d + 9) 49 [some (.ref 59), some (.int x1), some (.int x2), some (.int x3), some (.int x4), some (.int x5), some (.int x6), some (.int x7), none, none] [] h 0 0 (iQ Q)) (x1 : Int32) (x2 : Int32) (x3 : Int32) (x4 : Int32) (x5 : Int32) (x6 : Int32) (x7 : Int32) (x8 : Int32) (h : AH) (H : p_MO_hang_88 Q K49 x1 x2 x3 x4 x5 x6 x7 x8 h) : Att G T1 m_MO_hang (d + 9) 88 [some (.ref 59), some (.int x1), some (.int x2), some (.int x3), some (.int x4), some (.int x5), some (.int x6), some (.int x7), some (.int x8), none] [] h 0 0 (iQ Q) := by
  refine A_iconst 1 (by decide) d_MO_hang_88 ?_
  refine A_goto 93 d_MO_hang_89 (by decide) ?_
  exact r_MO_hang_93  k49 _ _ _ _ _ _ _ _ _ _ H
set_option maxRecDepth 20000 in
theorem r_MO_hang_49 {G : GG} {d : Nat} {Q : Int32 → AH → Prop} : ∀ (n : Nat) (x1 : Int32) (x2 : Int32) (x3 : Int32) (x4 : Int32) (x5 : Int32) (x6 : Int32) (x7 : Int32) (h : AH), p_MO_hang_49 Q n x1 x2 x3 x4 x5 x6 x7 h → Att G T1 m_MO_hang (d + 9) 49 [some (.ref 59), some (.int x1), some (.int x2), some (.int x3), some (.int x4), some (.int x5), some (.int x6), some (.int x7), none, none] [] h 0 0 (iQ Q) := by
  intro n
  induction n with
  | zero => intro x1 x2 x3 x4 x5 x6 x7 h H; exact H.elim
  | succ n k49 =>
    intro x1 x2 x3 x4 x5 x6 x7 h H
    refine A_iload d_MO_hang_49 rfl ?_
    refine A_if_lt 129 d_MO_hang_51 (by decide) (fun z => ?_) (fun z => ?_)
    · have H := H.1 z
      refine A_aload_n d_MO_hang_129 rfl ?_
      refine A_get (v := .ref 63) d_MO_hang_130 (fo_MO_19_12 rfl) (vA_s (by decide)) rfl (by first | rfl | (show Value.int _ = Value.int _; simp [wI, wL, wR, wC, up])) ?_
      refine A_iload_n d_MO_hang_133 rfl ?_
      refine A_iload d_MO_hang_134 rfl ?_
      obtain ⟨c1, H⟩ := H
      refine A_iast (n := 7) d_MO_hang_136 (vA_s (by decide)) rfl c1 ?_
      refine A_iload_n d_MO_hang_137 rfl ?_
      refine A_if_ne 146 d_MO_hang_138 (by decide) (fun z => ?_) (fun z => ?_)
      · have H := H.1 z
        refine A_iload d_MO_hang_146 rfl ?_
        exact A_iret d_MO_hang_148 rfl rfl H
      · have H := H.2 z
        refine A_iload d_MO_hang_141 rfl ?_
        refine A_goto 148 d_MO_hang_143 (by decide) ?_
        exact A_iret d_MO_hang_148 rfl rfl H
    · have H := H.2 z
      refine A_aload_n d_MO_hang_54 rfl ?_
      refine A_get (v := .ref 63) d_MO_hang_55 (fo_MO_19_12 rfl) (vA_s (by decide)) rfl (by first | rfl | (show Value.int _ = Value.int _; simp [wI, wL, wR, wC, up])) ?_
      refine A_iload_n d_MO_hang_58 rfl ?_
      refine A_iload d_MO_hang_59 rfl ?_
      obtain ⟨c2, H⟩ := H
      refine A_iast (n := 7) d_MO_hang_61 (vA_s (by decide)) rfl c2 ?_
      refine A_aload_n d_MO_hang_62 rfl ?_
      refine A_iload_n d_MO_hang_63 rfl ?_
      refine A_cI [.ref 59, .int x1] [] (ct_MO_247 rfl) d_MO_hang_64 rfl rfl (by decide) (Nat.le_of_ble_eq_true rfl) (rcA_o (c := 12) rfl (vA_s (by decide)) rfl (by decide) rfl) (ok_MO_whenOf (d := d) H) (fun r4 h3 H => ?_)
      refine A_istore [some (.ref 59), some (.int x1), some (.int x2), some (.int x3), some (.int x4), some (.int x5), some (.int x6), some (.int x7), some (.int r4), none] d_MO_hang_67 (by decide) rfl rfl ?_
      refine A_iload d_MO_hang_69 rfl ?_
      refine A_iconst (-1) (by decide) d_MO_hang_71 ?_
      refine A_icmp_eq 92 d_MO_hang_72 (by decide) (fun z => ?_) (fun z => ?_)
      · have H := H.1 z
        exact r_MO_hang_92  k49 _ _ _ _ _ _ _ _ _ H
      · have H := H.2 z
        refine A_iload d_MO_hang_75 rfl ?_
        refine A_iconst (-1) (by decide) d_MO_hang_77 ?_
        refine A_icmp_eq 88 d_MO_hang_78 (by decide) (fun z => ?_) (fun z => ?_)
        · have H := H.1 z
          exact r_MO_hang_88  k49 _ _ _ _ _ _ _ _ _ H
        · have H := H.2 z
          refine A_iload d_MO_hang_81 rfl ?_
          refine A_iload d_MO_hang_83 rfl ?_
          refine A_icmp_ge 92 d_MO_hang_85 (by decide) (fun z => ?_) (fun z => ?_)
          · have H := H.1 z
            exact r_MO_hang_92  k49 _ _ _ _ _ _ _ _ _ H
          · have H := H.2 z
            exact r_MO_hang_88  k49 _ _ _ _ _ _ _ _ _ H
set_option maxRecDepth 20000 in
theorem r_MO_hang_0 {G : GG} {d : Nat} {Q : Int32 → AH → Prop} (x1 : Int32) (x2 : Int32) (x3 : Int32) (h : AH) (H : p_MO_hang Q x1 x2 x3 h) : Att G T1 m_MO_hang (d + 9) 0 [some (.ref 59), some (.int x1), some (.int x2), some (.int x3), none, none, none, none, none, none] [] h 0 0 (iQ Q) := by
  refine A_aload_n d_MO_hang_0 rfl ?_
  refine A_iload_n d_MO_hang_1 rfl ?_
  refine A_cI [.ref 59, .int x1] [] (ct_MO_182 rfl) d_MO_hang_2 rfl rfl (by decide) (Nat.le_of_ble_eq_true rfl) (rcA_o (c := 12) rfl (vA_s (by decide)) rfl (by decide) rfl) (ok_MO_isHouse (d := d + 7) H) (fun r2 h1 H => ?_)
  refine A_if_eq 16 d_MO_hang_5 (by decide) (fun z => ?_) (fun z => ?_)
  · have H := H.1 z
    refine A_bipush (-5) (by decide) d_MO_hang_16 ?_
    exact A_iret d_MO_hang_18 rfl rfl H
  · have H := H.2 z
    refine A_aload_n d_MO_hang_8 rfl ?_
    refine A_iload_n d_MO_hang_9 rfl ?_
    refine A_cI [.ref 59, .int x2] [] (ct_MO_182 rfl) d_MO_hang_10 rfl rfl (by decide) (Nat.le_of_ble_eq_true rfl) (rcA_o (c := 12) rfl (vA_s (by decide)) rfl (by decide) rfl) (ok_MO_isHouse (d := d + 7) H) (fun r4 h3 H => ?_)
    refine A_if_ne 19 d_MO_hang_13 (by decide) (fun z => ?_) (fun z => ?_)
    · have H := H.1 z
      refine A_iload_n d_MO_hang_19 rfl ?_
      refine A_iconst 0 (by decide) d_MO_hang_20 ?_
      refine A_iconst 1 (by decide) d_MO_hang_21 ?_
      refine A_cI [.int x3, .int 0, .int 1] [] (ct_MO_93 rfl) d_MO_hang_22 rfl rfl (by decide) (Nat.le_of_ble_eq_true rfl) trivial (ok_MO_in (d := d + 8) H) (fun r6 h5 H => ?_)
      refine A_if_ne 31 d_MO_hang_25 (by decide) (fun z => ?_) (fun z => ?_)
      · have H := H.1 z
        refine A_aload_n d_MO_hang_31 rfl ?_
        refine A_get (v := .ref 63) d_MO_hang_32 (fo_MO_19_12 rfl) (vA_s (by decide)) rfl (by first | rfl | (show Value.int _ = Value.int _; simp [wI, wL, wR, wC, up])) ?_
        refine A_iload_n d_MO_hang_35 rfl ?_
        obtain ⟨c7, H⟩ := H
        refine A_ialdv (n := 7) (v := (h5.1 63 x2)) d_MO_hang_36 (vA_s (by decide)) rfl c7 rfl ?_
        refine A_istore [some (.ref 59), some (.int x1), some (.int x2), some (.int x3), some (.int (h5.1 63 x2)), none, none, none, none, none] d_MO_hang_37 (by decide) rfl rfl ?_
        refine A_iconst (-1) (by decide) d_MO_hang_39 ?_
        refine A_istore [some (.ref 59), some (.int x1), some (.int x2), some (.int x3), some (.int (h5.1 63 x2)), some (.int (-1)), none, none, none, none] d_MO_hang_40 (by decide) rfl rfl ?_
        refine A_iconst (-1) (by decide) d_MO_hang_42 ?_
        refine A_istore [some (.ref 59), some (.int x1), some (.int x2), some (.int x3), some (.int (h5.1 63 x2)), some (.int (-1)), some (.int (-1)), none, none, none] d_MO_hang_43 (by decide) rfl rfl ?_
        refine A_bipush 9 (by decide) d_MO_hang_45 ?_
        refine A_istore [some (.ref 59), some (.int x1), some (.int x2), some (.int x3), some (.int (h5.1 63 x2)), some (.int (-1)), some (.int (-1)), some (.int 9), none, none] d_MO_hang_47 (by decide) rfl rfl ?_
        obtain ⟨n9, H⟩ := H
        exact r_MO_hang_49   n9 _ _ _ _ _ _ _ _ H
      · have H := H.2 z
        refine A_bipush (-7) (by decide) d_MO_hang_28 ?_
        exact A_iret d_MO_hang_30 rfl rfl H
    · have H := H.2 z
      refine A_bipush (-5) (by decide) d_MO_hang_16 ?_
      exact A_iret d_MO_hang_18 rfl rfl H
set_option maxRecDepth 20000 in
theorem ok_MO_hang {G : GG} {d : Nat} {Q : Int32 → AH → Prop} {x1 : Int32} {x2 : Int32} {x3 : Int32} {h : AH} (H : p_MO_hang Q x1 x2 x3 h) : WP G T1 m_MO_hang (d + 9) [.ref 59, .int x1, .int x2, .int x3] h 0 0 (iQ Q) := by
  exact WP.enter 6 (by decide) rfl rfl (r_MO_hang_0 x1 x2 x3 h H)
theorem d_MO_judge_0 : decode prog_14_method_66_code 0 = .ok (.aload_n 0, 1) := by decide +kernel
theorem d_MO_judge_1 : decode prog_14_method_66_code 1 = .ok (.iload_n 1, 1) := by decide +kernel
theorem d_MO_judge_2 : decode prog_14_method_66_code 2 = .ok (.iload_n 2, 1) := by decide +kernel
theorem d_MO_judge_3 : decode prog_14_method_66_code 3 = .ok (.invokevirtual 265, 3) := by decide +kernel
theorem d_MO_judge_6 : decode prog_14_method_66_code 6 = .ok (.istore_n 3, 1) := by decide +kernel
theorem d_MO_judge_7 : decode prog_14_method_66_code 7 = .ok (.iload_n 3, 1) := by decide +kernel
theorem d_MO_judge_8 : decode prog_14_method_66_code 8 = .ok (.ifCond .ne 12, 3) := by decide +kernel
theorem d_MO_judge_11 : decode prog_14_method_66_code 11 = .ok (.aload_n 0, 1) := by decide +kernel
theorem d_MO_judge_12 : decode prog_14_method_66_code 12 = .ok (.iload_n 1, 1) := by decide +kernel
theorem d_MO_judge_13 : decode prog_14_method_66_code 13 = .ok (.iload_n 2, 1) := by decide +kernel
theorem d_MO_judge_14 : decode prog_14_method_66_code 14 = .ok (.invokevirtual 268, 3) := by decide +kernel
theorem d_MO_judge_17 : decode prog_14_method_66_code 17 = .ok (.goto 4, 3) := by decide +kernel
theorem d_MO_judge_20 : decode prog_14_method_66_code 20 = .ok (.iload_n 3, 1) := by decide +kernel
theorem d_MO_judge_21 : decode prog_14_method_66_code 21 = .ok (.ireturn, 1) := by decide +kernel
def p_MO_judge (Q : Int32 → AH → Prop) (x1 : Int32) (x2 : Int32) (h : AH) : Prop := p_MO_toldWrong (fun r2 h1 => ((¬ r2 = 0 → Q r2 h1) ∧ (r2 = 0 → p_MO_unlike (fun r4 h3 => Q r4 h3) x1 x2 h1))) x1 x2 h
set_option maxRecDepth 20000 in
theorem r_MO_judge_0 {G : GG} {d : Nat} {Q : Int32 → AH → Prop} (x1 : Int32) (x2 : Int32) (h : AH) (H : p_MO_judge Q x1 x2 h) : Att G T1 m_MO_judge (d + 9) 0 [some (.ref 59), some (.int x1), some (.int x2), none] [] h 0 0 (iQ Q) := by
  refine A_aload_n d_MO_judge_0 rfl ?_
  refine A_iload_n d_MO_judge_1 rfl ?_
  refine A_iload_n d_MO_judge_2 rfl ?_
  refine A_cI [.ref 59, .int x1, .int x2] [] (ct_MO_265 rfl) d_MO_judge_3 rfl rfl (by decide) (Nat.le_of_ble_eq_true rfl) (rcA_o (c := 12) rfl (vA_s (by decide)) rfl (by decide) rfl) (ok_MO_toldWrong (d := d + 6) H) (fun r2 h1 H => ?_)
  refine A_istore_n [some (.ref 59), some (.int x1), some (.int x2), some (.int r2)] d_MO_judge_6 (by decide) rfl rfl ?_
  refine A_iload_n d_MO_judge_7 rfl ?_
  refine A_if_ne 20 d_MO_judge_8 (by decide) (fun z => ?_) (fun z => ?_)
  · have H := H.1 z
    refine A_iload_n d_MO_judge_20 rfl ?_
    exact A_iret d_MO_judge_21 rfl rfl H
  · have H := H.2 z
    refine A_aload_n d_MO_judge_11 rfl ?_
    refine A_iload_n d_MO_judge_12 rfl ?_
    refine A_iload_n d_MO_judge_13 rfl ?_
    refine A_cI [.ref 59, .int x1, .int x2] [] (ct_MO_268 rfl) d_MO_judge_14 rfl rfl (by decide) (Nat.le_of_ble_eq_true rfl) (rcA_o (c := 12) rfl (vA_s (by decide)) rfl (by decide) rfl) (ok_MO_unlike (d := d) H) (fun r4 h3 H => ?_)
    refine A_goto 21 d_MO_judge_17 (by decide) ?_
    exact A_iret d_MO_judge_21 rfl rfl H
set_option maxRecDepth 20000 in
theorem ok_MO_judge {G : GG} {d : Nat} {Q : Int32 → AH → Prop} {x1 : Int32} {x2 : Int32} {h : AH} (H : p_MO_judge Q x1 x2 h) : WP G T1 m_MO_judge (d + 9) [.ref 59, .int x1, .int x2] h 0 0 (iQ Q) := by
  exact WP.enter 1 (by decide) rfl rfl (r_MO_judge_0 x1 x2 h H)
theorem d_MO_times_0 : decode prog_14_method_67_code 0 = .ok (.aload_n 0, 1) := by decide +kernel
theorem d_MO_times_1 : decode prog_14_method_67_code 1 = .ok (.iload_n 1, 1) := by decide +kernel
theorem d_MO_times_2 : decode prog_14_method_67_code 2 = .ok (.invokevirtual 262, 3) := by decide +kernel
theorem d_MO_times_5 : decode prog_14_method_67_code 5 = .ok (.istore_n 2, 1) := by decide +kernel
theorem d_MO_times_6 : decode prog_14_method_67_code 6 = .ok (.iload_n 2, 1) := by decide +kernel
theorem d_MO_times_7 : decode prog_14_method_67_code 7 = .ok (.ifCond .eq 5, 3) := by decide +kernel
theorem d_MO_times_10 : decode prog_14_method_67_code 10 = .ok (.iload_n 2, 1) := by decide +kernel
theorem d_MO_times_11 : decode prog_14_method_67_code 11 = .ok (.ireturn, 1) := by decide +kernel
theorem d_MO_times_12 : decode prog_14_method_67_code 12 = .ok (.iconst 0, 1) := by decide +kernel
theorem d_MO_times_13 : decode prog_14_method_67_code 13 = .ok (.istore_n 3, 1) := by decide +kernel
theorem d_MO_times_14 : decode prog_14_method_67_code 14 = .ok (.iconst 0, 1) := by decide +kernel
theorem d_MO_times_15 : decode prog_14_method_67_code 15 = .ok (.istore 4, 2) := by decide +kernel
theorem d_MO_times_17 : decode prog_14_method_67_code 17 = .ok (.iload 4, 2) := by decide +kernel
theorem d_MO_times_19 : decode prog_14_method_67_code 19 = .ok (.bipush 24, 2) := by decide +kernel
theorem d_MO_times_21 : decode prog_14_method_67_code 21 = .ok (.if_icmp .gt 31, 3) := by decide +kernel
theorem d_MO_times_24 : decode prog_14_method_67_code 24 = .ok (.iload_n 3, 1) := by decide +kernel
theorem d_MO_times_25 : decode prog_14_method_67_code 25 = .ok (.aload_n 0, 1) := by decide +kernel
theorem d_MO_times_26 : decode prog_14_method_67_code 26 = .ok (.iload_n 1, 1) := by decide +kernel
theorem d_MO_times_27 : decode prog_14_method_67_code 27 = .ok (.iload 4, 2) := by decide +kernel
theorem d_MO_times_29 : decode prog_14_method_67_code 29 = .ok (.invokevirtual 268, 3) := by decide +kernel
theorem d_MO_times_32 : decode prog_14_method_67_code 32 = .ok (.iconst (-1), 1) := by decide +kernel
theorem d_MO_times_33 : decode prog_14_method_67_code 33 = .ok (.if_icmp .ne 10, 3) := by decide +kernel
theorem d_MO_times_36 : decode prog_14_method_67_code 36 = .ok (.iconst 1, 1) := by decide +kernel
theorem d_MO_times_37 : decode prog_14_method_67_code 37 = .ok (.iload 4, 2) := by decide +kernel
theorem d_MO_times_39 : decode prog_14_method_67_code 39 = .ok (.ishl, 1) := by decide +kernel
theorem d_MO_times_40 : decode prog_14_method_67_code 40 = .ok (.goto 4, 3) := by decide +kernel
theorem d_MO_times_43 : decode prog_14_method_67_code 43 = .ok (.iconst 0, 1) := by decide +kernel
theorem d_MO_times_44 : decode prog_14_method_67_code 44 = .ok (.ior, 1) := by decide +kernel
theorem d_MO_times_45 : decode prog_14_method_67_code 45 = .ok (.istore_n 3, 1) := by decide +kernel
theorem d_MO_times_46 : decode prog_14_method_67_code 46 = .ok (.iinc 4 1, 3) := by decide +kernel
theorem d_MO_times_49 : decode prog_14_method_67_code 49 = .ok (.goto (-32), 3) := by decide +kernel
theorem d_MO_times_52 : decode prog_14_method_67_code 52 = .ok (.iload_n 3, 1) := by decide +kernel
theorem d_MO_times_53 : decode prog_14_method_67_code 53 = .ok (.ireturn, 1) := by decide +kernel
def p_MO_times_44 (Q : Int32 → AH → Prop) (K17 : Int32 → Int32 → Int32 → AH → Prop) (x1 : Int32) (x4 : Int32) (s0 : Int32) (s1 : Int32) (h : AH) : Prop := K17 x1 (s0 ||| s1) (x4 + 1) h
def p_MO_times_17 (Q : Int32 → AH → Prop) : Nat → Int32 → Int32 → Int32 → AH → Prop
  | 0 => fun _ _ _ _ => False
  | n + 1 => fun x1 x3 x4 h => let K17 := p_MO_times_17 Q n; ((24 < x4 → Q x3 h) ∧ (¬ 24 < x4 → p_MO_unlike (fun r2 h1 => ((¬ r2 = (-1) → p_MO_times_44 Q  K17 x1 x4 x3 0 h1) ∧ (r2 = (-1) → p_MO_times_44 Q  K17 x1 x4 x3 (1 <<< (x4 &&& 31)) h1))) x1 x4 h))
def p_MO_times (Q : Int32 → AH → Prop) (x1 : Int32) (h : AH) : Prop := p_MO_sheetWrong (fun r2 h1 => ((r2 = 0 → ∃ n, p_MO_times_17 Q   n x1 0 0 h1) ∧ (¬ r2 = 0 → Q r2 h1))) x1 h
set_option maxRecDepth 20000 in
theorem r_MO_times_44 {G : GG} {d : Nat} {Q : Int32 → AH → Prop} {K17 : Int32 → Int32 → Int32 → AH → Prop} (k17 : ∀ x1 x3 x4 h, K17 x1 x3 x4 h → Att G T1 m_MO_times (d + 9) 17 [some (.ref 59), some (.int x1), none, some (.int x3), some (.int x4)] [] h 0 0 (iQ Q)) (x1 : Int32) (x4 : Int32) (s0 : Int32) (s1 : Int32) (h : AH) (H : p_MO_times_44 Q K17 x1 x4 s0 s1 h) : Att G T1 m_MO_times (d + 9) 44 [some (.ref 59), some (.int x1), none, none, some (.int x4)] [.int s1, .int s0] h 0 0 (iQ Q) := by
  refine A_ior d_MO_times_44 ?_
  refine A_istore_n [some (.ref 59), some (.int x1), none, some (.int (s0 ||| s1)), some (.int x4)] d_MO_times_45 (by decide) rfl rfl ?_
  refine A_iinc 1 [some (.ref 59), some (.int x1), none, some (.int (s0 ||| s1)), some (.int (x4 + 1))] d_MO_times_46 rfl (by decide) (by decide) rfl rfl ?_
  refine A_goto 17 d_MO_times_49 (by decide) ?_
  exact k17 _ _ _ _ H
set_option maxRecDepth 20000 in
theorem r_MO_times_17 {G : GG} {d : Nat} {Q : Int32 → AH → Prop} : ∀ (n : Nat) (x1 : Int32) (x3 : Int32) (x4 : Int32) (h : AH), p_MO_times_17 Q n x1 x3 x4 h → Att G T1 m_MO_times (d + 9) 17 [some (.ref 59), some (.int x1), none, some (.int x3), some (.int x4)] [] h 0 0 (iQ Q) := by
  intro n
  induction n with
  | zero => intro x1 x3 x4 h H; exact H.elim
  | succ n k17 =>
    intro x1 x3 x4 h H
    refine A_iload d_MO_times_17 rfl ?_
    refine A_bipush 24 (by decide) d_MO_times_19 ?_
    refine A_icmp_gt 52 d_MO_times_21 (by decide) (fun z => ?_) (fun z => ?_)
    · have H := H.1 z
      refine A_iload_n d_MO_times_52 rfl ?_
      exact A_iret d_MO_times_53 rfl rfl H
    · have H := H.2 z
      refine A_iload_n d_MO_times_24 rfl ?_
      refine A_aload_n d_MO_times_25 rfl ?_
      refine A_iload_n d_MO_times_26 rfl ?_
      refine A_iload d_MO_times_27 rfl ?_
      refine A_cI [.ref 59, .int x1, .int x4] [.int x3] (ct_MO_268 rfl) d_MO_times_29 rfl rfl (by decide) (Nat.le_of_ble_eq_true rfl) (rcA_o (c := 12) rfl (vA_s (by decide)) rfl (by decide) rfl) (ok_MO_unlike (d := d) H) (fun r2 h1 H => ?_)
      refine A_iconst (-1) (by decide) d_MO_times_32 ?_
      refine A_icmp_ne 43 d_MO_times_33 (by decide) (fun z => ?_) (fun z => ?_)
      · have H := H.1 z
        refine A_iconst 0 (by decide) d_MO_times_43 ?_
        refine A_sub (L' := [some (.ref 59), some (.int x1), none, none, some (.int x4)]) ⟨rfl, rfl, rfl, trivial⟩ ?_
        exact r_MO_times_44  k17 _ _ _ _ _ H
      · have H := H.2 z
        refine A_iconst 1 (by decide) d_MO_times_36 ?_
        refine A_iload d_MO_times_37 rfl ?_
        refine A_ishl d_MO_times_39 ?_
        refine A_goto 44 d_MO_times_40 (by decide) ?_
        refine A_sub (L' := [some (.ref 59), some (.int x1), none, none, some (.int x4)]) ⟨rfl, rfl, rfl, trivial⟩ ?_
        exact r_MO_times_44  k17 _ _ _ _ _ H
set_option maxRecDepth 20000 in
theorem r_MO_times_0 {G : GG} {d : Nat} {Q : Int32 → AH → Prop} (x1 : Int32) (h : AH) (H : p_MO_times Q x1 h) : Att G T1 m_MO_times (d + 9) 0 [some (.ref 59), some (.int x1), none, none, none] [] h 0 0 (iQ Q) := by
  refine A_aload_n d_MO_times_0 rfl ?_
  refine A_iload_n d_MO_times_1 rfl ?_
  refine A_cI [.ref 59, .int x1] [] (ct_MO_262 rfl) d_MO_times_2 rfl rfl (by decide) (Nat.le_of_ble_eq_true rfl) (rcA_o (c := 12) rfl (vA_s (by decide)) rfl (by decide) rfl) (ok_MO_sheetWrong (d := d + 7) H) (fun r2 h1 H => ?_)
  refine A_istore_n [some (.ref 59), some (.int x1), some (.int r2), none, none] d_MO_times_5 (by decide) rfl rfl ?_
  refine A_iload_n d_MO_times_6 rfl ?_
  refine A_if_eq 12 d_MO_times_7 (by decide) (fun z => ?_) (fun z => ?_)
  · have H := H.1 z
    refine A_iconst 0 (by decide) d_MO_times_12 ?_
    refine A_istore_n [some (.ref 59), some (.int x1), some (.int r2), some (.int 0), none] d_MO_times_13 (by decide) rfl rfl ?_
    refine A_iconst 0 (by decide) d_MO_times_14 ?_
    refine A_istore [some (.ref 59), some (.int x1), some (.int r2), some (.int 0), some (.int 0)] d_MO_times_15 (by decide) rfl rfl ?_
    refine A_sub (L' := [some (.ref 59), some (.int x1), none, some (.int 0), some (.int 0)]) ⟨rfl, rfl, rfl, rfl, trivial⟩ ?_
    obtain ⟨n9, H⟩ := H
    exact r_MO_times_17   n9 _ _ _ _ H
  · have H := H.2 z
    refine A_iload_n d_MO_times_10 rfl ?_
    exact A_iret d_MO_times_11 rfl rfl H
set_option maxRecDepth 20000 in
theorem ok_MO_times {G : GG} {d : Nat} {Q : Int32 → AH → Prop} {x1 : Int32} {h : AH} (H : p_MO_times Q x1 h) : WP G T1 m_MO_times (d + 9) [.ref 59, .int x1] h 0 0 (iQ Q) := by
  exact WP.enter 3 (by decide) rfl rfl (r_MO_times_0 x1 h H)
theorem d_MO_laws_0 : decode prog_14_method_68_code 0 = .ok (.aload_n 0, 1) := by decide +kernel
theorem d_MO_laws_1 : decode prog_14_method_68_code 1 = .ok (.iload_n 1, 1) := by decide +kernel
theorem d_MO_laws_2 : decode prog_14_method_68_code 2 = .ok (.iload_n 2, 1) := by decide +kernel
theorem d_MO_laws_3 : decode prog_14_method_68_code 3 = .ok (.invokevirtual 265, 3) := by decide +kernel
theorem d_MO_laws_6 : decode prog_14_method_68_code 6 = .ok (.istore_n 3, 1) := by decide +kernel
theorem d_MO_laws_7 : decode prog_14_method_68_code 7 = .ok (.iload_n 3, 1) := by decide +kernel
theorem d_MO_laws_8 : decode prog_14_method_68_code 8 = .ok (.ifCond .eq 5, 3) := by decide +kernel
theorem d_MO_laws_11 : decode prog_14_method_68_code 11 = .ok (.iload_n 3, 1) := by decide +kernel
theorem d_MO_laws_12 : decode prog_14_method_68_code 12 = .ok (.ireturn, 1) := by decide +kernel
theorem d_MO_laws_13 : decode prog_14_method_68_code 13 = .ok (.aload_n 0, 1) := by decide +kernel
theorem d_MO_laws_14 : decode prog_14_method_68_code 14 = .ok (.getfield 110, 3) := by decide +kernel
theorem d_MO_laws_17 : decode prog_14_method_68_code 17 = .ok (.istore 4, 2) := by decide +kernel
theorem d_MO_laws_19 : decode prog_14_method_68_code 19 = .ok (.iconst 0, 1) := by decide +kernel
theorem d_MO_laws_20 : decode prog_14_method_68_code 20 = .ok (.istore 5, 2) := by decide +kernel
theorem d_MO_laws_22 : decode prog_14_method_68_code 22 = .ok (.iconst 0, 1) := by decide +kernel
theorem d_MO_laws_23 : decode prog_14_method_68_code 23 = .ok (.istore 6, 2) := by decide +kernel
theorem d_MO_laws_25 : decode prog_14_method_68_code 25 = .ok (.iload 6, 2) := by decide +kernel
theorem d_MO_laws_27 : decode prog_14_method_68_code 27 = .ok (.aload_n 0, 1) := by decide +kernel
theorem d_MO_laws_28 : decode prog_14_method_68_code 28 = .ok (.getfield 107, 3) := by decide +kernel
theorem d_MO_laws_31 : decode prog_14_method_68_code 31 = .ok (.if_icmp .ge 38, 3) := by decide +kernel
theorem d_MO_laws_34 : decode prog_14_method_68_code 34 = .ok (.aload_n 0, 1) := by decide +kernel
theorem d_MO_laws_35 : decode prog_14_method_68_code 35 = .ok (.iload 6, 2) := by decide +kernel
theorem d_MO_laws_37 : decode prog_14_method_68_code 37 = .ok (.putfield 110, 3) := by decide +kernel
theorem d_MO_laws_40 : decode prog_14_method_68_code 40 = .ok (.iload 5, 2) := by decide +kernel
theorem d_MO_laws_42 : decode prog_14_method_68_code 42 = .ok (.aload_n 0, 1) := by decide +kernel
theorem d_MO_laws_43 : decode prog_14_method_68_code 43 = .ok (.iload_n 1, 1) := by decide +kernel
theorem d_MO_laws_44 : decode prog_14_method_68_code 44 = .ok (.iload_n 2, 1) := by decide +kernel
theorem d_MO_laws_45 : decode prog_14_method_68_code 45 = .ok (.invokevirtual 268, 3) := by decide +kernel
theorem d_MO_laws_48 : decode prog_14_method_68_code 48 = .ok (.iconst (-1), 1) := by decide +kernel
theorem d_MO_laws_49 : decode prog_14_method_68_code 49 = .ok (.if_icmp .ne 10, 3) := by decide +kernel
theorem d_MO_laws_52 : decode prog_14_method_68_code 52 = .ok (.iconst 1, 1) := by decide +kernel
theorem d_MO_laws_53 : decode prog_14_method_68_code 53 = .ok (.iload 6, 2) := by decide +kernel
theorem d_MO_laws_55 : decode prog_14_method_68_code 55 = .ok (.ishl, 1) := by decide +kernel
theorem d_MO_laws_56 : decode prog_14_method_68_code 56 = .ok (.goto 4, 3) := by decide +kernel
theorem d_MO_laws_59 : decode prog_14_method_68_code 59 = .ok (.iconst 0, 1) := by decide +kernel
theorem d_MO_laws_60 : decode prog_14_method_68_code 60 = .ok (.ior, 1) := by decide +kernel
theorem d_MO_laws_61 : decode prog_14_method_68_code 61 = .ok (.istore 5, 2) := by decide +kernel
theorem d_MO_laws_63 : decode prog_14_method_68_code 63 = .ok (.iinc 6 1, 3) := by decide +kernel
theorem d_MO_laws_66 : decode prog_14_method_68_code 66 = .ok (.goto (-41), 3) := by decide +kernel
theorem d_MO_laws_69 : decode prog_14_method_68_code 69 = .ok (.aload_n 0, 1) := by decide +kernel
theorem d_MO_laws_70 : decode prog_14_method_68_code 70 = .ok (.iload 4, 2) := by decide +kernel
theorem d_MO_laws_72 : decode prog_14_method_68_code 72 = .ok (.putfield 110, 3) := by decide +kernel
theorem d_MO_laws_75 : decode prog_14_method_68_code 75 = .ok (.iload 5, 2) := by decide +kernel
theorem d_MO_laws_77 : decode prog_14_method_68_code 77 = .ok (.ireturn, 1) := by decide +kernel
def p_MO_laws_60 (Q : Int32 → AH → Prop) (K25 : Int32 → Int32 → Int32 → Int32 → Int32 → AH → Prop) (x1 : Int32) (x2 : Int32) (x4 : Int32) (x6 : Int32) (s0 : Int32) (s1 : Int32) (h : AH) : Prop := K25 x1 x2 x4 (s0 ||| s1) (x6 + 1) h
def p_MO_laws_25 (Q : Int32 → AH → Prop) : Nat → Int32 → Int32 → Int32 → Int32 → Int32 → AH → Prop
  | 0 => fun _ _ _ _ _ _ => False
  | n + 1 => fun x1 x2 x4 x5 x6 h => let K25 := p_MO_laws_25 Q n; (((h.1 59 11) ≤ x6 → Q x5 (wI h 59 12 x4)) ∧ (¬ (h.1 59 11) ≤ x6 → p_MO_unlike (fun r2 h1 => ((¬ r2 = (-1) → p_MO_laws_60 Q  K25 x1 x2 x4 x6 x5 0 h1) ∧ (r2 = (-1) → p_MO_laws_60 Q  K25 x1 x2 x4 x6 x5 (1 <<< (x6 &&& 31)) h1))) x1 x2 (wI h 59 12 x6)))
def p_MO_laws (Q : Int32 → AH → Prop) (x1 : Int32) (x2 : Int32) (h : AH) : Prop := p_MO_toldWrong (fun r2 h1 => ((r2 = 0 → ∃ n, p_MO_laws_25 Q   n x1 x2 (h1.1 59 12) 0 0 h1) ∧ (¬ r2 = 0 → Q r2 h1))) x1 x2 h
set_option maxRecDepth 20000 in
theorem r_MO_laws_60 {G : GG} {d : Nat} {Q : Int32 → AH → Prop} {K25 : Int32 → Int32 → Int32 → Int32 → Int32 → AH → Prop} (k25 : ∀ x1 x2 x4 x5 x6 h, K25 x1 x2 x4 x5 x6 h → Att G T1 m_MO_laws (d + 9) 25 [some (.ref 59), some (.int x1), some (.int x2), none, some (.int x4), some (.int x5), some (.int x6)] [] h 0 0 (iQ Q)) (x1 : Int32) (x2 : Int32) (x4 : Int32) (x6 : Int32) (s0 : Int32) (s1 : Int32) (h : AH) (H : p_MO_laws_60 Q K25 x1 x2 x4 x6 s0 s1 h) : Att G T1 m_MO_laws (d + 9) 60 [some (.ref 59), some (.int x1), some (.int x2), none, some (.int x4), none, some (.int x6)] [.int s1, .int s0] h 0 0 (iQ Q) := by
  refine A_ior d_MO_laws_60 ?_
  refine A_istore [some (.ref 59), some (.int x1), some (.int x2), none, some (.int x4), some (.int (s0 ||| s1)), some (.int x6)] d_MO_laws_61 (by decide) rfl rfl ?_
  refine A_iinc 1 [some (.ref 59), some (.int x1), some (.int x2), none, some (.int x4), some (.int (s0 ||| s1)), some (.int (x6 + 1))] d_MO_laws_63 rfl (by decide) (by decide) rfl rfl ?_
  refine A_goto 25 d_MO_laws_66 (by decide) ?_
  exact k25 _ _ _ _ _ _ H
set_option maxRecDepth 20000 in
theorem r_MO_laws_25 {G : GG} {d : Nat} {Q : Int32 → AH → Prop} : ∀ (n : Nat) (x1 : Int32) (x2 : Int32) (x4 : Int32) (x5 : Int32) (x6 : Int32) (h : AH), p_MO_laws_25 Q n x1 x2 x4 x5 x6 h → Att G T1 m_MO_laws (d + 9) 25 [some (.ref 59), some (.int x1), some (.int x2), none, some (.int x4), some (.int x5), some (.int x6)] [] h 0 0 (iQ Q) := by
  intro n
  induction n with
  | zero => intro x1 x2 x4 x5 x6 h H; exact H.elim
  | succ n k25 =>
    intro x1 x2 x4 x5 x6 h H
    refine A_iload d_MO_laws_25 rfl ?_
    refine A_aload_n d_MO_laws_27 rfl ?_
    refine A_get (v := .int (h.1 59 11)) d_MO_laws_28 (fo_MO_107_12 rfl) (vA_s (by decide)) rfl (by first | rfl | (show Value.int _ = Value.int _; simp [wI, wL, wR, wC, up])) ?_
    refine A_icmp_ge 69 d_MO_laws_31 (by decide) (fun z => ?_) (fun z => ?_)
    · have H := H.1 z
      refine A_aload_n d_MO_laws_69 rfl ?_
      refine A_iload d_MO_laws_70 rfl ?_
      refine A_putI (k := 12) d_MO_laws_72 (fo_MO_110_12 rfl) (Or.inr ⟨rfl, _, ft_12_12⟩) (fun z => by cases z) rfl (vA_s (by decide)) rfl rfl rfl ?_
      refine A_iload d_MO_laws_75 rfl ?_
      exact A_iret d_MO_laws_77 rfl rfl H
    · have H := H.2 z
      refine A_aload_n d_MO_laws_34 rfl ?_
      refine A_iload d_MO_laws_35 rfl ?_
      refine A_putI (k := 12) d_MO_laws_37 (fo_MO_110_12 rfl) (Or.inr ⟨rfl, _, ft_12_12⟩) (fun z => by cases z) rfl (vA_s (by decide)) rfl rfl rfl ?_
      refine A_iload d_MO_laws_40 rfl ?_
      refine A_aload_n d_MO_laws_42 rfl ?_
      refine A_iload_n d_MO_laws_43 rfl ?_
      refine A_iload_n d_MO_laws_44 rfl ?_
      refine A_cI [.ref 59, .int x1, .int x2] [.int x5] (ct_MO_268 rfl) d_MO_laws_45 rfl rfl (by decide) (Nat.le_of_ble_eq_true rfl) (rcA_o (c := 12) rfl (vA_s (by decide)) rfl (by decide) rfl) (ok_MO_unlike (d := d) H) (fun r2 h1 H => ?_)
      refine A_iconst (-1) (by decide) d_MO_laws_48 ?_
      refine A_icmp_ne 59 d_MO_laws_49 (by decide) (fun z => ?_) (fun z => ?_)
      · have H := H.1 z
        refine A_iconst 0 (by decide) d_MO_laws_59 ?_
        refine A_sub (L' := [some (.ref 59), some (.int x1), some (.int x2), none, some (.int x4), none, some (.int x6)]) ⟨rfl, rfl, rfl, rfl, rfl, trivial⟩ ?_
        exact r_MO_laws_60  k25 _ _ _ _ _ _ _ H
      · have H := H.2 z
        refine A_iconst 1 (by decide) d_MO_laws_52 ?_
        refine A_iload d_MO_laws_53 rfl ?_
        refine A_ishl d_MO_laws_55 ?_
        refine A_goto 60 d_MO_laws_56 (by decide) ?_
        refine A_sub (L' := [some (.ref 59), some (.int x1), some (.int x2), none, some (.int x4), none, some (.int x6)]) ⟨rfl, rfl, rfl, rfl, rfl, trivial⟩ ?_
        exact r_MO_laws_60  k25 _ _ _ _ _ _ _ H
set_option maxRecDepth 20000 in
theorem r_MO_laws_0 {G : GG} {d : Nat} {Q : Int32 → AH → Prop} (x1 : Int32) (x2 : Int32) (h : AH) (H : p_MO_laws Q x1 x2 h) : Att G T1 m_MO_laws (d + 9) 0 [some (.ref 59), some (.int x1), some (.int x2), none, none, none, none] [] h 0 0 (iQ Q) := by
  refine A_aload_n d_MO_laws_0 rfl ?_
  refine A_iload_n d_MO_laws_1 rfl ?_
  refine A_iload_n d_MO_laws_2 rfl ?_
  refine A_cI [.ref 59, .int x1, .int x2] [] (ct_MO_265 rfl) d_MO_laws_3 rfl rfl (by decide) (Nat.le_of_ble_eq_true rfl) (rcA_o (c := 12) rfl (vA_s (by decide)) rfl (by decide) rfl) (ok_MO_toldWrong (d := d + 6) H) (fun r2 h1 H => ?_)
  refine A_istore_n [some (.ref 59), some (.int x1), some (.int x2), some (.int r2), none, none, none] d_MO_laws_6 (by decide) rfl rfl ?_
  refine A_iload_n d_MO_laws_7 rfl ?_
  refine A_if_eq 13 d_MO_laws_8 (by decide) (fun z => ?_) (fun z => ?_)
  · have H := H.1 z
    refine A_aload_n d_MO_laws_13 rfl ?_
    refine A_get (v := .int (h1.1 59 12)) d_MO_laws_14 (fo_MO_110_12 rfl) (vA_s (by decide)) rfl (by first | rfl | (show Value.int _ = Value.int _; simp [wI, wL, wR, wC, up])) ?_
    refine A_istore [some (.ref 59), some (.int x1), some (.int x2), some (.int r2), some (.int (h1.1 59 12)), none, none] d_MO_laws_17 (by decide) rfl rfl ?_
    refine A_iconst 0 (by decide) d_MO_laws_19 ?_
    refine A_istore [some (.ref 59), some (.int x1), some (.int x2), some (.int r2), some (.int (h1.1 59 12)), some (.int 0), none] d_MO_laws_20 (by decide) rfl rfl ?_
    refine A_iconst 0 (by decide) d_MO_laws_22 ?_
    refine A_istore [some (.ref 59), some (.int x1), some (.int x2), some (.int r2), some (.int (h1.1 59 12)), some (.int 0), some (.int 0)] d_MO_laws_23 (by decide) rfl rfl ?_
    refine A_sub (L' := [some (.ref 59), some (.int x1), some (.int x2), none, some (.int (h1.1 59 12)), some (.int 0), some (.int 0)]) ⟨rfl, rfl, rfl, rfl, rfl, rfl, trivial⟩ ?_
    obtain ⟨n9, H⟩ := H
    exact r_MO_laws_25   n9 _ _ _ _ _ _ H
  · have H := H.2 z
    refine A_iload_n d_MO_laws_11 rfl ?_
    exact A_iret d_MO_laws_12 rfl rfl H
set_option maxRecDepth 20000 in
theorem ok_MO_laws {G : GG} {d : Nat} {Q : Int32 → AH → Prop} {x1 : Int32} {x2 : Int32} {h : AH} (H : p_MO_laws Q x1 x2 h) : WP G T1 m_MO_laws (d + 9) [.ref 59, .int x1, .int x2] h 0 0 (iQ Q) := by
  exact WP.enter 4 (by decide) rfl rfl (r_MO_laws_0 x1 x2 h H)
theorem d_MO_thief_0 : decode prog_14_method_69_code 0 = .ok (.aload_n 0, 1) := by decide +kernel
theorem d_MO_thief_1 : decode prog_14_method_69_code 1 = .ok (.iload_n 1, 1) := by decide +kernel
theorem d_MO_thief_2 : decode prog_14_method_69_code 2 = .ok (.invokevirtual 262, 3) := by decide +kernel
theorem d_MO_thief_5 : decode prog_14_method_69_code 5 = .ok (.istore 4, 2) := by decide +kernel
theorem d_MO_thief_7 : decode prog_14_method_69_code 7 = .ok (.iload 4, 2) := by decide +kernel
theorem d_MO_thief_9 : decode prog_14_method_69_code 9 = .ok (.ifCond .eq 6, 3) := by decide +kernel
theorem d_MO_thief_12 : decode prog_14_method_69_code 12 = .ok (.iload 4, 2) := by decide +kernel
theorem d_MO_thief_14 : decode prog_14_method_69_code 14 = .ok (.ireturn, 1) := by decide +kernel
theorem d_MO_thief_15 : decode prog_14_method_69_code 15 = .ok (.aload_n 0, 1) := by decide +kernel
theorem d_MO_thief_16 : decode prog_14_method_69_code 16 = .ok (.iload_n 3, 1) := by decide +kernel
theorem d_MO_thief_17 : decode prog_14_method_69_code 17 = .ok (.invokevirtual 182, 3) := by decide +kernel
theorem d_MO_thief_20 : decode prog_14_method_69_code 20 = .ok (.ifCond .ne 6, 3) := by decide +kernel
theorem d_MO_thief_23 : decode prog_14_method_69_code 23 = .ok (.bipush (-5), 2) := by decide +kernel
theorem d_MO_thief_25 : decode prog_14_method_69_code 25 = .ok (.ireturn, 1) := by decide +kernel
theorem d_MO_thief_26 : decode prog_14_method_69_code 26 = .ok (.iload_n 2, 1) := by decide +kernel
theorem d_MO_thief_27 : decode prog_14_method_69_code 27 = .ok (.invokestatic 185, 3) := by decide +kernel
theorem d_MO_thief_30 : decode prog_14_method_69_code 30 = .ok (.ifCond .ne 6, 3) := by decide +kernel
theorem d_MO_thief_33 : decode prog_14_method_69_code 33 = .ok (.bipush (-7), 2) := by decide +kernel
theorem d_MO_thief_35 : decode prog_14_method_69_code 35 = .ok (.ireturn, 1) := by decide +kernel
theorem d_MO_thief_36 : decode prog_14_method_69_code 36 = .ok (.aload_n 0, 1) := by decide +kernel
theorem d_MO_thief_37 : decode prog_14_method_69_code 37 = .ok (.getfield 22, 3) := by decide +kernel
theorem d_MO_thief_40 : decode prog_14_method_69_code 40 = .ok (.iload_n 3, 1) := by decide +kernel
theorem d_MO_thief_41 : decode prog_14_method_69_code 41 = .ok (.iaload, 1) := by decide +kernel
theorem d_MO_thief_42 : decode prog_14_method_69_code 42 = .ok (.istore 5, 2) := by decide +kernel
theorem d_MO_thief_44 : decode prog_14_method_69_code 44 = .ok (.iconst 0, 1) := by decide +kernel
theorem d_MO_thief_45 : decode prog_14_method_69_code 45 = .ok (.istore 6, 2) := by decide +kernel
theorem d_MO_thief_47 : decode prog_14_method_69_code 47 = .ok (.iconst 0, 1) := by decide +kernel
theorem d_MO_thief_48 : decode prog_14_method_69_code 48 = .ok (.istore 7, 2) := by decide +kernel
theorem d_MO_thief_50 : decode prog_14_method_69_code 50 = .ok (.iload 7, 2) := by decide +kernel
theorem d_MO_thief_52 : decode prog_14_method_69_code 52 = .ok (.bipush 20, 2) := by decide +kernel
theorem d_MO_thief_54 : decode prog_14_method_69_code 54 = .ok (.if_icmp .gt 43, 3) := by decide +kernel
theorem d_MO_thief_57 : decode prog_14_method_69_code 57 = .ok (.aload_n 0, 1) := by decide +kernel
theorem d_MO_thief_58 : decode prog_14_method_69_code 58 = .ok (.getfield 22, 3) := by decide +kernel
theorem d_MO_thief_61 : decode prog_14_method_69_code 61 = .ok (.iload_n 3, 1) := by decide +kernel
theorem d_MO_thief_62 : decode prog_14_method_69_code 62 = .ok (.iload 5, 2) := by decide +kernel
theorem d_MO_thief_64 : decode prog_14_method_69_code 64 = .ok (.iload 7, 2) := by decide +kernel
theorem d_MO_thief_66 : decode prog_14_method_69_code 66 = .ok (.iadd, 1) := by decide +kernel
theorem d_MO_thief_67 : decode prog_14_method_69_code 67 = .ok (.iastore, 1) := by decide +kernel
theorem d_MO_thief_68 : decode prog_14_method_69_code 68 = .ok (.iload 6, 2) := by decide +kernel
theorem d_MO_thief_70 : decode prog_14_method_69_code 70 = .ok (.aload_n 0, 1) := by decide +kernel
theorem d_MO_thief_71 : decode prog_14_method_69_code 71 = .ok (.iload_n 1, 1) := by decide +kernel
theorem d_MO_thief_72 : decode prog_14_method_69_code 72 = .ok (.iload_n 2, 1) := by decide +kernel
theorem d_MO_thief_73 : decode prog_14_method_69_code 73 = .ok (.invokevirtual 268, 3) := by decide +kernel
theorem d_MO_thief_76 : decode prog_14_method_69_code 76 = .ok (.iconst (-1), 1) := by decide +kernel
theorem d_MO_thief_77 : decode prog_14_method_69_code 77 = .ok (.if_icmp .ne 10, 3) := by decide +kernel
theorem d_MO_thief_80 : decode prog_14_method_69_code 80 = .ok (.iconst 1, 1) := by decide +kernel
theorem d_MO_thief_81 : decode prog_14_method_69_code 81 = .ok (.iload 7, 2) := by decide +kernel
theorem d_MO_thief_83 : decode prog_14_method_69_code 83 = .ok (.ishl, 1) := by decide +kernel
theorem d_MO_thief_84 : decode prog_14_method_69_code 84 = .ok (.goto 4, 3) := by decide +kernel
theorem d_MO_thief_87 : decode prog_14_method_69_code 87 = .ok (.iconst 0, 1) := by decide +kernel
theorem d_MO_thief_88 : decode prog_14_method_69_code 88 = .ok (.ior, 1) := by decide +kernel
theorem d_MO_thief_89 : decode prog_14_method_69_code 89 = .ok (.istore 6, 2) := by decide +kernel
theorem d_MO_thief_91 : decode prog_14_method_69_code 91 = .ok (.iinc 7 1, 3) := by decide +kernel
theorem d_MO_thief_94 : decode prog_14_method_69_code 94 = .ok (.goto (-44), 3) := by decide +kernel
theorem d_MO_thief_97 : decode prog_14_method_69_code 97 = .ok (.aload_n 0, 1) := by decide +kernel
theorem d_MO_thief_98 : decode prog_14_method_69_code 98 = .ok (.getfield 22, 3) := by decide +kernel
theorem d_MO_thief_101 : decode prog_14_method_69_code 101 = .ok (.iload_n 3, 1) := by decide +kernel
theorem d_MO_thief_102 : decode prog_14_method_69_code 102 = .ok (.iload 5, 2) := by decide +kernel
theorem d_MO_thief_104 : decode prog_14_method_69_code 104 = .ok (.iastore, 1) := by decide +kernel
theorem d_MO_thief_105 : decode prog_14_method_69_code 105 = .ok (.iload 6, 2) := by decide +kernel
theorem d_MO_thief_107 : decode prog_14_method_69_code 107 = .ok (.ireturn, 1) := by decide +kernel
def p_MO_thief_88 (Q : Int32 → AH → Prop) (K50 : Int32 → Int32 → Int32 → Int32 → Int32 → Int32 → AH → Prop) (x1 : Int32) (x2 : Int32) (x3 : Int32) (x5 : Int32) (x7 : Int32) (s0 : Int32) (s1 : Int32) (h : AH) : Prop := K50 x1 x2 x3 x5 (s0 ||| s1) (x7 + 1) h
def p_MO_thief_50 (Q : Int32 → AH → Prop) : Nat → Int32 → Int32 → Int32 → Int32 → Int32 → Int32 → AH → Prop
  | 0 => fun _ _ _ _ _ _ _ => False
  | n + 1 => fun x1 x2 x3 x5 x6 x7 h => let K50 := p_MO_thief_50 Q n; ((20 < x7 → inb x3 7 ∧ Q x6 (wI h 64 x3 x5)) ∧ (¬ 20 < x7 → inb x3 7 ∧ p_MO_unlike (fun r4 h3 => ((¬ r4 = (-1) → p_MO_thief_88 Q  K50 x1 x2 x3 x5 x7 x6 0 h3) ∧ (r4 = (-1) → p_MO_thief_88 Q  K50 x1 x2 x3 x5 x7 x6 (1 <<< (x7 &&& 31)) h3))) x1 x2 (wI h 64 x3 (x5 + x7))))
def p_MO_thief (Q : Int32 → AH → Prop) (x1 : Int32) (x2 : Int32) (x3 : Int32) (h : AH) : Prop := p_MO_sheetWrong (fun r2 h1 => ((r2 = 0 → p_MO_isHouse (fun r4 h3 => ((¬ r4 = 0 → p_MO_isMany (fun r6 h5 => ((¬ r6 = 0 → inb x3 7 ∧ ∃ n, p_MO_thief_50 Q   n x1 x2 x3 (h5.1 64 x3) 0 0 h5) ∧ (r6 = 0 → Q (-7) h5))) x2 h3) ∧ (r4 = 0 → Q (-5) h3))) x3 h1) ∧ (¬ r2 = 0 → Q r2 h1))) x1 h
set_option maxRecDepth 20000 in
theorem r_MO_thief_88 {G : GG} {d : Nat} {Q : Int32 → AH → Prop} {K50 : Int32 → Int32 → Int32 → Int32 → Int32 → Int32 → AH → Prop} (k50 : ∀ x1 x2 x3 x5 x6 x7 h, K50 x1 x2 x3 x5 x6 x7 h → Att G T1 m_MO_thief (d + 9) 50 [some (.ref 59), some (.int x1), some (.int x2), some (.int x3), none, some (.int x5), some (.int x6), some (.int x7)] [] h 0 0 (iQ Q)) (x1 : Int32) (x2 : Int32) (x3 : Int32) (x5 : Int32) (x7 : Int32) (s0 : Int32) (s1 : Int32) (h : AH) (H : p_MO_thief_88 Q K50 x1 x2 x3 x5 x7 s0 s1 h) : Att G T1 m_MO_thief (d + 9) 88 [some (.ref 59), some (.int x1), some (.int x2), some (.int x3), none, some (.int x5), none, some (.int x7)] [.int s1, .int s0] h 0 0 (iQ Q) := by
  refine A_ior d_MO_thief_88 ?_
  refine A_istore [some (.ref 59), some (.int x1), some (.int x2), some (.int x3), none, some (.int x5), some (.int (s0 ||| s1)), some (.int x7)] d_MO_thief_89 (by decide) rfl rfl ?_
  refine A_iinc 1 [some (.ref 59), some (.int x1), some (.int x2), some (.int x3), none, some (.int x5), some (.int (s0 ||| s1)), some (.int (x7 + 1))] d_MO_thief_91 rfl (by decide) (by decide) rfl rfl ?_
  refine A_goto 50 d_MO_thief_94 (by decide) ?_
  exact k50 _ _ _ _ _ _ _ H
set_option maxRecDepth 20000 in
theorem r_MO_thief_50 {G : GG} {d : Nat} {Q : Int32 → AH → Prop} : ∀ (n : Nat) (x1 : Int32) (x2 : Int32) (x3 : Int32) (x5 : Int32) (x6 : Int32) (x7 : Int32) (h : AH), p_MO_thief_50 Q n x1 x2 x3 x5 x6 x7 h → Att G T1 m_MO_thief (d + 9) 50 [some (.ref 59), some (.int x1), some (.int x2), some (.int x3), none, some (.int x5), some (.int x6), some (.int x7)] [] h 0 0 (iQ Q) := by
  intro n
  induction n with
  | zero => intro x1 x2 x3 x5 x6 x7 h H; exact H.elim
  | succ n k50 =>
    intro x1 x2 x3 x5 x6 x7 h H
    refine A_iload d_MO_thief_50 rfl ?_
    refine A_bipush 20 (by decide) d_MO_thief_52 ?_
    refine A_icmp_gt 97 d_MO_thief_54 (by decide) (fun z => ?_) (fun z => ?_)
    · have H := H.1 z
      refine A_aload_n d_MO_thief_97 rfl ?_
      refine A_get (v := .ref 64) d_MO_thief_98 (fo_MO_22_12 rfl) (vA_s (by decide)) rfl (by first | rfl | (show Value.int _ = Value.int _; simp [wI, wL, wR, wC, up])) ?_
      refine A_iload_n d_MO_thief_101 rfl ?_
      refine A_iload d_MO_thief_102 rfl ?_
      obtain ⟨c1, H⟩ := H
      refine A_iast (n := 7) d_MO_thief_104 (vA_s (by decide)) rfl c1 ?_
      refine A_iload d_MO_thief_105 rfl ?_
      exact A_iret d_MO_thief_107 rfl rfl H
    · have H := H.2 z
      refine A_aload_n d_MO_thief_57 rfl ?_
      refine A_get (v := .ref 64) d_MO_thief_58 (fo_MO_22_12 rfl) (vA_s (by decide)) rfl (by first | rfl | (show Value.int _ = Value.int _; simp [wI, wL, wR, wC, up])) ?_
      refine A_iload_n d_MO_thief_61 rfl ?_
      refine A_iload d_MO_thief_62 rfl ?_
      refine A_iload d_MO_thief_64 rfl ?_
      refine A_iadd d_MO_thief_66 ?_
      obtain ⟨c2, H⟩ := H
      refine A_iast (n := 7) d_MO_thief_67 (vA_s (by decide)) rfl c2 ?_
      refine A_iload d_MO_thief_68 rfl ?_
      refine A_aload_n d_MO_thief_70 rfl ?_
      refine A_iload_n d_MO_thief_71 rfl ?_
      refine A_iload_n d_MO_thief_72 rfl ?_
      refine A_cI [.ref 59, .int x1, .int x2] [.int x6] (ct_MO_268 rfl) d_MO_thief_73 rfl rfl (by decide) (Nat.le_of_ble_eq_true rfl) (rcA_o (c := 12) rfl (vA_s (by decide)) rfl (by decide) rfl) (ok_MO_unlike (d := d) H) (fun r4 h3 H => ?_)
      refine A_iconst (-1) (by decide) d_MO_thief_76 ?_
      refine A_icmp_ne 87 d_MO_thief_77 (by decide) (fun z => ?_) (fun z => ?_)
      · have H := H.1 z
        refine A_iconst 0 (by decide) d_MO_thief_87 ?_
        refine A_sub (L' := [some (.ref 59), some (.int x1), some (.int x2), some (.int x3), none, some (.int x5), none, some (.int x7)]) ⟨rfl, rfl, rfl, rfl, rfl, rfl, trivial⟩ ?_
        exact r_MO_thief_88  k50 _ _ _ _ _ _ _ _ H
      · have H := H.2 z
        refine A_iconst 1 (by decide) d_MO_thief_80 ?_
        refine A_iload d_MO_thief_81 rfl ?_
        refine A_ishl d_MO_thief_83 ?_
        refine A_goto 88 d_MO_thief_84 (by decide) ?_
        refine A_sub (L' := [some (.ref 59), some (.int x1), some (.int x2), some (.int x3), none, some (.int x5), none, some (.int x7)]) ⟨rfl, rfl, rfl, rfl, rfl, rfl, trivial⟩ ?_
        exact r_MO_thief_88  k50 _ _ _ _ _ _ _ _ H
set_option maxRecDepth 20000 in
theorem r_MO_thief_0 {G : GG} {d : Nat} {Q : Int32 → AH → Prop} (x1 : Int32) (x2 : Int32) (x3 : Int32) (h : AH) (H : p_MO_thief Q x1 x2 x3 h) : Att G T1 m_MO_thief (d + 9) 0 [some (.ref 59), some (.int x1), some (.int x2), some (.int x3), none, none, none, none] [] h 0 0 (iQ Q) := by
  refine A_aload_n d_MO_thief_0 rfl ?_
  refine A_iload_n d_MO_thief_1 rfl ?_
  refine A_cI [.ref 59, .int x1] [] (ct_MO_262 rfl) d_MO_thief_2 rfl rfl (by decide) (Nat.le_of_ble_eq_true rfl) (rcA_o (c := 12) rfl (vA_s (by decide)) rfl (by decide) rfl) (ok_MO_sheetWrong (d := d + 7) H) (fun r2 h1 H => ?_)
  refine A_istore [some (.ref 59), some (.int x1), some (.int x2), some (.int x3), some (.int r2), none, none, none] d_MO_thief_5 (by decide) rfl rfl ?_
  refine A_iload d_MO_thief_7 rfl ?_
  refine A_if_eq 15 d_MO_thief_9 (by decide) (fun z => ?_) (fun z => ?_)
  · have H := H.1 z
    refine A_aload_n d_MO_thief_15 rfl ?_
    refine A_iload_n d_MO_thief_16 rfl ?_
    refine A_cI [.ref 59, .int x3] [] (ct_MO_182 rfl) d_MO_thief_17 rfl rfl (by decide) (Nat.le_of_ble_eq_true rfl) (rcA_o (c := 12) rfl (vA_s (by decide)) rfl (by decide) rfl) (ok_MO_isHouse (d := d + 7) H) (fun r4 h3 H => ?_)
    refine A_if_ne 26 d_MO_thief_20 (by decide) (fun z => ?_) (fun z => ?_)
    · have H := H.1 z
      refine A_iload_n d_MO_thief_26 rfl ?_
      refine A_cI [.int x2] [] (ct_MO_185 rfl) d_MO_thief_27 rfl rfl (by decide) (Nat.le_of_ble_eq_true rfl) trivial (ok_MO_isMany (d := d + 7) H) (fun r6 h5 H => ?_)
      refine A_if_ne 36 d_MO_thief_30 (by decide) (fun z => ?_) (fun z => ?_)
      · have H := H.1 z
        refine A_aload_n d_MO_thief_36 rfl ?_
        refine A_get (v := .ref 64) d_MO_thief_37 (fo_MO_22_12 rfl) (vA_s (by decide)) rfl (by first | rfl | (show Value.int _ = Value.int _; simp [wI, wL, wR, wC, up])) ?_
        refine A_iload_n d_MO_thief_40 rfl ?_
        obtain ⟨c7, H⟩ := H
        refine A_ialdv (n := 7) (v := (h5.1 64 x3)) d_MO_thief_41 (vA_s (by decide)) rfl c7 rfl ?_
        refine A_istore [some (.ref 59), some (.int x1), some (.int x2), some (.int x3), some (.int r2), some (.int (h5.1 64 x3)), none, none] d_MO_thief_42 (by decide) rfl rfl ?_
        refine A_iconst 0 (by decide) d_MO_thief_44 ?_
        refine A_istore [some (.ref 59), some (.int x1), some (.int x2), some (.int x3), some (.int r2), some (.int (h5.1 64 x3)), some (.int 0), none] d_MO_thief_45 (by decide) rfl rfl ?_
        refine A_iconst 0 (by decide) d_MO_thief_47 ?_
        refine A_istore [some (.ref 59), some (.int x1), some (.int x2), some (.int x3), some (.int r2), some (.int (h5.1 64 x3)), some (.int 0), some (.int 0)] d_MO_thief_48 (by decide) rfl rfl ?_
        refine A_sub (L' := [some (.ref 59), some (.int x1), some (.int x2), some (.int x3), none, some (.int (h5.1 64 x3)), some (.int 0), some (.int 0)]) ⟨rfl, rfl, rfl, rfl, rfl, rfl, rfl, trivial⟩ ?_
        obtain ⟨n9, H⟩ := H
        exact r_MO_thief_50   n9 _ _ _ _ _ _ _ H
      · have H := H.2 z
        refine A_bipush (-7) (by decide) d_MO_thief_33 ?_
        exact A_iret d_MO_thief_35 rfl rfl H
    · have H := H.2 z
      refine A_bipush (-5) (by decide) d_MO_thief_23 ?_
      exact A_iret d_MO_thief_25 rfl rfl H
  · have H := H.2 z
    refine A_iload d_MO_thief_12 rfl ?_
    exact A_iret d_MO_thief_14 rfl rfl H
set_option maxRecDepth 20000 in
theorem ok_MO_thief {G : GG} {d : Nat} {Q : Int32 → AH → Prop} {x1 : Int32} {x2 : Int32} {x3 : Int32} {h : AH} (H : p_MO_thief Q x1 x2 x3 h) : WP G T1 m_MO_thief (d + 9) [.ref 59, .int x1, .int x2, .int x3] h 0 0 (iQ Q) := by
  exact WP.enter 4 (by decide) rfl rfl (r_MO_thief_0 x1 x2 x3 h H)
