theorem d_MO_thief_0 : decode prog_14_method_69_code 0 = .ok (.aload_n 0, 1) := by decide +kernel
theorem d_MO_thief_1 : decode prog_14_method_69_code 1 = .ok (.iload_n 1, 1) := by decide +kernel
theorem d_MO_thief_2 : decode prog_14_method_69_code 2 = .ok (.invokevirtual 262, 3) := by decide +kernel
theorem d_MO_thief_5 : decode prog_14_method_69_code 5 = .ok (.istore 4, 2) := by decide +kernel
theorem d_MO_thief_7 : decode prog_14_method_69_code 7 = .ok (.iload 4, 2) := by decide +kernel
theorem d_MO_thief_9 : decode prog_14_method_69_code 9 = .ok (.ifCond .eq 6, 3) := by decide +kernel
theorem d_MO_thief_12 : decode prog_14_method_69_code 12 = .ok (.iload 4, 2) := by decide +kernel
theorem d_MO_thief_14 : decode prog_14_method_69_code 14 = .ok (.ireturn, 1) := by decide +kernel
theorem d_MO_thief_15 : decode prog_14_method_69_code 15 = .ok (.aload_n 0, 1) := by decide +kernel
theorem d_MO_thief_16 : decode prog_14_method_69_code 16 = .ok (.iload_n 3, 1) := by decide +kernel
theorem d_MO_thief_17 : decode prog_14_method_69_code 17 = .ok (.invokevirtual 182, 3) := by decide +kernel
theorem d_MO_thief_20 : decode prog_14_method_69_code 20 = .ok (.ifCond .ne 6, 3) := by decide +kernel
theorem d_MO_thief_23 : decode prog_14_method_69_code 23 = .ok (.bipush (-5), 2) := by decide +kernel
theorem d_MO_thief_25 : decode prog_14_method_69_code 25 = .ok (.ireturn, 1) := by decide +kernel
theorem d_MO_thief_26 : decode prog_14_method_69_code 26 = .ok (.iload_n 2, 1) := by decide +kernel
theorem d_MO_thief_27 : decode prog_14_method_69_code 27 = .ok (.invokestatic 185, 3) := by decide +kernel
theorem d_MO_thief_30 : decode prog_14_method_69_code 30 = .ok (.ifCond .ne 6, 3) := by decide +kernel
theorem d_MO_thief_33 : decode prog_14_method_69_code 33 = .ok (.bipush (-7), 2) := by decide +kernel
theorem d_MO_thief_35 : decode prog_14_method_69_code 35 = .ok (.ireturn, 1) := by decide +kernel
theorem d_MO_thief_36 : decode prog_14_method_69_code 36 = .ok (.aload_n 0, 1) := by decide +kernel
theorem d_MO_thief_37 : decode prog_14_method_69_code 37 = .ok (.getfield 22, 3) := by decide +kernel
theorem d_MO_thief_40 : decode prog_14_method_69_code 40 = .ok (.iload_n 3, 1) := by decide +kernel
theorem d_MO_thief_41 : decode prog_14_method_69_code 41 = .ok (.iaload, 1) := by decide +kernel
theorem d_MO_thief_42 : decode prog_14_method_69_code 42 = .ok (.istore 5, 2) := by decide +kernel
theorem d_MO_thief_44 : decode prog_14_method_69_code 44 = .ok (.iconst 0, 1) := by decide +kernel
theorem d_MO_thief_45 : decode prog_14_method_69_code 45 = .ok (.istore 6, 2) := by decide +kernel
theorem d_MO_thief_47 : decode prog_14_method_69_code 47 = .ok (.iconst 0, 1) := by decide +kernel
theorem d_MO_thief_48 : decode prog_14_method_69_code 48 = .ok (.istore 7, 2) := by decide +kernel
theorem d_MO_thief_50 : decode prog_14_method_69_code 50 = .ok (.iload 7, 2) := by decide +kernel
theorem d_MO_thief_52 : decode prog_14_method_69_code 52 = .ok (.bipush 20, 2) := by decide +kernel
theorem d_MO_thief_54 : decode prog_14_method_69_code 54 = .ok (.if_icmp .gt 43, 3) := by decide +kernel
theorem d_MO_thief_57 : decode prog_14_method_69_code 57 = .ok (.aload_n 0, 1) := by decide +kernel
theorem d_MO_thief_58 : decode prog_14_method_69_code 58 = .ok (.getfield 22, 3) := by decide +kernel
theorem d_MO_thief_61 : decode prog_14_method_69_code 61 = .ok (.iload_n 3, 1) := by decide +kernel
theorem d_MO_thief_62 : decode prog_14_method_69_code 62 = .ok (.iload 5, 2) := by decide +kernel
theorem d_MO_thief_64 : decode prog_14_method_69_code 64 = .ok (.iload 7, 2) := by decide +kernel
theorem d_MO_thief_66 : decode prog_14_method_69_code 66 = .ok (.iadd, 1) := by decide +kernel
theorem d_MO_thief_67 : decode prog_14_method_69_code 67 = .ok (.iastore, 1) := by decide +kernel
theorem d_MO_thief_68 : decode prog_14_method_69_code 68 = .ok (.iload 6, 2) := by decide +kernel
theorem d_MO_thief_70 : decode prog_14_method_69_code 70 = .ok (.aload_n 0, 1) := by decide +kernel
theorem d_MO_thief_71 : decode prog_14_method_69_code 71 = .ok (.iload_n 1, 1) := by decide +kernel
theorem d_MO_thief_72 : decode prog_14_method_69_code 72 = .ok (.iload_n 2, 1) := by decide +kernel
theorem d_MO_thief_73 : decode prog_14_method_69_code 73 = .ok (.invokevirtual 268, 3) := by decide +kernel
theorem d_MO_thief_76 : decode prog_14_method_69_code 76 = .ok (.iconst (-1), 1) := by decide +kernel
theorem d_MO_thief_77 : decode prog_14_method_69_code 77 = .ok (.if_icmp .ne 10, 3) := by decide +kernel
theorem d_MO_thief_80 : decode prog_14_method_69_code 80 = .ok (.iconst 1, 1) := by decide +kernel
theorem d_MO_thief_81 : decode prog_14_method_69_code 81 = .ok (.iload 7, 2) := by decide +kernel
theorem d_MO_thief_83 : decode prog_14_method_69_code 83 = .ok (.ishl, 1) := by decide +kernel
theorem d_MO_thief_84 : decode prog_14_method_69_code 84 = .ok (.goto 4, 3) := by decide +kernel
theorem d_MO_thief_87 : decode prog_14_method_69_code 87 = .ok (.iconst 0, 1) := by decide +kernel
theorem d_MO_thief_88 : decode prog_14_method_69_code 88 = .ok (.ior, 1) := by decide +kernel
theorem d_MO_thief_89 : decode prog_14_method_69_code 89 = .ok (.istore 6, 2) := by decide +kernel
theorem d_MO_thief_91 : decode prog_14_method_69_code 91 = .ok (.iinc 7 1, 3) := by decide +kernel
theorem d_MO_thief_94 : decode prog_14_method_69_code 94 = .ok (.goto (-44), 3) := by decide +kernel
theorem d_MO_thief_97 : decode prog_14_method_69_code 97 = .ok (.aload_n 0, 1) := by decide +kernel
theorem d_MO_thief_98 : decode prog_14_method_69_code 98 = .ok (.getfield 22, 3) := by decide +kernel
theorem d_MO_thief_101 : decode prog_14_method_69_code 101 = .ok (.iload_n 3, 1) := by decide +kernel
theorem d_MO_thief_102 : decode prog_14_method_69_code 102 = .ok (.iload 5, 2) := by decide +kernel
theorem d_MO_thief_104 : decode prog_14_method_69_code 104 = .ok (.iastore, 1) := by decide +kernel
theorem d_MO_thief_105 : decode prog_14_method_69_code 105 = .ok (.iload 6, 2) := by decide +kernel
theorem d_MO_thief_107 : decode prog_14_method_69_code 107 = .ok (.ireturn, 1) := by decide +kernel
def p_MO_thief_88 (Q : Int32 → AH → Prop) (K50 : Int32 → Int32 → Int32 → Int32 → Int32 → Int32 → AH → Prop) (x1 : Int32) (x2 : Int32) (x3 : Int32) (x5 : Int32) (x7 : Int32) (s0 : Int32) (s1 : Int32) (h : AH) : Prop := K50 x1 x2 x3 x5 (s0 ||| s1) (x7 + 1) h
def p_MO_thief_50 (Q : Int32 → AH → Prop) : Nat → Int32 → Int32 → Int32 → Int32 → Int32 → Int32 → AH → Prop
  | 0 => fun _ _ _ _ _ _ _ => False
  | n + 1 => fun x1 x2 x3 x5 x6 x7 h => let K50 := p_MO_thief_50 Q n; ((20 < x7 → inb x3 7 ∧ Q x6 (wI h 64 x3 x5)) ∧ (¬ 20 < x7 → inb x3 7 ∧ p_MO_unlike (fun r4 h3 => ((¬ r4 = (-1) → p_MO_thief_88 Q  K50 x1 x2 x3 x5 x7 x6 0 h3) ∧ (r4 = (-1) → p_MO_thief_88 Q  K50 x1 x2 x3 x5 x7 x6 (1 <<< (x7 &&& 31)) h3))) x1 x2 (wI h 64 x3 (x5 + x7))))
def p_MO_thief (Q : Int32 → AH → Prop) (x1 : Int32) (x2 : Int32) (x3 : Int32) (h : AH) : Prop := p_MO_sheetWrong (fun r2 h1 => ((r2 = 0 → p_MO_isHouse (fun r4 h3 => ((¬ r4 = 0 → p_MO_isMany (fun r6 h5 => ((¬ r6 = 0 → inb x3 7 ∧ ∃ n, p_MO_thief_50 Q   n x1 x2 x3 (h5.1 64 x3) 0 0 h5) ∧ (r6 = 0 → Q (-7) h5))) x2 h3) ∧ (r4 = 0 → Q (-5) h3))) x3 h1) ∧ (¬ r2 = 0 → Q r2 h1))) x1 h
set_option maxRecDepth 20000 in
theorem r_MO_thief_88 {G : GG} {d : Nat} {Q : Int32 → AH → Prop} {K50 : Int32 → Int32 → Int32 → Int32 → Int32 → Int32 → AH → Prop} (k50 : ∀ x1 x2 x3 x5 x6 x7 h, K50 x1 x2 x3 x5 x6 x7 h → Att G T1 m_MO_thief (d + 9) 50 [some (.ref 59), some (.int x1), some (.int x2), some (.int x3), none, some (.int x5), some (.int x6), some (.int x7)] [] h 0 0 (iQ Q)) (x1 : Int32) (x2 : Int32) (x3 : Int32) (x5 : Int32) (x7 : Int32) (s0 : Int32) (s1 : Int32) (h : AH) (H : p_MO_thief_88 Q K50 x1 x2 x3 x5 x7 s0 s1 h) : Att G T1 m_MO_thief (d + 9) 88 [some (.ref 59), some (.int x1), some (.int x2), some (.int x3), none, some (.int x5), none, some (.int x7)] [.int s1, .int s0] h 0 0 (iQ Q) := by
  refine A_ior d_MO_thief_88 ?_
  refine A_istore [some (.ref 59), some (.int x1), some (.int x2), some (.int x3), none, some (.int x5), some (.int (s0 ||| s1)), some (.int x7)] d_MO_thief_89 (by decide) rfl rfl ?_
  refine A_iinc 1 [some (.ref 59), some (.int x1), some (.int x2), some (.int x3), none, some (.int x5), some (.int (s0 ||| s1)), some (.int (x7 + 1))] d_MO_thief_91 rfl (by decide) (by decide) rfl rfl ?_
  refine A_goto 50 d_MO_thief_94 (by decide) ?_
  exact k50 _ _ _ _ _ _ _ H
set_option maxRecDepth 20000 in
theorem r_MO_thief_50 {G : GG} {d : Nat} {Q : Int32 → AH → Prop} : ∀ (n : Nat) (x1 : Int32) (x2 : Int32) (x3 : Int32) (x5 : Int32) (x6 : Int32) (x7 : Int32) (h : AH), p_MO_thief_50 Q n x1 x2 x3 x5 x6 x7 h → Att G T1 m_MO_thief (d + 9) 50 [some (.ref 59), some (.int x1), some (.int x2), some (.int x3), none, some (.int x5), some (.int x6), some (.int x7)] [] h 0 0 (iQ Q) := by
  intro n
  induction n with
  | zero => intro x1 x2 x3 x5 x6 x7 h H; exact H.elim
  | succ n k50 =>
    intro x1 x2 x3 x5 x6 x7 h H
    refine A_iload d_MO_thief_50 rfl ?_
    refine A_bipush 20 (by decide) d_MO_thief_52 ?_
    refine A_icmp_gt 97 d_MO_thief_54 (by decide) (fun z => ?_) (fun z => ?_)
    · have H := H.1 z
      refine A_aload_n d_MO_thief_97 rfl ?_
      refine A_get (v := .ref 64) d_MO_thief_98 (fo_MO_22_12 rfl) (vA_s (by decide)) rfl rfl ?_
      refine A_iload_n d_MO_thief_101 rfl ?_
      refine A_iload d_MO_thief_102 rfl ?_
      obtain ⟨c1, H⟩ := H
      refine A_iast (n := 7) d_MO_thief_104 (vA_s (by decide)) rfl c1 ?_
      refine A_iload d_MO_thief_105 rfl ?_
      exact A_iret d_MO_thief_107 rfl rfl H
    · have H := H.2 z
      refine A_aload_n d_MO_thief_57 rfl ?_
      refine A_get (v := .ref 64) d_MO_thief_58 (fo_MO_22_12 rfl) (vA_s (by decide)) rfl rfl ?_
      refine A_iload_n d_MO_thief_61 rfl ?_
      refine A_iload d_MO_thief_62 rfl ?_
      refine A_iload d_MO_thief_64 rfl ?_
      refine A_iadd d_MO_thief_66 ?_
      obtain ⟨c2, H⟩ := H
      refine A_iast (n := 7) d_MO_thief_67 (vA_s (by decide)) rfl c2 ?_
      refine A_iload d_MO_thief_68 rfl ?_
      refine A_aload_n d_MO_thief_70 rfl ?_
      refine A_iload_n d_MO_thief_71 rfl ?_
      refine A_iload_n d_MO_thief_72 rfl ?_
      refine A_cI [.ref 59, .int x1, .int x2] [.int x6] (ct_MO_268 rfl) d_MO_thief_73 rfl rfl (by decide) (Nat.le_of_ble_eq_true rfl) (rcA_o (c := 12) rfl (vA_s (by decide)) rfl (by decide) rfl) (ok_MO_unlike (d := d) H) (fun r4 h3 H => ?_)
      refine A_iconst (-1) (by decide) d_MO_thief_76 ?_
      refine A_icmp_ne 87 d_MO_thief_77 (by decide) (fun z => ?_) (fun z => ?_)
      · have H := H.1 z
        refine A_iconst 0 (by decide) d_MO_thief_87 ?_
        refine A_sub (L' := [some (.ref 59), some (.int x1), some (.int x2), some (.int x3), none, some (.int x5), none, some (.int x7)]) ⟨rfl, rfl, rfl, rfl, rfl, rfl, trivial⟩ ?_
        exact r_MO_thief_88  k50 _ _ _ _ _ _ _ _ H
      · have H := H.2 z
        refine A_iconst 1 (by decide) d_MO_thief_80 ?_
        refine A_iload d_MO_thief_81 rfl ?_
        refine A_ishl d_MO_thief_83 ?_
        refine A_goto 88 d_MO_thief_84 (by decide) ?_
        refine A_sub (L' := [some (.ref 59), some (.int x1), some (.int x2), some (.int x3), none, some (.int x5), none, some (.int x7)]) ⟨rfl, rfl, rfl, rfl, rfl, rfl, trivial⟩ ?_
        exact r_MO_thief_88  k50 _ _ _ _ _ _ _ _ H
set_option maxRecDepth 20000 in
theorem r_MO_thief_0 {G : GG} {d : Nat} {Q : Int32 → AH → Prop} (x1 : Int32) (x2 : Int32) (x3 : Int32) (h : AH) (H : p_MO_thief Q x1 x2 x3 h) : Att G T1 m_MO_thief (d + 9) 0 [some (.ref 59), some (.int x1), some (.int x2), some (.int x3), none, none, none, none] [] h 0 0 (iQ Q) := by
  refine A_aload_n d_MO_thief_0 rfl ?_
  refine A_iload_n d_MO_thief_1 rfl ?_
  refine A_cI [.ref 59, .int x1] [] (ct_MO_262 rfl) d_MO_thief_2 rfl rfl (by decide) (Nat.le_of_ble_eq_true rfl) (rcA_o (c := 12) rfl (vA_s (by decide)) rfl (by decide) rfl) (ok_MO_sheetWrong (d := d + 7) H) (fun r2 h1 H => ?_)
  refine A_istore [some (.ref 59), some (.int x1), some (.int x2), some (.int x3), some (.int r2), none, none, none] d_MO_thief_5 (by decide) rfl rfl ?_
  refine A_iload d_MO_thief_7 rfl ?_
  refine A_if_eq 15 d_MO_thief_9 (by decide) (fun z => ?_) (fun z => ?_)
  · have H := H.1 z
    refine A_aload_n d_MO_thief_15 rfl ?_
    refine A_iload_n d_MO_thief_16 rfl ?_
    refine A_cI [.ref 59, .int x3] [] (ct_MO_182 rfl) d_MO_thief_17 rfl rfl (by decide) (Nat.le_of_ble_eq_true rfl) (rcA_o (c := 12) rfl (vA_s (by decide)) rfl (by decide) rfl) (ok_MO_isHouse (d := d + 7) H) (fun r4 h3 H => ?_)
    refine A_if_ne 26 d_MO_thief_20 (by decide) (fun z => ?_) (fun z => ?_)
    · have H := H.1 z
      refine A_iload_n d_MO_thief_26 rfl ?_
      refine A_cI [.int x2] [] (ct_MO_185 rfl) d_MO_thief_27 rfl rfl (by decide) (Nat.le_of_ble_eq_true rfl) trivial (ok_MO_isMany (d := d + 7) H) (fun r6 h5 H => ?_)
      refine A_if_ne 36 d_MO_thief_30 (by decide) (fun z => ?_) (fun z => ?_)
      · have H := H.1 z
        refine A_aload_n d_MO_thief_36 rfl ?_
        refine A_get (v := .ref 64) d_MO_thief_37 (fo_MO_22_12 rfl) (vA_s (by decide)) rfl rfl ?_
        refine A_iload_n d_MO_thief_40 rfl ?_
        obtain ⟨c7, H⟩ := H
        refine A_iald (n := 7) d_MO_thief_41 (vA_s (by decide)) rfl c7 ?_
        refine A_istore [some (.ref 59), some (.int x1), some (.int x2), some (.int x3), some (.int r2), some (.int (h5.1 64 x3)), none, none] d_MO_thief_42 (by decide) rfl rfl ?_
        refine A_iconst 0 (by decide) d_MO_thief_44 ?_
        refine A_istore [some (.ref 59), some (.int x1), some (.int x2), some (.int x3), some (.int r2), some (.int (h5.1 64 x3)), some (.int 0), none] d_MO_thief_45 (by decide) rfl rfl ?_
        refine A_iconst 0 (by decide) d_MO_thief_47 ?_
        refine A_istore [some (.ref 59), some (.int x1), some (.int x2), some (.int x3), some (.int r2), some (.int (h5.1 64 x3)), some (.int 0), some (.int 0)] d_MO_thief_48 (by decide) rfl rfl ?_
        refine A_sub (L' := [some (.ref 59), some (.int x1), some (.int x2), some (.int x3), none, some (.int (h5.1 64 x3)), some (.int 0), some (.int 0)]) ⟨rfl, rfl, rfl, rfl, rfl, rfl, rfl, trivial⟩ ?_
        obtain ⟨n9, H⟩ := H
        exact r_MO_thief_50   n9 _ _ _ _ _ _ _ H
      · have H := H.2 z
        refine A_bipush (-7) (by decide) d_MO_thief_33 ?_
        exact A_iret d_MO_thief_35 rfl rfl H
    · have H := H.2 z
      refine A_bipush (-5) (by decide) d_MO_thief_23 ?_
      exact A_iret d_MO_thief_25 rfl rfl H
  · have H := H.2 z
    refine A_iload d_MO_thief_12 rfl ?_
    exact A_iret d_MO_thief_14 rfl rfl H
set_option maxRecDepth 20000 in
theorem ok_MO_thief {G : GG} {d : Nat} {Q : Int32 → AH → Prop} {x1 : Int32} {x2 : Int32} {x3 : Int32} {h : AH} (H : p_MO_thief Q x1 x2 x3 h) : WP G T1 m_MO_thief (d + 9) [.ref 59, .int x1, .int x2, .int x3] h 0 0 (iQ Q) := by
  exact WP.enter 4 (by decide) rfl rfl (r_MO_thief_0 x1 x2 x3 h H)
theorem d_UF_text_0 : decode prog_1_method_4_code 0 = .ok (.aload_n 0, 1) := by decide +kernel
theorem d_UF_text_1 : decode prog_1_method_4_code 1 = .ok (.getfield 76, 3) := by decide +kernel
theorem d_UF_text_4 : decode prog_1_method_4_code 4 = .ok (.bipush 6, 2) := by decide +kernel
theorem d_UF_text_6 : decode prog_1_method_4_code 6 = .ok (.if_icmp .lt 6, 3) := by decide +kernel
theorem d_UF_text_9 : decode prog_1_method_4_code 9 = .ok (.bipush (-4), 2) := by decide +kernel
theorem d_UF_text_11 : decode prog_1_method_4_code 11 = .ok (.ireturn, 1) := by decide +kernel
theorem d_UF_text_12 : decode prog_1_method_4_code 12 = .ok (.aload_n 0, 1) := by decide +kernel
theorem d_UF_text_13 : decode prog_1_method_4_code 13 = .ok (.getfield 51, 3) := by decide +kernel
theorem d_UF_text_16 : decode prog_1_method_4_code 16 = .ok (.aload_n 0, 1) := by decide +kernel
theorem d_UF_text_17 : decode prog_1_method_4_code 17 = .ok (.getfield 27, 3) := by decide +kernel
theorem d_UF_text_20 : decode prog_1_method_4_code 20 = .ok (.aload_n 0, 1) := by decide +kernel
theorem d_UF_text_21 : decode prog_1_method_4_code 21 = .ok (.getfield 92, 3) := by decide +kernel
theorem d_UF_text_24 : decode prog_1_method_4_code 24 = .ok (.aload_n 0, 1) := by decide +kernel
theorem d_UF_text_25 : decode prog_1_method_4_code 25 = .ok (.getfield 17, 3) := by decide +kernel
theorem d_UF_text_28 : decode prog_1_method_4_code 28 = .ok (.aload_n 0, 1) := by decide +kernel
theorem d_UF_text_29 : decode prog_1_method_4_code 29 = .ok (.getfield 76, 3) := by decide +kernel
theorem d_UF_text_32 : decode prog_1_method_4_code 32 = .ok (.aaload, 1) := by decide +kernel
theorem d_UF_text_33 : decode prog_1_method_4_code 33 = .ok (.invokevirtual 72, 3) := by decide +kernel
theorem d_UF_text_36 : decode prog_1_method_4_code 36 = .ok (.istore_n 1, 1) := by decide +kernel
theorem d_UF_text_37 : decode prog_1_method_4_code 37 = .ok (.aload_n 0, 1) := by decide +kernel
theorem d_UF_text_38 : decode prog_1_method_4_code 38 = .ok (.iconst 0, 1) := by decide +kernel
theorem d_UF_text_39 : decode prog_1_method_4_code 39 = .ok (.putfield 92, 3) := by decide +kernel
theorem d_UF_text_42 : decode prog_1_method_4_code 42 = .ok (.iload_n 1, 1) := by decide +kernel
theorem d_UF_text_43 : decode prog_1_method_4_code 43 = .ok (.ifCond .lt 8, 3) := by decide +kernel
theorem d_UF_text_46 : decode prog_1_method_4_code 46 = .ok (.bipush (-100), 2) := by decide +kernel
theorem d_UF_text_48 : decode prog_1_method_4_code 48 = .ok (.iload_n 1, 1) := by decide +kernel
theorem d_UF_text_49 : decode prog_1_method_4_code 49 = .ok (.isub, 1) := by decide +kernel
theorem d_UF_text_50 : decode prog_1_method_4_code 50 = .ok (.ireturn, 1) := by decide +kernel
theorem d_UF_text_51 : decode prog_1_method_4_code 51 = .ok (.aload_n 0, 1) := by decide +kernel
theorem d_UF_text_52 : decode prog_1_method_4_code 52 = .ok (.dup, 1) := by decide +kernel
theorem d_UF_text_53 : decode prog_1_method_4_code 53 = .ok (.getfield 76, 3) := by decide +kernel
theorem d_UF_text_56 : decode prog_1_method_4_code 56 = .ok (.iconst 1, 1) := by decide +kernel
theorem d_UF_text_57 : decode prog_1_method_4_code 57 = .ok (.iadd, 1) := by decide +kernel
theorem d_UF_text_58 : decode prog_1_method_4_code 58 = .ok (.putfield 76, 3) := by decide +kernel
theorem d_UF_text_61 : decode prog_1_method_4_code 61 = .ok (.aload_n 0, 1) := by decide +kernel
theorem d_UF_text_62 : decode prog_1_method_4_code 62 = .ok (.getfield 76, 3) := by decide +kernel
theorem d_UF_text_65 : decode prog_1_method_4_code 65 = .ok (.iconst 1, 1) := by decide +kernel
theorem d_UF_text_66 : decode prog_1_method_4_code 66 = .ok (.isub, 1) := by decide +kernel
theorem d_UF_text_67 : decode prog_1_method_4_code 67 = .ok (.ireturn, 1) := by decide +kernel
def p_UF_text (Q : Int32 → AH → Prop) (h : AH) : Prop := (((h.1 0 8) < 6 → inb (h.1 0 8) 6 ∧ 0 < rR T1 h 2 (h.1 0 8).toNatClampNeg ∧ p_Reader_read (fun r4 h3 => ((r4 < 0 → Q (((wI (wI h3 0 9 0) 0 8 (((wI h3 0 9 0).1 0 8) + 1)).1 0 8) - 1) (wI (wI h3 0 9 0) 0 8 (((wI h3 0 9 0).1 0 8) + 1))) ∧ (¬ r4 < 0 → Q ((-100) - r4) (wI h3 0 9 0)))) 4 (h.1 0 9) (rR T1 h 2 (h.1 0 8).toNatClampNeg - 1) h) ∧ (¬ (h.1 0 8) < 6 → Q (-4) h))
set_option maxRecDepth 20000 in
theorem r_UF_text_0 {G : GG} {d : Nat} {Q : Int32 → AH → Prop} (h : AH) (H : p_UF_text Q h) : Att G T1 m_UF_text (d + 10) 0 [some (.ref 0), none] [] h 0 0 (iQ Q) := by
  refine A_aload_n d_UF_text_0 rfl ?_
  refine A_get (v := .int (h.1 0 8)) d_UF_text_1 (fo_UF_76_11 rfl) (vA_s (by decide)) rfl rfl ?_
  refine A_bipush 6 (by decide) d_UF_text_4 ?_
  refine A_icmp_lt 12 d_UF_text_6 (by decide) (fun z => ?_) (fun z => ?_)
  · have H := H.1 z
    refine A_aload_n d_UF_text_12 rfl ?_
    refine A_get (v := .ref 25) d_UF_text_13 (fo_UF_51_11 rfl) (vA_s (by decide)) rfl rfl ?_
    refine A_aload_n d_UF_text_16 rfl ?_
    refine A_get (v := .ref 4) d_UF_text_17 (fo_UF_27_11 rfl) (vA_s (by decide)) rfl rfl ?_
    refine A_aload_n d_UF_text_20 rfl ?_
    refine A_get (v := .int (h.1 0 9)) d_UF_text_21 (fo_UF_92_11 rfl) (vA_s (by decide)) rfl rfl ?_
    refine A_aload_n d_UF_text_24 rfl ?_
    refine A_get (v := .ref 2) d_UF_text_25 (fo_UF_17_11 rfl) (vA_s (by decide)) rfl rfl ?_
    refine A_aload_n d_UF_text_28 rfl ?_
    refine A_get (v := .int (h.1 0 8)) d_UF_text_29 (fo_UF_76_11 rfl) (vA_s (by decide)) rfl rfl ?_
    obtain ⟨c1, H⟩ := H
    obtain ⟨c2, H⟩ := H
    refine A_aald (t := 1) (n := 6) d_UF_text_32 (by decide) (vA_s (by decide)) rfl c1 (pos_sub c2) ?_
    refine A_cI [.ref 25, .ref 4, .int (h.1 0 9), .ref (rR T1 h 2 (h.1 0 8).toNatClampNeg - 1)] [] (ct_UF_72 rfl) d_UF_text_33 rfl rfl (by decide) (Nat.le_of_ble_eq_true rfl) (rcA_o (c := 7) rfl (vA_s (by decide)) rfl (by decide) rfl) (ok_Reader_read (d := d) H) (fun r4 h3 H => ?_)
    refine A_istore_n [some (.ref 0), some (.int r4)] d_UF_text_36 (by decide) rfl rfl ?_
    refine A_aload_n d_UF_text_37 rfl ?_
    refine A_iconst 0 (by decide) d_UF_text_38 ?_
    refine A_putI (k := 9) d_UF_text_39 (fo_UF_92_11 rfl) (Or.inr ⟨rfl, _, ft_11_9⟩) (fun z => by cases z) rfl (vA_s (by decide)) rfl rfl rfl ?_
    refine A_iload_n d_UF_text_42 rfl ?_
    refine A_if_lt 51 d_UF_text_43 (by decide) (fun z => ?_) (fun z => ?_)
    · have H := H.1 z
      refine A_aload_n d_UF_text_51 rfl ?_
      refine A_dup rfl d_UF_text_52 ?_
      refine A_get (v := .int ((wI h3 0 9 0).1 0 8)) d_UF_text_53 (fo_UF_76_11 rfl) (vA_s (by decide)) rfl rfl ?_
      refine A_iconst 1 (by decide) d_UF_text_56 ?_
      refine A_iadd d_UF_text_57 ?_
      refine A_putI (k := 8) d_UF_text_58 (fo_UF_76_11 rfl) (Or.inr ⟨rfl, _, ft_11_8⟩) (fun z => by cases z) rfl (vA_s (by decide)) rfl rfl rfl ?_
      refine A_aload_n d_UF_text_61 rfl ?_
      refine A_get (v := .int ((wI (wI h3 0 9 0) 0 8 (((wI h3 0 9 0).1 0 8) + 1)).1 0 8)) d_UF_text_62 (fo_UF_76_11 rfl) (vA_s (by decide)) rfl rfl ?_
      refine A_iconst 1 (by decide) d_UF_text_65 ?_
      refine A_isub d_UF_text_66 ?_
      exact A_iret d_UF_text_67 rfl rfl H
    · have H := H.2 z
      refine A_bipush (-100) (by decide) d_UF_text_46 ?_
      refine A_iload_n d_UF_text_48 rfl ?_
      refine A_isub d_UF_text_49 ?_
      exact A_iret d_UF_text_50 rfl rfl H
  · have H := H.2 z
    refine A_bipush (-4) (by decide) d_UF_text_9 ?_
    exact A_iret d_UF_text_11 rfl rfl H
set_option maxRecDepth 20000 in
theorem ok_UF_text {G : GG} {d : Nat} {Q : Int32 → AH → Prop} {h : AH} (H : p_UF_text Q h) : WP G T1 m_UF_text (d + 10) [.ref 0] h 0 0 (iQ Q) := by
  exact WP.enter 1 (by decide) rfl rfl (r_UF_text_0 h H)
