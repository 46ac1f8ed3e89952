theorem d_MO_set_0 : decode prog_14_method_30_code 0 = .ok (.aload_n 0, 1) := by decide +kernel
theorem d_MO_set_1 : decode prog_14_method_30_code 1 = .ok (.iload_n 1, 1) := by decide +kernel
theorem d_MO_set_2 : decode prog_14_method_30_code 2 = .ok (.invokevirtual 182, 3) := by decide +kernel
theorem d_MO_set_5 : decode prog_14_method_30_code 5 = .ok (.ifCond .ne 6, 3) := by decide +kernel
theorem d_MO_set_8 : decode prog_14_method_30_code 8 = .ok (.bipush (-5), 2) := by decide +kernel
theorem d_MO_set_10 : decode prog_14_method_30_code 10 = .ok (.ireturn, 1) := by decide +kernel
theorem d_MO_set_11 : decode prog_14_method_30_code 11 = .ok (.iload_n 2, 1) := by decide +kernel
theorem d_MO_set_12 : decode prog_14_method_30_code 12 = .ok (.iconst 0, 1) := by decide +kernel
theorem d_MO_set_13 : decode prog_14_method_30_code 13 = .ok (.iconst 1, 1) := by decide +kernel
theorem d_MO_set_14 : decode prog_14_method_30_code 14 = .ok (.invokestatic 93, 3) := by decide +kernel
theorem d_MO_set_17 : decode prog_14_method_30_code 17 = .ok (.ifCond .eq 22, 3) := by decide +kernel
theorem d_MO_set_20 : decode prog_14_method_30_code 20 = .ok (.iload_n 3, 1) := by decide +kernel
theorem d_MO_set_21 : decode prog_14_method_30_code 21 = .ok (.iconst 0, 1) := by decide +kernel
theorem d_MO_set_22 : decode prog_14_method_30_code 22 = .ok (.iload_n 2, 1) := by decide +kernel
theorem d_MO_set_23 : decode prog_14_method_30_code 23 = .ok (.ifCond .ne 8, 3) := by decide +kernel
theorem d_MO_set_26 : decode prog_14_method_30_code 26 = .ok (.bipush 9, 2) := by decide +kernel
theorem d_MO_set_28 : decode prog_14_method_30_code 28 = .ok (.goto 5, 3) := by decide +kernel
theorem d_MO_set_31 : decode prog_14_method_30_code 31 = .ok (.bipush 20, 2) := by decide +kernel
theorem d_MO_set_33 : decode prog_14_method_30_code 33 = .ok (.invokestatic 93, 3) := by decide +kernel
theorem d_MO_set_36 : decode prog_14_method_30_code 36 = .ok (.ifCond .ne 6, 3) := by decide +kernel
theorem d_MO_set_39 : decode prog_14_method_30_code 39 = .ok (.bipush (-7), 2) := by decide +kernel
theorem d_MO_set_41 : decode prog_14_method_30_code 41 = .ok (.ireturn, 1) := by decide +kernel
theorem d_MO_set_42 : decode prog_14_method_30_code 42 = .ok (.iload_n 2, 1) := by decide +kernel
theorem d_MO_set_43 : decode prog_14_method_30_code 43 = .ok (.ifCond .ne 12, 3) := by decide +kernel
theorem d_MO_set_46 : decode prog_14_method_30_code 46 = .ok (.aload_n 0, 1) := by decide +kernel
theorem d_MO_set_47 : decode prog_14_method_30_code 47 = .ok (.getfield 19, 3) := by decide +kernel
theorem d_MO_set_50 : decode prog_14_method_30_code 50 = .ok (.iload_n 1, 1) := by decide +kernel
theorem d_MO_set_51 : decode prog_14_method_30_code 51 = .ok (.iaload, 1) := by decide +kernel
theorem d_MO_set_52 : decode prog_14_method_30_code 52 = .ok (.goto 9, 3) := by decide +kernel
theorem d_MO_set_55 : decode prog_14_method_30_code 55 = .ok (.aload_n 0, 1) := by decide +kernel
theorem d_MO_set_56 : decode prog_14_method_30_code 56 = .ok (.getfield 22, 3) := by decide +kernel
theorem d_MO_set_59 : decode prog_14_method_30_code 59 = .ok (.iload_n 1, 1) := by decide +kernel
theorem d_MO_set_60 : decode prog_14_method_30_code 60 = .ok (.iaload, 1) := by decide +kernel
theorem d_MO_set_61 : decode prog_14_method_30_code 61 = .ok (.istore 4, 2) := by decide +kernel
theorem d_MO_set_63 : decode prog_14_method_30_code 63 = .ok (.aload_n 0, 1) := by decide +kernel
theorem d_MO_set_64 : decode prog_14_method_30_code 64 = .ok (.getfield 19, 3) := by decide +kernel
theorem d_MO_set_67 : decode prog_14_method_30_code 67 = .ok (.iload_n 1, 1) := by decide +kernel
theorem d_MO_set_68 : decode prog_14_method_30_code 68 = .ok (.iload_n 2, 1) := by decide +kernel
theorem d_MO_set_69 : decode prog_14_method_30_code 69 = .ok (.ifCond .ne 7, 3) := by decide +kernel
theorem d_MO_set_72 : decode prog_14_method_30_code 72 = .ok (.iload_n 3, 1) := by decide +kernel
theorem d_MO_set_73 : decode prog_14_method_30_code 73 = .ok (.goto 9, 3) := by decide +kernel
theorem d_MO_set_76 : decode prog_14_method_30_code 76 = .ok (.aload_n 0, 1) := by decide +kernel
theorem d_MO_set_77 : decode prog_14_method_30_code 77 = .ok (.getfield 19, 3) := by decide +kernel
theorem d_MO_set_80 : decode prog_14_method_30_code 80 = .ok (.iload_n 1, 1) := by decide +kernel
theorem d_MO_set_81 : decode prog_14_method_30_code 81 = .ok (.iaload, 1) := by decide +kernel
theorem d_MO_set_82 : decode prog_14_method_30_code 82 = .ok (.iastore, 1) := by decide +kernel
theorem d_MO_set_83 : decode prog_14_method_30_code 83 = .ok (.aload_n 0, 1) := by decide +kernel
theorem d_MO_set_84 : decode prog_14_method_30_code 84 = .ok (.getfield 22, 3) := by decide +kernel
theorem d_MO_set_87 : decode prog_14_method_30_code 87 = .ok (.iload_n 1, 1) := by decide +kernel
theorem d_MO_set_88 : decode prog_14_method_30_code 88 = .ok (.iload_n 2, 1) := by decide +kernel
theorem d_MO_set_89 : decode prog_14_method_30_code 89 = .ok (.iconst 1, 1) := by decide +kernel
theorem d_MO_set_90 : decode prog_14_method_30_code 90 = .ok (.if_icmp .ne 7, 3) := by decide +kernel
theorem d_MO_set_93 : decode prog_14_method_30_code 93 = .ok (.iload_n 3, 1) := by decide +kernel
theorem d_MO_set_94 : decode prog_14_method_30_code 94 = .ok (.goto 9, 3) := by decide +kernel
theorem d_MO_set_97 : decode prog_14_method_30_code 97 = .ok (.aload_n 0, 1) := by decide +kernel
theorem d_MO_set_98 : decode prog_14_method_30_code 98 = .ok (.getfield 22, 3) := by decide +kernel
theorem d_MO_set_101 : decode prog_14_method_30_code 101 = .ok (.iload_n 1, 1) := by decide +kernel
theorem d_MO_set_102 : decode prog_14_method_30_code 102 = .ok (.iaload, 1) := by decide +kernel
theorem d_MO_set_103 : decode prog_14_method_30_code 103 = .ok (.iastore, 1) := by decide +kernel
theorem d_MO_set_104 : decode prog_14_method_30_code 104 = .ok (.iload 4, 2) := by decide +kernel
theorem d_MO_set_106 : decode prog_14_method_30_code 106 = .ok (.ireturn, 1) := by decide +kernel
def p_MO_set_82 (Q : Int32 → AH → Prop) (x1 : Int32) (x2 : Int32) (x3 : Int32) (x4 : Int32) (s1 : Int32) (s2 : Int32) (h : AH) : Prop := inb s1 7 ∧ ((¬ x2 = 1 → inb x1 7 ∧ Q x4 (wI (wI h 63 s1 s2) 64 x1 ((wI h 63 s1 s2).1 64 x1))) ∧ (x2 = 1 → inb x1 7 ∧ Q x4 (wI (wI h 63 s1 s2) 64 x1 x3)))
def p_MO_set_61 (Q : Int32 → AH → Prop) (x1 : Int32) (x2 : Int32) (x3 : Int32) (s0 : Int32) (h : AH) : Prop := ((¬ x2 = 0 → inb x1 7 ∧ p_MO_set_82 Q   x1 x2 x3 s0 x1 (h.1 63 x1) h) ∧ (x2 = 0 → p_MO_set_82 Q   x1 x2 x3 s0 x1 x3 h))
def p_MO_set_33 (Q : Int32 → AH → Prop) (x1 : Int32) (x2 : Int32) (x3 : Int32) (s0 : Int32) (s1 : Int32) (s2 : Int32) (h : AH) : Prop := p_MO_in (fun r2 h1 => ((¬ r2 = 0 → ((¬ x2 = 0 → inb x1 7 ∧ p_MO_set_61 Q   x1 x2 x3 (h1.1 64 x1) h1) ∧ (x2 = 0 → inb x1 7 ∧ p_MO_set_61 Q   x1 x2 x3 (h1.1 63 x1) h1))) ∧ (r2 = 0 → Q (-7) h1))) s0 s1 s2 h
def p_MO_set (Q : Int32 → AH → Prop) (x1 : Int32) (x2 : Int32) (x3 : Int32) (h : AH) : Prop := p_MO_isHouse (fun r2 h1 => ((¬ r2 = 0 → p_MO_in (fun r4 h3 => ((r4 = 0 → Q (-7) h3) ∧ (¬ r4 = 0 → ((¬ x2 = 0 → p_MO_set_33 Q   x1 x2 x3 x3 0 20 h3) ∧ (x2 = 0 → p_MO_set_33 Q   x1 x2 x3 x3 0 9 h3))))) x2 0 1 h1) ∧ (r2 = 0 → Q (-5) h1))) x1 h
set_option maxRecDepth 20000 in
theorem r_MO_set_82 {G : GG} {d : Nat} {Q : Int32 → AH → Prop} (x1 : Int32) (x2 : Int32) (x3 : Int32) (x4 : Int32) (s1 : Int32) (s2 : Int32) (h : AH) (H : p_MO_set_82 Q x1 x2 x3 x4 s1 s2 h) : Att G T1 m_MO_set (d + 2) 82 [some (.ref 59), some (.int x1), some (.int x2), some (.int x3), some (.int x4)] [.int s2, .int s1, .ref 63] h 0 0 (iQ Q) := by
  obtain ⟨c1, H⟩ := H
  refine A_iast (n := 7) d_MO_set_82 (vA_s (by decide)) rfl c1 ?_
  refine A_aload_n d_MO_set_83 rfl ?_
  refine A_get (v := .ref 64) d_MO_set_84 (fo_MO_22_12 rfl) (vA_s (by decide)) rfl rfl ?_
  refine A_iload_n d_MO_set_87 rfl ?_
  refine A_iload_n d_MO_set_88 rfl ?_
  refine A_iconst 1 (by decide) d_MO_set_89 ?_
  refine A_icmp_ne 97 d_MO_set_90 (by decide) (fun z => ?_) (fun z => ?_)
  · have H := H.1 z
    refine A_aload_n d_MO_set_97 rfl ?_
    refine A_get (v := .ref 64) d_MO_set_98 (fo_MO_22_12 rfl) (vA_s (by decide)) rfl rfl ?_
    refine A_iload_n d_MO_set_101 rfl ?_
    obtain ⟨c2, H⟩ := H
    refine A_iald (n := 7) d_MO_set_102 (vA_s (by decide)) rfl c2 ?_
    refine A_iast (n := 7) d_MO_set_103 (vA_s (by decide)) rfl c2 ?_
    refine A_iload d_MO_set_104 rfl ?_
    exact A_iret d_MO_set_106 rfl rfl H
  · have H := H.2 z
    refine A_iload_n d_MO_set_93 rfl ?_
    refine A_goto 103 d_MO_set_94 (by decide) ?_
    obtain ⟨c3, H⟩ := H
    refine A_iast (n := 7) d_MO_set_103 (vA_s (by decide)) rfl c3 ?_
    refine A_iload d_MO_set_104 rfl ?_
    exact A_iret d_MO_set_106 rfl rfl H
set_option maxRecDepth 20000 in
theorem r_MO_set_61 {G : GG} {d : Nat} {Q : Int32 → AH → Prop} (x1 : Int32) (x2 : Int32) (x3 : Int32) (s0 : Int32) (h : AH) (H : p_MO_set_61 Q x1 x2 x3 s0 h) : Att G T1 m_MO_set (d + 2) 61 [some (.ref 59), some (.int x1), some (.int x2), some (.int x3), none] [.int s0] h 0 0 (iQ Q) := by
  refine A_istore [some (.ref 59), some (.int x1), some (.int x2), some (.int x3), some (.int s0)] d_MO_set_61 (by decide) rfl rfl ?_
  refine A_aload_n d_MO_set_63 rfl ?_
  refine A_get (v := .ref 63) d_MO_set_64 (fo_MO_19_12 rfl) (vA_s (by decide)) rfl rfl ?_
  refine A_iload_n d_MO_set_67 rfl ?_
  refine A_iload_n d_MO_set_68 rfl ?_
  refine A_if_ne 76 d_MO_set_69 (by decide) (fun z => ?_) (fun z => ?_)
  · have H := H.1 z
    refine A_aload_n d_MO_set_76 rfl ?_
    refine A_get (v := .ref 63) d_MO_set_77 (fo_MO_19_12 rfl) (vA_s (by decide)) rfl rfl ?_
    refine A_iload_n d_MO_set_80 rfl ?_
    obtain ⟨c1, H⟩ := H
    refine A_iald (n := 7) d_MO_set_81 (vA_s (by decide)) rfl c1 ?_
    exact r_MO_set_82   _ _ _ _ _ _ _ H
  · have H := H.2 z
    refine A_iload_n d_MO_set_72 rfl ?_
    refine A_goto 82 d_MO_set_73 (by decide) ?_
    exact r_MO_set_82   _ _ _ _ _ _ _ H
set_option maxRecDepth 20000 in
theorem r_MO_set_33 {G : GG} {d : Nat} {Q : Int32 → AH → Prop} (x1 : Int32) (x2 : Int32) (x3 : Int32) (s0 : Int32) (s1 : Int32) (s2 : Int32) (h : AH) (H : p_MO_set_33 Q x1 x2 x3 s0 s1 s2 h) : Att G T1 m_MO_set (d + 2) 33 [some (.ref 59), some (.int x1), some (.int x2), some (.int x3), none] [.int s2, .int s1, .int s0] h 0 0 (iQ Q) := by
  refine A_cI [.int s0, .int s1, .int s2] [] (ct_MO_93 rfl) d_MO_set_33 rfl rfl (by decide) (Nat.le_of_ble_eq_true rfl) trivial (ok_MO_in (d := d + 1) H) (fun r2 h1 H => ?_)
  refine A_if_ne 42 d_MO_set_36 (by decide) (fun z => ?_) (fun z => ?_)
  · have H := H.1 z
    refine A_iload_n d_MO_set_42 rfl ?_
    refine A_if_ne 55 d_MO_set_43 (by decide) (fun z => ?_) (fun z => ?_)
    · have H := H.1 z
      refine A_aload_n d_MO_set_55 rfl ?_
      refine A_get (v := .ref 64) d_MO_set_56 (fo_MO_22_12 rfl) (vA_s (by decide)) rfl rfl ?_
      refine A_iload_n d_MO_set_59 rfl ?_
      obtain ⟨c3, H⟩ := H
      refine A_iald (n := 7) d_MO_set_60 (vA_s (by decide)) rfl c3 ?_
      exact r_MO_set_61   _ _ _ _ _ H
    · have H := H.2 z
      refine A_aload_n d_MO_set_46 rfl ?_
      refine A_get (v := .ref 63) d_MO_set_47 (fo_MO_19_12 rfl) (vA_s (by decide)) rfl rfl ?_
      refine A_iload_n d_MO_set_50 rfl ?_
      obtain ⟨c4, H⟩ := H
      refine A_iald (n := 7) d_MO_set_51 (vA_s (by decide)) rfl c4 ?_
      refine A_goto 61 d_MO_set_52 (by decide) ?_
      exact r_MO_set_61   _ _ _ _ _ H
  · have H := H.2 z
    refine A_bipush (-7) (by decide) d_MO_set_39 ?_
    exact A_iret d_MO_set_41 rfl rfl H
set_option maxRecDepth 20000 in
theorem r_MO_set_0 {G : GG} {d : Nat} {Q : Int32 → AH → Prop} (x1 : Int32) (x2 : Int32) (x3 : Int32) (h : AH) (H : p_MO_set Q x1 x2 x3 h) : Att G T1 m_MO_set (d + 2) 0 [some (.ref 59), some (.int x1), some (.int x2), some (.int x3), none] [] h 0 0 (iQ Q) := by
  refine A_aload_n d_MO_set_0 rfl ?_
  refine A_iload_n d_MO_set_1 rfl ?_
  refine A_cI [.ref 59, .int x1] [] (ct_MO_182 rfl) d_MO_set_2 rfl rfl (by decide) (Nat.le_of_ble_eq_true rfl) (rcA_o (c := 12) rfl (vA_s (by decide)) rfl (by decide) rfl) (ok_MO_isHouse (d := d) H) (fun r2 h1 H => ?_)
  refine A_if_ne 11 d_MO_set_5 (by decide) (fun z => ?_) (fun z => ?_)
  · have H := H.1 z
    refine A_iload_n d_MO_set_11 rfl ?_
    refine A_iconst 0 (by decide) d_MO_set_12 ?_
    refine A_iconst 1 (by decide) d_MO_set_13 ?_
    refine A_cI [.int x2, .int 0, .int 1] [] (ct_MO_93 rfl) d_MO_set_14 rfl rfl (by decide) (Nat.le_of_ble_eq_true rfl) trivial (ok_MO_in (d := d + 1) H) (fun r4 h3 H => ?_)
    refine A_if_eq 39 d_MO_set_17 (by decide) (fun z => ?_) (fun z => ?_)
    · have H := H.1 z
      refine A_bipush (-7) (by decide) d_MO_set_39 ?_
      exact A_iret d_MO_set_41 rfl rfl H
    · have H := H.2 z
      refine A_iload_n d_MO_set_20 rfl ?_
      refine A_iconst 0 (by decide) d_MO_set_21 ?_
      refine A_iload_n d_MO_set_22 rfl ?_
      refine A_if_ne 31 d_MO_set_23 (by decide) (fun z => ?_) (fun z => ?_)
      · have H := H.1 z
        refine A_bipush 20 (by decide) d_MO_set_31 ?_
        exact r_MO_set_33   _ _ _ _ _ _ _ H
      · have H := H.2 z
        refine A_bipush 9 (by decide) d_MO_set_26 ?_
        refine A_goto 33 d_MO_set_28 (by decide) ?_
        exact r_MO_set_33   _ _ _ _ _ _ _ H
  · have H := H.2 z
    refine A_bipush (-5) (by decide) d_MO_set_8 ?_
    exact A_iret d_MO_set_10 rfl rfl H
set_option maxRecDepth 20000 in
theorem ok_MO_set {G : GG} {d : Nat} {Q : Int32 → AH → Prop} {x1 : Int32} {x2 : Int32} {x3 : Int32} {h : AH} (H : p_MO_set Q x1 x2 x3 h) : WP G T1 m_MO_set (d + 2) [.ref 59, .int x1, .int x2, .int x3] h 0 0 (iQ Q) := by
  exact WP.enter 1 (by decide) rfl rfl (r_MO_set_0 x1 x2 x3 h H)
theorem d_MO_chain_0 : decode prog_14_method_33_code 0 = .ok (.aload_n 0, 1) := by decide +kernel
theorem d_MO_chain_1 : decode prog_14_method_33_code 1 = .ok (.iload_n 1, 1) := by decide +kernel
theorem d_MO_chain_2 : decode prog_14_method_33_code 2 = .ok (.invokevirtual 182, 3) := by decide +kernel
theorem d_MO_chain_5 : decode prog_14_method_33_code 5 = .ok (.ifCond .eq 11, 3) := by decide +kernel
theorem d_MO_chain_8 : decode prog_14_method_33_code 8 = .ok (.aload_n 0, 1) := by decide +kernel
theorem d_MO_chain_9 : decode prog_14_method_33_code 9 = .ok (.iload_n 2, 1) := by decide +kernel
theorem d_MO_chain_10 : decode prog_14_method_33_code 10 = .ok (.invokevirtual 182, 3) := by decide +kernel
theorem d_MO_chain_13 : decode prog_14_method_33_code 13 = .ok (.ifCond .ne 6, 3) := by decide +kernel
theorem d_MO_chain_16 : decode prog_14_method_33_code 16 = .ok (.bipush (-5), 2) := by decide +kernel
theorem d_MO_chain_18 : decode prog_14_method_33_code 18 = .ok (.ireturn, 1) := by decide +kernel
theorem d_MO_chain_19 : decode prog_14_method_33_code 19 = .ok (.aload_n 0, 1) := by decide +kernel
theorem d_MO_chain_20 : decode prog_14_method_33_code 20 = .ok (.getfield 25, 3) := by decide +kernel
theorem d_MO_chain_23 : decode prog_14_method_33_code 23 = .ok (.iload_n 1, 1) := by decide +kernel
theorem d_MO_chain_24 : decode prog_14_method_33_code 24 = .ok (.iaload, 1) := by decide +kernel
theorem d_MO_chain_25 : decode prog_14_method_33_code 25 = .ok (.istore_n 3, 1) := by decide +kernel
theorem d_MO_chain_26 : decode prog_14_method_33_code 26 = .ok (.aload_n 0, 1) := by decide +kernel
theorem d_MO_chain_27 : decode prog_14_method_33_code 27 = .ok (.iload_n 1, 1) := by decide +kernel
theorem d_MO_chain_28 : decode prog_14_method_33_code 28 = .ok (.iload_n 2, 1) := by decide +kernel
theorem d_MO_chain_29 : decode prog_14_method_33_code 29 = .ok (.invokevirtual 195, 3) := by decide +kernel
theorem d_MO_chain_32 : decode prog_14_method_33_code 32 = .ok (.iload_n 3, 1) := by decide +kernel
theorem d_MO_chain_33 : decode prog_14_method_33_code 33 = .ok (.ireturn, 1) := by decide +kernel
def p_MO_chain (Q : Int32 → AH → Prop) (x1 : Int32) (x2 : Int32) (h : AH) : Prop := p_MO_isHouse (fun r2 h1 => ((r2 = 0 → Q (-5) h1) ∧ (¬ r2 = 0 → p_MO_isHouse (fun r4 h3 => ((¬ r4 = 0 → inb x1 7 ∧ p_MO_links (fun h6 => Q (h3.1 65 x1) h6) x1 x2 h3) ∧ (r4 = 0 → Q (-5) h3))) x2 h1))) x1 h
set_option maxRecDepth 20000 in
theorem r_MO_chain_0 {G : GG} {d : Nat} {Q : Int32 → AH → Prop} (x1 : Int32) (x2 : Int32) (h : AH) (H : p_MO_chain Q x1 x2 h) : Att G T1 m_MO_chain (d + 2) 0 [some (.ref 59), some (.int x1), some (.int x2), none] [] h 0 0 (iQ Q) := by
  refine A_aload_n d_MO_chain_0 rfl ?_
  refine A_iload_n d_MO_chain_1 rfl ?_
  refine A_cI [.ref 59, .int x1] [] (ct_MO_182 rfl) d_MO_chain_2 rfl rfl (by decide) (Nat.le_of_ble_eq_true rfl) (rcA_o (c := 12) rfl (vA_s (by decide)) rfl (by decide) rfl) (ok_MO_isHouse (d := d) H) (fun r2 h1 H => ?_)
  refine A_if_eq 16 d_MO_chain_5 (by decide) (fun z => ?_) (fun z => ?_)
  · have H := H.1 z
    refine A_bipush (-5) (by decide) d_MO_chain_16 ?_
    exact A_iret d_MO_chain_18 rfl rfl H
  · have H := H.2 z
    refine A_aload_n d_MO_chain_8 rfl ?_
    refine A_iload_n d_MO_chain_9 rfl ?_
    refine A_cI [.ref 59, .int x2] [] (ct_MO_182 rfl) d_MO_chain_10 rfl rfl (by decide) (Nat.le_of_ble_eq_true rfl) (rcA_o (c := 12) rfl (vA_s (by decide)) rfl (by decide) rfl) (ok_MO_isHouse (d := d) H) (fun r4 h3 H => ?_)
    refine A_if_ne 19 d_MO_chain_13 (by decide) (fun z => ?_) (fun z => ?_)
    · have H := H.1 z
      refine A_aload_n d_MO_chain_19 rfl ?_
      refine A_get (v := .ref 65) d_MO_chain_20 (fo_MO_25_12 rfl) (vA_s (by decide)) rfl rfl ?_
      refine A_iload_n d_MO_chain_23 rfl ?_
      obtain ⟨c5, H⟩ := H
      refine A_iald (n := 7) d_MO_chain_24 (vA_s (by decide)) rfl c5 ?_
      refine A_istore_n [some (.ref 59), some (.int x1), some (.int x2), some (.int (h3.1 65 x1))] d_MO_chain_25 (by decide) rfl rfl ?_
      refine A_aload_n d_MO_chain_26 rfl ?_
      refine A_iload_n d_MO_chain_27 rfl ?_
      refine A_iload_n d_MO_chain_28 rfl ?_
      refine A_cV [.ref 59, .int x1, .int x2] [] (ct_MO_195 rfl) d_MO_chain_29 rfl rfl (by decide) (Nat.le_of_ble_eq_true rfl) (rcA_o (c := 12) rfl (vA_s (by decide)) rfl (by decide) rfl) (ok_MO_links (d := d) H) (fun h6 H => ?_)
      refine A_iload_n d_MO_chain_32 rfl ?_
      exact A_iret d_MO_chain_33 rfl rfl H
    · have H := H.2 z
      refine A_bipush (-5) (by decide) d_MO_chain_16 ?_
      exact A_iret d_MO_chain_18 rfl rfl H
set_option maxRecDepth 20000 in
theorem ok_MO_chain {G : GG} {d : Nat} {Q : Int32 → AH → Prop} {x1 : Int32} {x2 : Int32} {h : AH} (H : p_MO_chain Q x1 x2 h) : WP G T1 m_MO_chain (d + 2) [.ref 59, .int x1, .int x2] h 0 0 (iQ Q) := by
  exact WP.enter 1 (by decide) rfl rfl (r_MO_chain_0 x1 x2 h H)
theorem d_MO_told_0 : decode prog_14_method_34_code 0 = .ok (.aload_n 0, 1) := by decide +kernel
theorem d_MO_told_1 : decode prog_14_method_34_code 1 = .ok (.iload_n 1, 1) := by decide +kernel
theorem d_MO_told_2 : decode prog_14_method_34_code 2 = .ok (.invokevirtual 182, 3) := by decide +kernel
theorem d_MO_told_5 : decode prog_14_method_34_code 5 = .ok (.ifCond .ne 6, 3) := by decide +kernel
theorem d_MO_told_8 : decode prog_14_method_34_code 8 = .ok (.bipush (-5), 2) := by decide +kernel
theorem d_MO_told_10 : decode prog_14_method_34_code 10 = .ok (.ireturn, 1) := by decide +kernel
theorem d_MO_told_11 : decode prog_14_method_34_code 11 = .ok (.iload_n 2, 1) := by decide +kernel
theorem d_MO_told_12 : decode prog_14_method_34_code 12 = .ok (.tableswitch 82 0 5 #[40, 47, 54, 61, 68, 75], 40) := by decide +kernel
theorem d_MO_told_52 : decode prog_14_method_34_code 52 = .ok (.aload_n 0, 1) := by decide +kernel
theorem d_MO_told_53 : decode prog_14_method_34_code 53 = .ok (.getfield 19, 3) := by decide +kernel
theorem d_MO_told_56 : decode prog_14_method_34_code 56 = .ok (.iload_n 1, 1) := by decide +kernel
theorem d_MO_told_57 : decode prog_14_method_34_code 57 = .ok (.iaload, 1) := by decide +kernel
theorem d_MO_told_58 : decode prog_14_method_34_code 58 = .ok (.ireturn, 1) := by decide +kernel
theorem d_MO_told_59 : decode prog_14_method_34_code 59 = .ok (.aload_n 0, 1) := by decide +kernel
theorem d_MO_told_60 : decode prog_14_method_34_code 60 = .ok (.getfield 22, 3) := by decide +kernel
theorem d_MO_told_63 : decode prog_14_method_34_code 63 = .ok (.iload_n 1, 1) := by decide +kernel
theorem d_MO_told_64 : decode prog_14_method_34_code 64 = .ok (.iaload, 1) := by decide +kernel
theorem d_MO_told_65 : decode prog_14_method_34_code 65 = .ok (.ireturn, 1) := by decide +kernel
theorem d_MO_told_66 : decode prog_14_method_34_code 66 = .ok (.aload_n 0, 1) := by decide +kernel
theorem d_MO_told_67 : decode prog_14_method_34_code 67 = .ok (.getfield 25, 3) := by decide +kernel
theorem d_MO_told_70 : decode prog_14_method_34_code 70 = .ok (.iload_n 1, 1) := by decide +kernel
theorem d_MO_told_71 : decode prog_14_method_34_code 71 = .ok (.iaload, 1) := by decide +kernel
theorem d_MO_told_72 : decode prog_14_method_34_code 72 = .ok (.ireturn, 1) := by decide +kernel
theorem d_MO_told_73 : decode prog_14_method_34_code 73 = .ok (.aload_n 0, 1) := by decide +kernel
theorem d_MO_told_74 : decode prog_14_method_34_code 74 = .ok (.getfield 7, 3) := by decide +kernel
theorem d_MO_told_77 : decode prog_14_method_34_code 77 = .ok (.iload_n 1, 1) := by decide +kernel
theorem d_MO_told_78 : decode prog_14_method_34_code 78 = .ok (.iaload, 1) := by decide +kernel
theorem d_MO_told_79 : decode prog_14_method_34_code 79 = .ok (.ireturn, 1) := by decide +kernel
theorem d_MO_told_80 : decode prog_14_method_34_code 80 = .ok (.aload_n 0, 1) := by decide +kernel
theorem d_MO_told_81 : decode prog_14_method_34_code 81 = .ok (.getfield 13, 3) := by decide +kernel
theorem d_MO_told_84 : decode prog_14_method_34_code 84 = .ok (.iload_n 1, 1) := by decide +kernel
theorem d_MO_told_85 : decode prog_14_method_34_code 85 = .ok (.iaload, 1) := by decide +kernel
theorem d_MO_told_86 : decode prog_14_method_34_code 86 = .ok (.ireturn, 1) := by decide +kernel
theorem d_MO_told_87 : decode prog_14_method_34_code 87 = .ok (.aload_n 0, 1) := by decide +kernel
theorem d_MO_told_88 : decode prog_14_method_34_code 88 = .ok (.getfield 16, 3) := by decide +kernel
theorem d_MO_told_91 : decode prog_14_method_34_code 91 = .ok (.iload_n 1, 1) := by decide +kernel
theorem d_MO_told_92 : decode prog_14_method_34_code 92 = .ok (.iaload, 1) := by decide +kernel
theorem d_MO_told_93 : decode prog_14_method_34_code 93 = .ok (.ireturn, 1) := by decide +kernel
theorem d_MO_told_94 : decode prog_14_method_34_code 94 = .ok (.bipush (-7), 2) := by decide +kernel
theorem d_MO_told_96 : decode prog_14_method_34_code 96 = .ok (.ireturn, 1) := by decide +kernel
def p_MO_told (Q : Int32 → AH → Prop) (x1 : Int32) (x2 : Int32) (h : AH) : Prop := p_MO_isHouse (fun r2 h1 => ((¬ r2 = 0 → ((x2 = 0 → inb x1 7 ∧ Q (h1.1 63 x1) h1) ∧ (x2 = 1 → inb x1 7 ∧ Q (h1.1 64 x1) h1) ∧ (x2 = 2 → inb x1 7 ∧ Q (h1.1 65 x1) h1) ∧ (x2 = 3 → inb x1 7 ∧ Q (h1.1 60 x1) h1) ∧ (x2 = 4 → inb x1 7 ∧ Q (h1.1 61 x1) h1) ∧ (x2 = 5 → inb x1 7 ∧ Q (h1.1 62 x1) h1) ∧ (¬ x2 = 0 → ¬ x2 = 1 → ¬ x2 = 2 → ¬ x2 = 3 → ¬ x2 = 4 → ¬ x2 = 5 → Q (-7) h1))) ∧ (r2 = 0 → Q (-5) h1))) x1 h
set_option maxRecDepth 20000 in
theorem r_MO_told_0 {G : GG} {d : Nat} {Q : Int32 → AH → Prop} (x1 : Int32) (x2 : Int32) (h : AH) (H : p_MO_told Q x1 x2 h) : Att G T1 m_MO_told (d + 2) 0 [some (.ref 59), some (.int x1), some (.int x2)] [] h 0 0 (iQ Q) := by
  refine A_aload_n d_MO_told_0 rfl ?_
  refine A_iload_n d_MO_told_1 rfl ?_
  refine A_cI [.ref 59, .int x1] [] (ct_MO_182 rfl) d_MO_told_2 rfl rfl (by decide) (Nat.le_of_ble_eq_true rfl) (rcA_o (c := 12) rfl (vA_s (by decide)) rfl (by decide) rfl) (ok_MO_isHouse (d := d) H) (fun r2 h1 H => ?_)
  refine A_if_ne 11 d_MO_told_5 (by decide) (fun z => ?_) (fun z => ?_)
  · have H := H.1 z
    refine A_iload_n d_MO_told_11 rfl ?_
    by_cases z0 : x2 = 0
    · have H := H.1 z0
      refine A_tsI 52 d_MO_told_12 (by rw [z0]; decide) (by rw [z0]; decide) (by rw [z0]; rfl) (by decide) ?_
      refine A_aload_n d_MO_told_52 rfl ?_
      refine A_get (v := .ref 63) d_MO_told_53 (fo_MO_19_12 rfl) (vA_s (by decide)) rfl rfl ?_
      refine A_iload_n d_MO_told_56 rfl ?_
      obtain ⟨c3, H⟩ := H
      refine A_iald (n := 7) d_MO_told_57 (vA_s (by decide)) rfl c3 ?_
      exact A_iret d_MO_told_58 rfl rfl H
    · have H := H.2
      by_cases z1 : x2 = 1
      · have H := H.1 z1
        refine A_tsI 59 d_MO_told_12 (by rw [z1]; decide) (by rw [z1]; decide) (by rw [z1]; rfl) (by decide) ?_
        refine A_aload_n d_MO_told_59 rfl ?_
        refine A_get (v := .ref 64) d_MO_told_60 (fo_MO_22_12 rfl) (vA_s (by decide)) rfl rfl ?_
        refine A_iload_n d_MO_told_63 rfl ?_
        obtain ⟨c4, H⟩ := H
        refine A_iald (n := 7) d_MO_told_64 (vA_s (by decide)) rfl c4 ?_
        exact A_iret d_MO_told_65 rfl rfl H
      · have H := H.2
        by_cases z2 : x2 = 2
        · have H := H.1 z2
          refine A_tsI 66 d_MO_told_12 (by rw [z2]; decide) (by rw [z2]; decide) (by rw [z2]; rfl) (by decide) ?_
          refine A_aload_n d_MO_told_66 rfl ?_
          refine A_get (v := .ref 65) d_MO_told_67 (fo_MO_25_12 rfl) (vA_s (by decide)) rfl rfl ?_
          refine A_iload_n d_MO_told_70 rfl ?_
          obtain ⟨c5, H⟩ := H
          refine A_iald (n := 7) d_MO_told_71 (vA_s (by decide)) rfl c5 ?_
          exact A_iret d_MO_told_72 rfl rfl H
        · have H := H.2
          by_cases z3 : x2 = 3
          · have H := H.1 z3
            refine A_tsI 73 d_MO_told_12 (by rw [z3]; decide) (by rw [z3]; decide) (by rw [z3]; rfl) (by decide) ?_
            refine A_aload_n d_MO_told_73 rfl ?_
            refine A_get (v := .ref 60) d_MO_told_74 (fo_MO_7_12 rfl) (vA_s (by decide)) rfl rfl ?_
            refine A_iload_n d_MO_told_77 rfl ?_
            obtain ⟨c6, H⟩ := H
            refine A_iald (n := 7) d_MO_told_78 (vA_s (by decide)) rfl c6 ?_
            exact A_iret d_MO_told_79 rfl rfl H
          · have H := H.2
            by_cases z4 : x2 = 4
            · have H := H.1 z4
              refine A_tsI 80 d_MO_told_12 (by rw [z4]; decide) (by rw [z4]; decide) (by rw [z4]; rfl) (by decide) ?_
              refine A_aload_n d_MO_told_80 rfl ?_
              refine A_get (v := .ref 61) d_MO_told_81 (fo_MO_13_12 rfl) (vA_s (by decide)) rfl rfl ?_
              refine A_iload_n d_MO_told_84 rfl ?_
              obtain ⟨c7, H⟩ := H
              refine A_iald (n := 7) d_MO_told_85 (vA_s (by decide)) rfl c7 ?_
              exact A_iret d_MO_told_86 rfl rfl H
            · have H := H.2
              by_cases z5 : x2 = 5
              · have H := H.1 z5
                refine A_tsI 87 d_MO_told_12 (by rw [z5]; decide) (by rw [z5]; decide) (by rw [z5]; rfl) (by decide) ?_
                refine A_aload_n d_MO_told_87 rfl ?_
                refine A_get (v := .ref 62) d_MO_told_88 (fo_MO_16_12 rfl) (vA_s (by decide)) rfl rfl ?_
                refine A_iload_n d_MO_told_91 rfl ?_
                obtain ⟨c8, H⟩ := H
                refine A_iald (n := 7) d_MO_told_92 (vA_s (by decide)) rfl c8 ?_
                exact A_iret d_MO_told_93 rfl rfl H
              · have H := H.2
                have H := H z0 z1 z2 z3 z4 z5
                refine A_tsO 94 d_MO_told_12 (by have t0 := lv_neT z0 (a := 0) (by decide); have t1 := lv_neT z1 (a := 1) (by decide); have t2 := lv_neT z2 (a := 2) (by decide); have t3 := lv_neT z3 (a := 3) (by decide); have t4 := lv_neT z4 (a := 4) (by decide); have t5 := lv_neT z5 (a := 5) (by decide); omega) (by decide) ?_
                refine A_bipush (-7) (by decide) d_MO_told_94 ?_
                exact A_iret d_MO_told_96 rfl rfl H
  · have H := H.2 z
    refine A_bipush (-5) (by decide) d_MO_told_8 ?_
    exact A_iret d_MO_told_10 rfl rfl H
set_option maxRecDepth 20000 in
theorem ok_MO_told {G : GG} {d : Nat} {Q : Int32 → AH → Prop} {x1 : Int32} {x2 : Int32} {h : AH} (H : p_MO_told Q x1 x2 h) : WP G T1 m_MO_told (d + 2) [.ref 59, .int x1, .int x2] h 0 0 (iQ Q) := by
  exact WP.enter 0 (by decide) rfl rfl (r_MO_told_0 x1 x2 h H)
theorem d_MO_toldWrong_0 : decode prog_14_method_64_code 0 = .ok (.aload_n 0, 1) := by decide +kernel
theorem d_MO_toldWrong_1 : decode prog_14_method_64_code 1 = .ok (.iload_n 1, 1) := by decide +kernel
theorem d_MO_toldWrong_2 : decode prog_14_method_64_code 2 = .ok (.invokevirtual 262, 3) := by decide +kernel
theorem d_MO_toldWrong_5 : decode prog_14_method_64_code 5 = .ok (.istore_n 3, 1) := by decide +kernel
theorem d_MO_toldWrong_6 : decode prog_14_method_64_code 6 = .ok (.iload_n 3, 1) := by decide +kernel
theorem d_MO_toldWrong_7 : decode prog_14_method_64_code 7 = .ok (.ifCond .eq 7, 3) := by decide +kernel
theorem d_MO_toldWrong_10 : decode prog_14_method_64_code 10 = .ok (.iload_n 3, 1) := by decide +kernel
theorem d_MO_toldWrong_11 : decode prog_14_method_64_code 11 = .ok (.goto 16, 3) := by decide +kernel
theorem d_MO_toldWrong_14 : decode prog_14_method_64_code 14 = .ok (.iload_n 2, 1) := by decide +kernel
theorem d_MO_toldWrong_15 : decode prog_14_method_64_code 15 = .ok (.invokestatic 185, 3) := by decide +kernel
theorem d_MO_toldWrong_18 : decode prog_14_method_64_code 18 = .ok (.ifCond .eq 7, 3) := by decide +kernel
theorem d_MO_toldWrong_21 : decode prog_14_method_64_code 21 = .ok (.iconst 0, 1) := by decide +kernel
theorem d_MO_toldWrong_22 : decode prog_14_method_64_code 22 = .ok (.goto 5, 3) := by decide +kernel
theorem d_MO_toldWrong_25 : decode prog_14_method_64_code 25 = .ok (.bipush (-7), 2) := by decide +kernel
theorem d_MO_toldWrong_27 : decode prog_14_method_64_code 27 = .ok (.ireturn, 1) := by decide +kernel
def p_MO_toldWrong (Q : Int32 → AH → Prop) (x1 : Int32) (x2 : Int32) (h : AH) : Prop := p_MO_sheetWrong (fun r2 h1 => ((r2 = 0 → p_MO_isMany (fun r4 h3 => ((r4 = 0 → Q (-7) h3) ∧ (¬ r4 = 0 → Q 0 h3))) x2 h1) ∧ (¬ r2 = 0 → Q r2 h1))) x1 h
set_option maxRecDepth 20000 in
theorem r_MO_toldWrong_0 {G : GG} {d : Nat} {Q : Int32 → AH → Prop} (x1 : Int32) (x2 : Int32) (h : AH) (H : p_MO_toldWrong Q x1 x2 h) : Att G T1 m_MO_toldWrong (d + 2) 0 [some (.ref 59), some (.int x1), some (.int x2), none] [] h 0 0 (iQ Q) := by
  refine A_aload_n d_MO_toldWrong_0 rfl ?_
  refine A_iload_n d_MO_toldWrong_1 rfl ?_
  refine A_cI [.ref 59, .int x1] [] (ct_MO_262 rfl) d_MO_toldWrong_2 rfl rfl (by decide) (Nat.le_of_ble_eq_true rfl) (rcA_o (c := 12) rfl (vA_s (by decide)) rfl (by decide) rfl) (ok_MO_sheetWrong (d := d) H) (fun r2 h1 H => ?_)
  refine A_istore_n [some (.ref 59), some (.int x1), some (.int x2), some (.int r2)] d_MO_toldWrong_5 (by decide) rfl rfl ?_
  refine A_iload_n d_MO_toldWrong_6 rfl ?_
  refine A_if_eq 14 d_MO_toldWrong_7 (by decide) (fun z => ?_) (fun z => ?_)
  · have H := H.1 z
    refine A_iload_n d_MO_toldWrong_14 rfl ?_
    refine A_cI [.int x2] [] (ct_MO_185 rfl) d_MO_toldWrong_15 rfl rfl (by decide) (Nat.le_of_ble_eq_true rfl) trivial (ok_MO_isMany (d := d) H) (fun r4 h3 H => ?_)
    refine A_if_eq 25 d_MO_toldWrong_18 (by decide) (fun z => ?_) (fun z => ?_)
    · have H := H.1 z
      refine A_bipush (-7) (by decide) d_MO_toldWrong_25 ?_
      exact A_iret d_MO_toldWrong_27 rfl rfl H
    · have H := H.2 z
      refine A_iconst 0 (by decide) d_MO_toldWrong_21 ?_
      refine A_goto 27 d_MO_toldWrong_22 (by decide) ?_
      exact A_iret d_MO_toldWrong_27 rfl rfl H
  · have H := H.2 z
    refine A_iload_n d_MO_toldWrong_10 rfl ?_
    refine A_goto 27 d_MO_toldWrong_11 (by decide) ?_
    exact A_iret d_MO_toldWrong_27 rfl rfl H
set_option maxRecDepth 20000 in
theorem ok_MO_toldWrong {G : GG} {d : Nat} {Q : Int32 → AH → Prop} {x1 : Int32} {x2 : Int32} {h : AH} (H : p_MO_toldWrong Q x1 x2 h) : WP G T1 m_MO_toldWrong (d + 2) [.ref 59, .int x1, .int x2] h 0 0 (iQ Q) := by
  exact WP.enter 1 (by decide) rfl rfl (r_MO_toldWrong_0 x1 x2 h H)
theorem d_MO_isDrawn_0 : decode prog_14_method_72_code 0 = .ok (.iload_n 0, 1) := by decide +kernel
theorem d_MO_isDrawn_1 : decode prog_14_method_72_code 1 = .ok (.iconst 0, 1) := by decide +kernel
theorem d_MO_isDrawn_2 : decode prog_14_method_72_code 2 = .ok (.ldc_w 271, 3) := by decide +kernel
theorem d_MO_isDrawn_5 : decode prog_14_method_72_code 5 = .ok (.invokestatic 93, 3) := by decide +kernel
theorem d_MO_isDrawn_8 : decode prog_14_method_72_code 8 = .ok (.ifCond .eq 24, 3) := by decide +kernel
theorem d_MO_isDrawn_11 : decode prog_14_method_72_code 11 = .ok (.iload_n 1, 1) := by decide +kernel
theorem d_MO_isDrawn_12 : decode prog_14_method_72_code 12 = .ok (.invokestatic 185, 3) := by decide +kernel
theorem d_MO_isDrawn_15 : decode prog_14_method_72_code 15 = .ok (.ifCond .eq 17, 3) := by decide +kernel
theorem d_MO_isDrawn_18 : decode prog_14_method_72_code 18 = .ok (.iload_n 2, 1) := by decide +kernel
theorem d_MO_isDrawn_19 : decode prog_14_method_72_code 19 = .ok (.iconst 0, 1) := by decide +kernel
theorem d_MO_isDrawn_20 : decode prog_14_method_72_code 20 = .ok (.bipush 100, 2) := by decide +kernel
theorem d_MO_isDrawn_22 : decode prog_14_method_72_code 22 = .ok (.invokestatic 93, 3) := by decide +kernel
theorem d_MO_isDrawn_25 : decode prog_14_method_72_code 25 = .ok (.ifCond .eq 7, 3) := by decide +kernel
theorem d_MO_isDrawn_28 : decode prog_14_method_72_code 28 = .ok (.iconst 1, 1) := by decide +kernel
theorem d_MO_isDrawn_29 : decode prog_14_method_72_code 29 = .ok (.goto 4, 3) := by decide +kernel
theorem d_MO_isDrawn_32 : decode prog_14_method_72_code 32 = .ok (.iconst 0, 1) := by decide +kernel
theorem d_MO_isDrawn_33 : decode prog_14_method_72_code 33 = .ok (.ireturn, 1) := by decide +kernel
def p_MO_isDrawn (Q : Int32 → AH → Prop) (x0 : Int32) (x1 : Int32) (x2 : Int32) (h : AH) : Prop := p_MO_in (fun r2 h1 => ((r2 = 0 → Q 0 h1) ∧ (¬ r2 = 0 → p_MO_isMany (fun r4 h3 => ((r4 = 0 → Q 0 h3) ∧ (¬ r4 = 0 → p_MO_in (fun r6 h5 => ((r6 = 0 → Q 0 h5) ∧ (¬ r6 = 0 → Q 1 h5))) x2 0 100 h3))) x1 h1))) x0 0 99999 h
set_option maxRecDepth 20000 in
theorem r_MO_isDrawn_0 {G : GG} {d : Nat} {Q : Int32 → AH → Prop} (x0 : Int32) (x1 : Int32) (x2 : Int32) (h : AH) (H : p_MO_isDrawn Q x0 x1 x2 h) : Att G T1 m_MO_isDrawn (d + 2) 0 [some (.int x0), some (.int x1), some (.int x2)] [] h 0 0 (iQ Q) := by
  refine A_iload_n d_MO_isDrawn_0 rfl ?_
  refine A_iconst 0 (by decide) d_MO_isDrawn_1 ?_
  refine A_ldcw 99999 d_MO_isDrawn_2 (tG 1235 (by decide +kernel) (by decide +kernel)) ?_
  refine A_cI [.int x0, .int 0, .int 99999] [] (ct_MO_93 rfl) d_MO_isDrawn_5 rfl rfl (by decide) (Nat.le_of_ble_eq_true rfl) trivial (ok_MO_in (d := d + 1) H) (fun r2 h1 H => ?_)
  refine A_if_eq 32 d_MO_isDrawn_8 (by decide) (fun z => ?_) (fun z => ?_)
  · have H := H.1 z
    refine A_iconst 0 (by decide) d_MO_isDrawn_32 ?_
    exact A_iret d_MO_isDrawn_33 rfl rfl H
  · have H := H.2 z
    refine A_iload_n d_MO_isDrawn_11 rfl ?_
    refine A_cI [.int x1] [] (ct_MO_185 rfl) d_MO_isDrawn_12 rfl rfl (by decide) (Nat.le_of_ble_eq_true rfl) trivial (ok_MO_isMany (d := d) H) (fun r4 h3 H => ?_)
    refine A_if_eq 32 d_MO_isDrawn_15 (by decide) (fun z => ?_) (fun z => ?_)
    · have H := H.1 z
      refine A_iconst 0 (by decide) d_MO_isDrawn_32 ?_
      exact A_iret d_MO_isDrawn_33 rfl rfl H
    · have H := H.2 z
      refine A_iload_n d_MO_isDrawn_18 rfl ?_
      refine A_iconst 0 (by decide) d_MO_isDrawn_19 ?_
      refine A_bipush 100 (by decide) d_MO_isDrawn_20 ?_
      refine A_cI [.int x2, .int 0, .int 100] [] (ct_MO_93 rfl) d_MO_isDrawn_22 rfl rfl (by decide) (Nat.le_of_ble_eq_true rfl) trivial (ok_MO_in (d := d + 1) H) (fun r6 h5 H => ?_)
      refine A_if_eq 32 d_MO_isDrawn_25 (by decide) (fun z => ?_) (fun z => ?_)
      · have H := H.1 z
        refine A_iconst 0 (by decide) d_MO_isDrawn_32 ?_
        exact A_iret d_MO_isDrawn_33 rfl rfl H
      · have H := H.2 z
        refine A_iconst 1 (by decide) d_MO_isDrawn_28 ?_
        refine A_goto 33 d_MO_isDrawn_29 (by decide) ?_
        exact A_iret d_MO_isDrawn_33 rfl rfl H
set_option maxRecDepth 20000 in
theorem ok_MO_isDrawn {G : GG} {d : Nat} {Q : Int32 → AH → Prop} {x0 : Int32} {x1 : Int32} {x2 : Int32} {h : AH} (H : p_MO_isDrawn Q x0 x1 x2 h) : WP G T1 m_MO_isDrawn (d + 2) [.int x0, .int x1, .int x2] h 0 0 (iQ Q) := by
  exact WP.enter 0 (by decide) rfl rfl (r_MO_isDrawn_0 x0 x1 x2 h H)
theorem d_MO_housesBy_0 : decode prog_14_method_81_code 0 = .ok (.iload_n 1, 1) := by decide +kernel
theorem d_MO_housesBy_1 : decode prog_14_method_81_code 1 = .ok (.iconst 0, 1) := by decide +kernel
theorem d_MO_housesBy_2 : decode prog_14_method_81_code 2 = .ok (.iconst 3, 1) := by decide +kernel
theorem d_MO_housesBy_3 : decode prog_14_method_81_code 3 = .ok (.invokestatic 93, 3) := by decide +kernel
theorem d_MO_housesBy_6 : decode prog_14_method_81_code 6 = .ok (.ifCond .eq 23, 3) := by decide +kernel
theorem d_MO_housesBy_9 : decode prog_14_method_81_code 9 = .ok (.iload_n 2, 1) := by decide +kernel
theorem d_MO_housesBy_10 : decode prog_14_method_81_code 10 = .ok (.iconst 0, 1) := by decide +kernel
theorem d_MO_housesBy_11 : decode prog_14_method_81_code 11 = .ok (.iconst 2, 1) := by decide +kernel
theorem d_MO_housesBy_12 : decode prog_14_method_81_code 12 = .ok (.invokestatic 93, 3) := by decide +kernel
theorem d_MO_housesBy_15 : decode prog_14_method_81_code 15 = .ok (.ifCond .eq 14, 3) := by decide +kernel
theorem d_MO_housesBy_18 : decode prog_14_method_81_code 18 = .ok (.iload 4, 2) := by decide +kernel
theorem d_MO_housesBy_20 : decode prog_14_method_81_code 20 = .ok (.iconst 0, 1) := by decide +kernel
theorem d_MO_housesBy_21 : decode prog_14_method_81_code 21 = .ok (.bipush 7, 2) := by decide +kernel
theorem d_MO_housesBy_23 : decode prog_14_method_81_code 23 = .ok (.invokestatic 93, 3) := by decide +kernel
theorem d_MO_housesBy_26 : decode prog_14_method_81_code 26 = .ok (.ifCond .ne 6, 3) := by decide +kernel
theorem d_MO_housesBy_29 : decode prog_14_method_81_code 29 = .ok (.bipush (-2), 2) := by decide +kernel
theorem d_MO_housesBy_31 : decode prog_14_method_81_code 31 = .ok (.ireturn, 1) := by decide +kernel
theorem d_MO_housesBy_32 : decode prog_14_method_81_code 32 = .ok (.aload_n 0, 1) := by decide +kernel
theorem d_MO_housesBy_33 : decode prog_14_method_81_code 33 = .ok (.getfield 40, 3) := by decide +kernel
theorem d_MO_housesBy_36 : decode prog_14_method_81_code 36 = .ok (.iload_n 1, 1) := by decide +kernel
theorem d_MO_housesBy_37 : decode prog_14_method_81_code 37 = .ok (.iaload, 1) := by decide +kernel
theorem d_MO_housesBy_38 : decode prog_14_method_81_code 38 = .ok (.iconst (-1), 1) := by decide +kernel
theorem d_MO_housesBy_39 : decode prog_14_method_81_code 39 = .ok (.if_icmp .ne 6, 3) := by decide +kernel
theorem d_MO_housesBy_42 : decode prog_14_method_81_code 42 = .ok (.bipush (-11), 2) := by decide +kernel
theorem d_MO_housesBy_44 : decode prog_14_method_81_code 44 = .ok (.ireturn, 1) := by decide +kernel
theorem d_MO_housesBy_45 : decode prog_14_method_81_code 45 = .ok (.aload_n 0, 1) := by decide +kernel
theorem d_MO_housesBy_46 : decode prog_14_method_81_code 46 = .ok (.getfield 40, 3) := by decide +kernel
theorem d_MO_housesBy_49 : decode prog_14_method_81_code 49 = .ok (.iload_n 1, 1) := by decide +kernel
theorem d_MO_housesBy_50 : decode prog_14_method_81_code 50 = .ok (.iaload, 1) := by decide +kernel
theorem d_MO_housesBy_51 : decode prog_14_method_81_code 51 = .ok (.iload_n 2, 1) := by decide +kernel
theorem d_MO_housesBy_52 : decode prog_14_method_81_code 52 = .ok (.if_icmp .eq 6, 3) := by decide +kernel
theorem d_MO_housesBy_55 : decode prog_14_method_81_code 55 = .ok (.bipush (-13), 2) := by decide +kernel
theorem d_MO_housesBy_57 : decode prog_14_method_81_code 57 = .ok (.ireturn, 1) := by decide +kernel
theorem d_MO_housesBy_58 : decode prog_14_method_81_code 58 = .ok (.iconst 0, 1) := by decide +kernel
theorem d_MO_housesBy_59 : decode prog_14_method_81_code 59 = .ok (.istore 5, 2) := by decide +kernel
theorem d_MO_housesBy_61 : decode prog_14_method_81_code 61 = .ok (.iconst 0, 1) := by decide +kernel
theorem d_MO_housesBy_62 : decode prog_14_method_81_code 62 = .ok (.istore 6, 2) := by decide +kernel
theorem d_MO_housesBy_64 : decode prog_14_method_81_code 64 = .ok (.iload 6, 2) := by decide +kernel
theorem d_MO_housesBy_66 : decode prog_14_method_81_code 66 = .ok (.iload 4, 2) := by decide +kernel
theorem d_MO_housesBy_68 : decode prog_14_method_81_code 68 = .ok (.if_icmp .ge 94, 3) := by decide +kernel
theorem d_MO_housesBy_71 : decode prog_14_method_81_code 71 = .ok (.iload_n 3, 1) := by decide +kernel
theorem d_MO_housesBy_72 : decode prog_14_method_81_code 72 = .ok (.iconst 3, 1) := by decide +kernel
theorem d_MO_housesBy_73 : decode prog_14_method_81_code 73 = .ok (.iload 6, 2) := by decide +kernel
theorem d_MO_housesBy_75 : decode prog_14_method_81_code 75 = .ok (.imul, 1) := by decide +kernel
theorem d_MO_housesBy_76 : decode prog_14_method_81_code 76 = .ok (.iadd, 1) := by decide +kernel
theorem d_MO_housesBy_77 : decode prog_14_method_81_code 77 = .ok (.istore 7, 2) := by decide +kernel
theorem d_MO_housesBy_79 : decode prog_14_method_81_code 79 = .ok (.iload_n 3, 1) := by decide +kernel
theorem d_MO_housesBy_80 : decode prog_14_method_81_code 80 = .ok (.ifCond .lt 22, 3) := by decide +kernel
theorem d_MO_housesBy_83 : decode prog_14_method_81_code 83 = .ok (.iload 7, 2) := by decide +kernel
theorem d_MO_housesBy_85 : decode prog_14_method_81_code 85 = .ok (.iload_n 3, 1) := by decide +kernel
theorem d_MO_housesBy_86 : decode prog_14_method_81_code 86 = .ok (.if_icmp .lt 16, 3) := by decide +kernel
theorem d_MO_housesBy_89 : decode prog_14_method_81_code 89 = .ok (.iload 7, 2) := by decide +kernel
theorem d_MO_housesBy_91 : decode prog_14_method_81_code 91 = .ok (.aload_n 0, 1) := by decide +kernel
theorem d_MO_housesBy_92 : decode prog_14_method_81_code 92 = .ok (.getfield 43, 3) := by decide +kernel
theorem d_MO_housesBy_95 : decode prog_14_method_81_code 95 = .ok (.iload_n 1, 1) := by decide +kernel
theorem d_MO_housesBy_96 : decode prog_14_method_81_code 96 = .ok (.iaload, 1) := by decide +kernel
theorem d_MO_housesBy_97 : decode prog_14_method_81_code 97 = .ok (.iconst 3, 1) := by decide +kernel
theorem d_MO_housesBy_98 : decode prog_14_method_81_code 98 = .ok (.isub, 1) := by decide +kernel
theorem d_MO_housesBy_99 : decode prog_14_method_81_code 99 = .ok (.if_icmp .le 6, 3) := by decide +kernel
theorem d_MO_housesBy_102 : decode prog_14_method_81_code 102 = .ok (.bipush (-12), 2) := by decide +kernel
theorem d_MO_housesBy_104 : decode prog_14_method_81_code 104 = .ok (.ireturn, 1) := by decide +kernel
theorem d_MO_housesBy_105 : decode prog_14_method_81_code 105 = .ok (.bipush 40, 2) := by decide +kernel
theorem d_MO_housesBy_107 : decode prog_14_method_81_code 107 = .ok (.iload_n 1, 1) := by decide +kernel
theorem d_MO_housesBy_108 : decode prog_14_method_81_code 108 = .ok (.imul, 1) := by decide +kernel
theorem d_MO_housesBy_109 : decode prog_14_method_81_code 109 = .ok (.iload 7, 2) := by decide +kernel
theorem d_MO_housesBy_111 : decode prog_14_method_81_code 111 = .ok (.iadd, 1) := by decide +kernel
theorem d_MO_housesBy_112 : decode prog_14_method_81_code 112 = .ok (.istore 8, 2) := by decide +kernel
theorem d_MO_housesBy_114 : decode prog_14_method_81_code 114 = .ok (.iload 5, 2) := by decide +kernel
theorem d_MO_housesBy_116 : decode prog_14_method_81_code 116 = .ok (.aload_n 0, 1) := by decide +kernel
theorem d_MO_housesBy_117 : decode prog_14_method_81_code 117 = .ok (.aload_n 0, 1) := by decide +kernel
theorem d_MO_housesBy_118 : decode prog_14_method_81_code 118 = .ok (.getfield 46, 3) := by decide +kernel
theorem d_MO_housesBy_121 : decode prog_14_method_81_code 121 = .ok (.iload 8, 2) := by decide +kernel
theorem d_MO_housesBy_123 : decode prog_14_method_81_code 123 = .ok (.iaload, 1) := by decide +kernel
theorem d_MO_housesBy_124 : decode prog_14_method_81_code 124 = .ok (.aload_n 0, 1) := by decide +kernel
theorem d_MO_housesBy_125 : decode prog_14_method_81_code 125 = .ok (.getfield 46, 3) := by decide +kernel
theorem d_MO_housesBy_128 : decode prog_14_method_81_code 128 = .ok (.iload 8, 2) := by decide +kernel
theorem d_MO_housesBy_130 : decode prog_14_method_81_code 130 = .ok (.iconst 1, 1) := by decide +kernel
theorem d_MO_housesBy_131 : decode prog_14_method_81_code 131 = .ok (.iadd, 1) := by decide +kernel
theorem d_MO_housesBy_132 : decode prog_14_method_81_code 132 = .ok (.iaload, 1) := by decide +kernel
theorem d_MO_housesBy_133 : decode prog_14_method_81_code 133 = .ok (.aload_n 0, 1) := by decide +kernel
theorem d_MO_housesBy_134 : decode prog_14_method_81_code 134 = .ok (.getfield 46, 3) := by decide +kernel
theorem d_MO_housesBy_137 : decode prog_14_method_81_code 137 = .ok (.iload 8, 2) := by decide +kernel
theorem d_MO_housesBy_139 : decode prog_14_method_81_code 139 = .ok (.iconst 2, 1) := by decide +kernel
theorem d_MO_housesBy_140 : decode prog_14_method_81_code 140 = .ok (.iadd, 1) := by decide +kernel
theorem d_MO_housesBy_141 : decode prog_14_method_81_code 141 = .ok (.iaload, 1) := by decide +kernel
theorem d_MO_housesBy_142 : decode prog_14_method_81_code 142 = .ok (.invokevirtual 296, 3) := by decide +kernel
theorem d_MO_housesBy_145 : decode prog_14_method_81_code 145 = .ok (.ifCond .lt 7, 3) := by decide +kernel
theorem d_MO_housesBy_148 : decode prog_14_method_81_code 148 = .ok (.iconst 1, 1) := by decide +kernel
theorem d_MO_housesBy_149 : decode prog_14_method_81_code 149 = .ok (.goto 4, 3) := by decide +kernel
theorem d_MO_housesBy_152 : decode prog_14_method_81_code 152 = .ok (.iconst 0, 1) := by decide +kernel
theorem d_MO_housesBy_153 : decode prog_14_method_81_code 153 = .ok (.iadd, 1) := by decide +kernel
theorem d_MO_housesBy_154 : decode prog_14_method_81_code 154 = .ok (.istore 5, 2) := by decide +kernel
theorem d_MO_housesBy_156 : decode prog_14_method_81_code 156 = .ok (.iinc 6 1, 3) := by decide +kernel
theorem d_MO_housesBy_159 : decode prog_14_method_81_code 159 = .ok (.goto (-95), 3) := by decide +kernel
theorem d_MO_housesBy_162 : decode prog_14_method_81_code 162 = .ok (.iload 5, 2) := by decide +kernel
theorem d_MO_housesBy_164 : decode prog_14_method_81_code 164 = .ok (.ireturn, 1) := by decide +kernel
def p_MO_housesBy_153 (Q : Int32 → AH → Prop) (K64 : Int32 → Int32 → Int32 → Int32 → Int32 → AH → Prop) (x1 : Int32) (x3 : Int32) (x4 : Int32) (x6 : Int32) (s0 : Int32) (s1 : Int32) (h : AH) : Prop := K64 x1 x3 x4 (s0 + s1) (x6 + 1) h
def p_MO_housesBy_64 (Q : Int32 → AH → Prop) : Nat → Int32 → Int32 → Int32 → Int32 → Int32 → AH → Prop
  | 0 => fun _ _ _ _ _ _ => False
  | n + 1 => fun x1 x3 x4 x5 x6 h => let K64 := p_MO_housesBy_64 Q n; ((x4 ≤ x6 → Q x5 h) ∧ (¬ x4 ≤ x6 → ((x3 < 0 → Q (-12) h) ∧ (¬ x3 < 0 → (((x3 + (3 * x6)) < x3 → Q (-12) h) ∧ (¬ (x3 + (3 * x6)) < x3 → inb x1 4 ∧ (((x3 + (3 * x6)) ≤ ((h.1 71 x1) - 3) → inb ((40 * x1) + (x3 + (3 * x6))) 160 ∧ inb (((40 * x1) + (x3 + (3 * x6))) + 1) 160 ∧ inb (((40 * x1) + (x3 + (3 * x6))) + 2) 160 ∧ p_MO_house (fun r6 h5 => ((r6 < 0 → p_MO_housesBy_153 Q  K64 x1 x3 x4 x6 x5 0 h5) ∧ (¬ r6 < 0 → p_MO_housesBy_153 Q  K64 x1 x3 x4 x6 x5 1 h5))) (h.1 72 ((40 * x1) + (x3 + (3 * x6)))) (h.1 72 (((40 * x1) + (x3 + (3 * x6))) + 1)) (h.1 72 (((40 * x1) + (x3 + (3 * x6))) + 2)) h) ∧ (¬ (x3 + (3 * x6)) ≤ ((h.1 71 x1) - 3) → Q (-12) h))))))))
def p_MO_housesBy (Q : Int32 → AH → Prop) (x1 : Int32) (x2 : Int32) (x3 : Int32) (x4 : Int32) (h : AH) : Prop := p_MO_in (fun r2 h1 => ((r2 = 0 → Q (-2) h1) ∧ (¬ r2 = 0 → p_MO_in (fun r4 h3 => ((r4 = 0 → Q (-2) h3) ∧ (¬ r4 = 0 → p_MO_in (fun r6 h5 => ((¬ r6 = 0 → inb x1 4 ∧ ((¬ (h5.1 70 x1) = (-1) → (((h5.1 70 x1) = x2 → ∃ n, p_MO_housesBy_64 Q   n x1 x3 x4 0 0 h5) ∧ (¬ (h5.1 70 x1) = x2 → Q (-13) h5))) ∧ ((h5.1 70 x1) = (-1) → Q (-11) h5))) ∧ (r6 = 0 → Q (-2) h5))) x4 0 7 h3))) x2 0 2 h1))) x1 0 3 h
set_option maxRecDepth 20000 in
theorem r_MO_housesBy_153 {G : GG} {d : Nat} {Q : Int32 → AH → Prop} {K64 : Int32 → Int32 → Int32 → Int32 → Int32 → AH → Prop} (k64 : ∀ x1 x3 x4 x5 x6 h, K64 x1 x3 x4 x5 x6 h → Att G T1 m_MO_housesBy (d + 2) 64 [some (.ref 59), some (.int x1), none, some (.int x3), some (.int x4), some (.int x5), some (.int x6), none, none] [] h 0 0 (iQ Q)) (x1 : Int32) (x3 : Int32) (x4 : Int32) (x6 : Int32) (s0 : Int32) (s1 : Int32) (h : AH) (H : p_MO_housesBy_153 Q K64 x1 x3 x4 x6 s0 s1 h) : Att G T1 m_MO_housesBy (d + 2) 153 [some (.ref 59), some (.int x1), none, some (.int x3), some (.int x4), none, some (.int x6), none, none] [.int s1, .int s0] h 0 0 (iQ Q) := by
  refine A_iadd d_MO_housesBy_153 ?_
  refine A_istore [some (.ref 59), some (.int x1), none, some (.int x3), some (.int x4), some (.int (s0 + s1)), some (.int x6), none, none] d_MO_housesBy_154 (by decide) rfl rfl ?_
  refine A_iinc 1 [some (.ref 59), some (.int x1), none, some (.int x3), some (.int x4), some (.int (s0 + s1)), some (.int (x6 + 1)), none, none] d_MO_housesBy_156 rfl (by decide) (by decide) rfl rfl ?_
  refine A_goto 64 d_MO_housesBy_159 (by decide) ?_
  exact k64 _ _ _ _ _ _ H
set_option maxRecDepth 20000 in
theorem r_MO_housesBy_64 {G : GG} {d : Nat} {Q : Int32 → AH → Prop} : ∀ (n : Nat) (x1 : Int32) (x3 : Int32) (x4 : Int32) (x5 : Int32) (x6 : Int32) (h : AH), p_MO_housesBy_64 Q n x1 x3 x4 x5 x6 h → Att G T1 m_MO_housesBy (d + 2) 64 [some (.ref 59), some (.int x1), none, some (.int x3), some (.int x4), some (.int x5), some (.int x6), none, none] [] h 0 0 (iQ Q) := by
  intro n
  induction n with
  | zero => intro x1 x3 x4 x5 x6 h H; exact H.elim
  | succ n k64 =>
    intro x1 x3 x4 x5 x6 h H
    refine A_iload d_MO_housesBy_64 rfl ?_
    refine A_iload d_MO_housesBy_66 rfl ?_
    refine A_icmp_ge 162 d_MO_housesBy_68 (by decide) (fun z => ?_) (fun z => ?_)
    · have H := H.1 z
      refine A_iload d_MO_housesBy_162 rfl ?_
      exact A_iret d_MO_housesBy_164 rfl rfl H
    · have H := H.2 z
      refine A_iload_n d_MO_housesBy_71 rfl ?_
      refine A_iconst 3 (by decide) d_MO_housesBy_72 ?_
      refine A_iload d_MO_housesBy_73 rfl ?_
      refine A_imul d_MO_housesBy_75 ?_
      refine A_iadd d_MO_housesBy_76 ?_
      refine A_istore [some (.ref 59), some (.int x1), none, some (.int x3), some (.int x4), some (.int x5), some (.int x6), some (.int (x3 + (3 * x6))), none] d_MO_housesBy_77 (by decide) rfl rfl ?_
      refine A_iload_n d_MO_housesBy_79 rfl ?_
      refine A_if_lt 102 d_MO_housesBy_80 (by decide) (fun z => ?_) (fun z => ?_)
      · have H := H.1 z
        refine A_bipush (-12) (by decide) d_MO_housesBy_102 ?_
        exact A_iret d_MO_housesBy_104 rfl rfl H
      · have H := H.2 z
        refine A_iload d_MO_housesBy_83 rfl ?_
        refine A_iload_n d_MO_housesBy_85 rfl ?_
        refine A_icmp_lt 102 d_MO_housesBy_86 (by decide) (fun z => ?_) (fun z => ?_)
        · have H := H.1 z
          refine A_bipush (-12) (by decide) d_MO_housesBy_102 ?_
          exact A_iret d_MO_housesBy_104 rfl rfl H
        · have H := H.2 z
          refine A_iload d_MO_housesBy_89 rfl ?_
          refine A_aload_n d_MO_housesBy_91 rfl ?_
          refine A_get (v := .ref 71) d_MO_housesBy_92 (fo_MO_43_12 rfl) (vA_s (by decide)) rfl rfl ?_
          refine A_iload_n d_MO_housesBy_95 rfl ?_
          obtain ⟨c1, H⟩ := H
          refine A_iald (n := 4) d_MO_housesBy_96 (vA_s (by decide)) rfl c1 ?_
          refine A_iconst 3 (by decide) d_MO_housesBy_97 ?_
          refine A_isub d_MO_housesBy_98 ?_
          refine A_icmp_le 105 d_MO_housesBy_99 (by decide) (fun z => ?_) (fun z => ?_)
          · have H := H.1 z
            refine A_bipush 40 (by decide) d_MO_housesBy_105 ?_
            refine A_iload_n d_MO_housesBy_107 rfl ?_
            refine A_imul d_MO_housesBy_108 ?_
            refine A_iload d_MO_housesBy_109 rfl ?_
            refine A_iadd d_MO_housesBy_111 ?_
            refine A_istore [some (.ref 59), some (.int x1), none, some (.int x3), some (.int x4), some (.int x5), some (.int x6), some (.int (x3 + (3 * x6))), some (.int ((40 * x1) + (x3 + (3 * x6))))] d_MO_housesBy_112 (by decide) rfl rfl ?_
            refine A_iload d_MO_housesBy_114 rfl ?_
            refine A_aload_n d_MO_housesBy_116 rfl ?_
            refine A_aload_n d_MO_housesBy_117 rfl ?_
            refine A_get (v := .ref 72) d_MO_housesBy_118 (fo_MO_46_12 rfl) (vA_s (by decide)) rfl rfl ?_
            refine A_iload d_MO_housesBy_121 rfl ?_
            obtain ⟨c2, H⟩ := H
            refine A_iald (n := 160) d_MO_housesBy_123 (vA_s (by decide)) rfl c2 ?_
            refine A_aload_n d_MO_housesBy_124 rfl ?_
            refine A_get (v := .ref 72) d_MO_housesBy_125 (fo_MO_46_12 rfl) (vA_s (by decide)) rfl rfl ?_
            refine A_iload d_MO_housesBy_128 rfl ?_
            refine A_iconst 1 (by decide) d_MO_housesBy_130 ?_
            refine A_iadd d_MO_housesBy_131 ?_
            obtain ⟨c3, H⟩ := H
            refine A_iald (n := 160) d_MO_housesBy_132 (vA_s (by decide)) rfl c3 ?_
            refine A_aload_n d_MO_housesBy_133 rfl ?_
            refine A_get (v := .ref 72) d_MO_housesBy_134 (fo_MO_46_12 rfl) (vA_s (by decide)) rfl rfl ?_
            refine A_iload d_MO_housesBy_137 rfl ?_
            refine A_iconst 2 (by decide) d_MO_housesBy_139 ?_
            refine A_iadd d_MO_housesBy_140 ?_
            obtain ⟨c4, H⟩ := H
            refine A_iald (n := 160) d_MO_housesBy_141 (vA_s (by decide)) rfl c4 ?_
            refine A_cI [.ref 59, .int (h.1 72 ((40 * x1) + (x3 + (3 * x6)))), .int (h.1 72 (((40 * x1) + (x3 + (3 * x6))) + 1)), .int (h.1 72 (((40 * x1) + (x3 + (3 * x6))) + 2))] [.int x5] (ct_MO_296 rfl) d_MO_housesBy_142 rfl rfl (by decide) (Nat.le_of_ble_eq_true rfl) (rcA_o (c := 12) rfl (vA_s (by decide)) rfl (by decide) rfl) (ok_MO_house (d := d) H) (fun r6 h5 H => ?_)
            refine A_if_lt 152 d_MO_housesBy_145 (by decide) (fun z => ?_) (fun z => ?_)
            · have H := H.1 z
              refine A_iconst 0 (by decide) d_MO_housesBy_152 ?_
              refine A_sub (L' := [some (.ref 59), some (.int x1), none, some (.int x3), some (.int x4), none, some (.int x6), none, none]) ⟨rfl, rfl, rfl, rfl, rfl, trivial⟩ ?_
              exact r_MO_housesBy_153  k64 _ _ _ _ _ _ _ H
            · have H := H.2 z
              refine A_iconst 1 (by decide) d_MO_housesBy_148 ?_
              refine A_goto 153 d_MO_housesBy_149 (by decide) ?_
              refine A_sub (L' := [some (.ref 59), some (.int x1), none, some (.int x3), some (.int x4), none, some (.int x6), none, none]) ⟨rfl, rfl, rfl, rfl, rfl, trivial⟩ ?_
              exact r_MO_housesBy_153  k64 _ _ _ _ _ _ _ H
          · have H := H.2 z
            refine A_bipush (-12) (by decide) d_MO_housesBy_102 ?_
            exact A_iret d_MO_housesBy_104 rfl rfl H
set_option maxRecDepth 20000 in
theorem r_MO_housesBy_0 {G : GG} {d : Nat} {Q : Int32 → AH → Prop} (x1 : Int32) (x2 : Int32) (x3 : Int32) (x4 : Int32) (h : AH) (H : p_MO_housesBy Q x1 x2 x3 x4 h) : Att G T1 m_MO_housesBy (d + 2) 0 [some (.ref 59), some (.int x1), some (.int x2), some (.int x3), some (.int x4), none, none, none, none] [] h 0 0 (iQ Q) := by
  refine A_iload_n d_MO_housesBy_0 rfl ?_
  refine A_iconst 0 (by decide) d_MO_housesBy_1 ?_
  refine A_iconst 3 (by decide) d_MO_housesBy_2 ?_
  refine A_cI [.int x1, .int 0, .int 3] [] (ct_MO_93 rfl) d_MO_housesBy_3 rfl rfl (by decide) (Nat.le_of_ble_eq_true rfl) trivial (ok_MO_in (d := d + 1) H) (fun r2 h1 H => ?_)
  refine A_if_eq 29 d_MO_housesBy_6 (by decide) (fun z => ?_) (fun z => ?_)
  · have H := H.1 z
    refine A_bipush (-2) (by decide) d_MO_housesBy_29 ?_
    exact A_iret d_MO_housesBy_31 rfl rfl H
  · have H := H.2 z
    refine A_iload_n d_MO_housesBy_9 rfl ?_
    refine A_iconst 0 (by decide) d_MO_housesBy_10 ?_
    refine A_iconst 2 (by decide) d_MO_housesBy_11 ?_
    refine A_cI [.int x2, .int 0, .int 2] [] (ct_MO_93 rfl) d_MO_housesBy_12 rfl rfl (by decide) (Nat.le_of_ble_eq_true rfl) trivial (ok_MO_in (d := d + 1) H) (fun r4 h3 H => ?_)
    refine A_if_eq 29 d_MO_housesBy_15 (by decide) (fun z => ?_) (fun z => ?_)
    · have H := H.1 z
      refine A_bipush (-2) (by decide) d_MO_housesBy_29 ?_
      exact A_iret d_MO_housesBy_31 rfl rfl H
    · have H := H.2 z
      refine A_iload d_MO_housesBy_18 rfl ?_
      refine A_iconst 0 (by decide) d_MO_housesBy_20 ?_
      refine A_bipush 7 (by decide) d_MO_housesBy_21 ?_
      refine A_cI [.int x4, .int 0, .int 7] [] (ct_MO_93 rfl) d_MO_housesBy_23 rfl rfl (by decide) (Nat.le_of_ble_eq_true rfl) trivial (ok_MO_in (d := d + 1) H) (fun r6 h5 H => ?_)
      refine A_if_ne 32 d_MO_housesBy_26 (by decide) (fun z => ?_) (fun z => ?_)
      · have H := H.1 z
        refine A_aload_n d_MO_housesBy_32 rfl ?_
        refine A_get (v := .ref 70) d_MO_housesBy_33 (fo_MO_40_12 rfl) (vA_s (by decide)) rfl rfl ?_
        refine A_iload_n d_MO_housesBy_36 rfl ?_
        obtain ⟨c7, H⟩ := H
        refine A_iald (n := 4) d_MO_housesBy_37 (vA_s (by decide)) rfl c7 ?_
        refine A_iconst (-1) (by decide) d_MO_housesBy_38 ?_
        refine A_icmp_ne 45 d_MO_housesBy_39 (by decide) (fun z => ?_) (fun z => ?_)
        · have H := H.1 z
          refine A_aload_n d_MO_housesBy_45 rfl ?_
          refine A_get (v := .ref 70) d_MO_housesBy_46 (fo_MO_40_12 rfl) (vA_s (by decide)) rfl rfl ?_
          refine A_iload_n d_MO_housesBy_49 rfl ?_
          refine A_iald (n := 4) d_MO_housesBy_50 (vA_s (by decide)) rfl c7 ?_
          refine A_iload_n d_MO_housesBy_51 rfl ?_
          refine A_icmp_eq 58 d_MO_housesBy_52 (by decide) (fun z => ?_) (fun z => ?_)
          · have H := H.1 z
            refine A_iconst 0 (by decide) d_MO_housesBy_58 ?_
            refine A_istore [some (.ref 59), some (.int x1), some (.int x2), some (.int x3), some (.int x4), some (.int 0), none, none, none] d_MO_housesBy_59 (by decide) rfl rfl ?_
            refine A_iconst 0 (by decide) d_MO_housesBy_61 ?_
            refine A_istore [some (.ref 59), some (.int x1), some (.int x2), some (.int x3), some (.int x4), some (.int 0), some (.int 0), none, none] d_MO_housesBy_62 (by decide) rfl rfl ?_
            refine A_sub (L' := [some (.ref 59), some (.int x1), none, some (.int x3), some (.int x4), some (.int 0), some (.int 0), none, none]) ⟨rfl, rfl, rfl, rfl, rfl, rfl, trivial⟩ ?_
            obtain ⟨n9, H⟩ := H
            exact r_MO_housesBy_64   n9 _ _ _ _ _ _ H
          · have H := H.2 z
            refine A_bipush (-13) (by decide) d_MO_housesBy_55 ?_
            exact A_iret d_MO_housesBy_57 rfl rfl H
        · have H := H.2 z
          refine A_bipush (-11) (by decide) d_MO_housesBy_42 ?_
          exact A_iret d_MO_housesBy_44 rfl rfl H
      · have H := H.2 z
        refine A_bipush (-2) (by decide) d_MO_housesBy_29 ?_
        exact A_iret d_MO_housesBy_31 rfl rfl H
set_option maxRecDepth 20000 in
theorem ok_MO_housesBy {G : GG} {d : Nat} {Q : Int32 → AH → Prop} {x1 : Int32} {x2 : Int32} {x3 : Int32} {x4 : Int32} {h : AH} (H : p_MO_housesBy Q x1 x2 x3 x4 h) : WP G T1 m_MO_housesBy (d + 2) [.ref 59, .int x1, .int x2, .int x3, .int x4] h 0 0 (iQ Q) := by
  exact WP.enter 4 (by decide) rfl rfl (r_MO_housesBy_0 x1 x2 x3 x4 h H)
theorem d_UF_ready_0 : decode prog_1_method_47_code 0 = .ok (.aload_n 0, 1) := by decide +kernel
theorem d_UF_ready_1 : decode prog_1_method_47_code 1 = .ok (.getfield 44, 3) := by decide +kernel
theorem d_UF_ready_4 : decode prog_1_method_47_code 4 = .ok (.aload_n 0, 1) := by decide +kernel
theorem d_UF_ready_5 : decode prog_1_method_47_code 5 = .ok (.getfield 34, 3) := by decide +kernel
theorem d_UF_ready_8 : decode prog_1_method_47_code 8 = .ok (.aload_n 0, 1) := by decide +kernel
theorem d_UF_ready_9 : decode prog_1_method_47_code 9 = .ok (.getfield 11, 3) := by decide +kernel
theorem d_UF_ready_12 : decode prog_1_method_47_code 12 = .ok (.aload_n 0, 1) := by decide +kernel
theorem d_UF_ready_13 : decode prog_1_method_47_code 13 = .ok (.getfield 17, 3) := by decide +kernel
theorem d_UF_ready_16 : decode prog_1_method_47_code 16 = .ok (.aload_n 0, 1) := by decide +kernel
theorem d_UF_ready_17 : decode prog_1_method_47_code 17 = .ok (.getfield 34, 3) := by decide +kernel
theorem d_UF_ready_20 : decode prog_1_method_47_code 20 = .ok (.getfield 89, 3) := by decide +kernel
theorem d_UF_ready_23 : decode prog_1_method_47_code 23 = .ok (.aaload, 1) := by decide +kernel
theorem d_UF_ready_24 : decode prog_1_method_47_code 24 = .ok (.invokevirtual 278, 3) := by decide +kernel
theorem d_UF_ready_27 : decode prog_1_method_47_code 27 = .ok (.return_, 1) := by decide +kernel
def p_UF_ready (Q : AH → Prop) (h : AH) : Prop := inb (h.1 5 4) 6 ∧ 0 < rR T1 h 2 (h.1 5 4).toNatClampNeg ∧ p_Dusk_begin (fun h3 => Q h3) 5 1 (rR T1 h 2 (h.1 5 4).toNatClampNeg - 1) h
set_option maxRecDepth 20000 in
theorem r_UF_ready_0 {G : GG} {d : Nat} {Q : AH → Prop} (h : AH) (H : p_UF_ready Q h) : Att G T1 m_UF_ready (d + 3) 0 [some (.ref 0)] [] h 0 0 (vQ Q) := by
  refine A_aload_n d_UF_ready_0 rfl ?_
  refine A_get (v := .ref 13) d_UF_ready_1 (fo_UF_44_11 rfl) (vA_s (by decide)) rfl rfl ?_
  refine A_aload_n d_UF_ready_4 rfl ?_
  refine A_get (v := .ref 5) d_UF_ready_5 (fo_UF_34_11 rfl) (vA_s (by decide)) rfl rfl ?_
  refine A_aload_n d_UF_ready_8 rfl ?_
  refine A_get (v := .ref 1) d_UF_ready_9 (fo_UF_11_11 rfl) (vA_s (by decide)) rfl rfl ?_
  refine A_aload_n d_UF_ready_12 rfl ?_
  refine A_get (v := .ref 2) d_UF_ready_13 (fo_UF_17_11 rfl) (vA_s (by decide)) rfl rfl ?_
  refine A_aload_n d_UF_ready_16 rfl ?_
  refine A_get (v := .ref 5) d_UF_ready_17 (fo_UF_34_11 rfl) (vA_s (by decide)) rfl rfl ?_
  refine A_get (v := .int (h.1 5 4)) d_UF_ready_20 (fo_UF_89_10 rfl) (vA_s (by decide)) rfl rfl ?_
  obtain ⟨c1, H⟩ := H
  obtain ⟨c2, H⟩ := H
  refine A_aald (t := 1) (n := 6) d_UF_ready_23 (by decide) (vA_s (by decide)) rfl c1 (pos_sub c2) ?_
  refine A_cV [.ref 13, .ref 5, .ref 1, .ref (rR T1 h 2 (h.1 5 4).toNatClampNeg - 1)] [] (ct_UF_278 rfl) d_UF_ready_24 rfl rfl (by decide) (Nat.le_of_ble_eq_true rfl) (rcA_o (c := 2) rfl (vA_s (by decide)) rfl (by decide) rfl) (ok_Dusk_begin (d := d) H) (fun h3 H => ?_)
  exact A_ret d_UF_ready_27 rfl H
set_option maxRecDepth 20000 in
theorem ok_UF_ready {G : GG} {d : Nat} {Q : AH → Prop} {h : AH} (H : p_UF_ready Q h) : WP G T1 m_UF_ready (d + 3) [.ref 0] h 0 0 (vQ Q) := by
  exact WP.enter 0 (by decide) rfl rfl (r_UF_ready_0 h H)
theorem d_UF_chain_0 : decode prog_1_method_9_code 0 = .ok (.aload_n 0, 1) := by decide +kernel
theorem d_UF_chain_1 : decode prog_1_method_9_code 1 = .ok (.iload_n 1, 1) := by decide +kernel
theorem d_UF_chain_2 : decode prog_1_method_9_code 2 = .ok (.invokevirtual 107, 3) := by decide +kernel
theorem d_UF_chain_5 : decode prog_1_method_9_code 5 = .ok (.ifCond .eq 11, 3) := by decide +kernel
theorem d_UF_chain_8 : decode prog_1_method_9_code 8 = .ok (.aload_n 0, 1) := by decide +kernel
theorem d_UF_chain_9 : decode prog_1_method_9_code 9 = .ok (.iload_n 2, 1) := by decide +kernel
theorem d_UF_chain_10 : decode prog_1_method_9_code 10 = .ok (.invokevirtual 107, 3) := by decide +kernel
theorem d_UF_chain_13 : decode prog_1_method_9_code 13 = .ok (.ifCond .ne 6, 3) := by decide +kernel
theorem d_UF_chain_16 : decode prog_1_method_9_code 16 = .ok (.bipush (-5), 2) := by decide +kernel
theorem d_UF_chain_18 : decode prog_1_method_9_code 18 = .ok (.ireturn, 1) := by decide +kernel
theorem d_UF_chain_19 : decode prog_1_method_9_code 19 = .ok (.aload_n 0, 1) := by decide +kernel
theorem d_UF_chain_20 : decode prog_1_method_9_code 20 = .ok (.getfield 34, 3) := by decide +kernel
theorem d_UF_chain_23 : decode prog_1_method_9_code 23 = .ok (.getfield 127, 3) := by decide +kernel
theorem d_UF_chain_26 : decode prog_1_method_9_code 26 = .ok (.iload_n 1, 1) := by decide +kernel
theorem d_UF_chain_27 : decode prog_1_method_9_code 27 = .ok (.iaload, 1) := by decide +kernel
theorem d_UF_chain_28 : decode prog_1_method_9_code 28 = .ok (.istore_n 3, 1) := by decide +kernel
theorem d_UF_chain_29 : decode prog_1_method_9_code 29 = .ok (.aload_n 0, 1) := by decide +kernel
theorem d_UF_chain_30 : decode prog_1_method_9_code 30 = .ok (.getfield 34, 3) := by decide +kernel
theorem d_UF_chain_33 : decode prog_1_method_9_code 33 = .ok (.iload_n 1, 1) := by decide +kernel
theorem d_UF_chain_34 : decode prog_1_method_9_code 34 = .ok (.iload_n 2, 1) := by decide +kernel
theorem d_UF_chain_35 : decode prog_1_method_9_code 35 = .ok (.invokevirtual 130, 3) := by decide +kernel
theorem d_UF_chain_38 : decode prog_1_method_9_code 38 = .ok (.iload_n 3, 1) := by decide +kernel
theorem d_UF_chain_39 : decode prog_1_method_9_code 39 = .ok (.ireturn, 1) := by decide +kernel
def p_UF_chain (Q : Int32 → AH → Prop) (x1 : Int32) (x2 : Int32) (h : AH) : Prop := p_UF_isHouse (fun r2 h1 => ((r2 = 0 → Q (-5) h1) ∧ (¬ r2 = 0 → p_UF_isHouse (fun r4 h3 => ((¬ r4 = 0 → inb x1 7 ∧ p_Town_join (fun h6 => Q (h3.1 8 x1) h6) 5 x1 x2 h3) ∧ (r4 = 0 → Q (-5) h3))) x2 h1))) x1 h
set_option maxRecDepth 20000 in
theorem r_UF_chain_0 {G : GG} {d : Nat} {Q : Int32 → AH → Prop} (x1 : Int32) (x2 : Int32) (h : AH) (H : p_UF_chain Q x1 x2 h) : Att G T1 m_UF_chain (d + 3) 0 [some (.ref 0), some (.int x1), some (.int x2), none] [] h 0 0 (iQ Q) := by
  refine A_aload_n d_UF_chain_0 rfl ?_
  refine A_iload_n d_UF_chain_1 rfl ?_
  refine A_cI [.ref 0, .int x1] [] (ct_UF_107 rfl) d_UF_chain_2 rfl rfl (by decide) (Nat.le_of_ble_eq_true rfl) (rcA_o (c := 11) rfl (vA_s (by decide)) rfl (by decide) rfl) (ok_UF_isHouse (d := d + 1) H) (fun r2 h1 H => ?_)
  refine A_if_eq 16 d_UF_chain_5 (by decide) (fun z => ?_) (fun z => ?_)
  · have H := H.1 z
    refine A_bipush (-5) (by decide) d_UF_chain_16 ?_
    exact A_iret d_UF_chain_18 rfl rfl H
  · have H := H.2 z
    refine A_aload_n d_UF_chain_8 rfl ?_
    refine A_iload_n d_UF_chain_9 rfl ?_
    refine A_cI [.ref 0, .int x2] [] (ct_UF_107 rfl) d_UF_chain_10 rfl rfl (by decide) (Nat.le_of_ble_eq_true rfl) (rcA_o (c := 11) rfl (vA_s (by decide)) rfl (by decide) rfl) (ok_UF_isHouse (d := d + 1) H) (fun r4 h3 H => ?_)
    refine A_if_ne 19 d_UF_chain_13 (by decide) (fun z => ?_) (fun z => ?_)
    · have H := H.1 z
      refine A_aload_n d_UF_chain_19 rfl ?_
      refine A_get (v := .ref 5) d_UF_chain_20 (fo_UF_34_11 rfl) (vA_s (by decide)) rfl rfl ?_
      refine A_get (v := .ref 8) d_UF_chain_23 (fo_UF_127_10 rfl) (vA_s (by decide)) rfl rfl ?_
      refine A_iload_n d_UF_chain_26 rfl ?_
      obtain ⟨c5, H⟩ := H
      refine A_iald (n := 7) d_UF_chain_27 (vA_s (by decide)) rfl c5 ?_
      refine A_istore_n [some (.ref 0), some (.int x1), some (.int x2), some (.int (h3.1 8 x1))] d_UF_chain_28 (by decide) rfl rfl ?_
      refine A_aload_n d_UF_chain_29 rfl ?_
      refine A_get (v := .ref 5) d_UF_chain_30 (fo_UF_34_11 rfl) (vA_s (by decide)) rfl rfl ?_
      refine A_iload_n d_UF_chain_33 rfl ?_
      refine A_iload_n d_UF_chain_34 rfl ?_
      refine A_cV [.ref 5, .int x1, .int x2] [] (ct_UF_130 rfl) d_UF_chain_35 rfl rfl (by decide) (Nat.le_of_ble_eq_true rfl) (rcA_o (c := 10) rfl (vA_s (by decide)) rfl (by decide) rfl) (ok_Town_join (d := d) H) (fun h6 H => ?_)
      refine A_iload_n d_UF_chain_38 rfl ?_
      exact A_iret d_UF_chain_39 rfl rfl H
    · have H := H.2 z
      refine A_bipush (-5) (by decide) d_UF_chain_16 ?_
      exact A_iret d_UF_chain_18 rfl rfl H
set_option maxRecDepth 20000 in
theorem ok_UF_chain {G : GG} {d : Nat} {Q : Int32 → AH → Prop} {x1 : Int32} {x2 : Int32} {h : AH} (H : p_UF_chain Q x1 x2 h) : WP G T1 m_UF_chain (d + 3) [.ref 0, .int x1, .int x2] h 0 0 (iQ Q) := by
  exact WP.enter 1 (by decide) rfl rfl (r_UF_chain_0 x1 x2 h H)
theorem d_Dusk_weighs_0 : decode prog_4_method_10_code 0 = .ok (.aload_n 0, 1) := by decide +kernel
theorem d_Dusk_weighs_1 : decode prog_4_method_10_code 1 = .ok (.getfield 20, 3) := by decide +kernel
theorem d_Dusk_weighs_4 : decode prog_4_method_10_code 4 = .ok (.iload_n 1, 1) := by decide +kernel
theorem d_Dusk_weighs_5 : decode prog_4_method_10_code 5 = .ok (.aaload, 1) := by decide +kernel
theorem d_Dusk_weighs_6 : decode prog_4_method_10_code 6 = .ok (.aload_n 0, 1) := by decide +kernel
theorem d_Dusk_weighs_7 : decode prog_4_method_10_code 7 = .ok (.iconst 0, 1) := by decide +kernel
theorem d_Dusk_weighs_8 : decode prog_4_method_10_code 8 = .ok (.iload_n 1, 1) := by decide +kernel
theorem d_Dusk_weighs_9 : decode prog_4_method_10_code 9 = .ok (.iload_n 2, 1) := by decide +kernel
theorem d_Dusk_weighs_10 : decode prog_4_method_10_code 10 = .ok (.iconst 0, 1) := by decide +kernel
theorem d_Dusk_weighs_11 : decode prog_4_method_10_code 11 = .ok (.invokevirtual 105, 3) := by decide +kernel
theorem d_Dusk_weighs_14 : decode prog_4_method_10_code 14 = .ok (.aload_n 0, 1) := by decide +kernel
theorem d_Dusk_weighs_15 : decode prog_4_method_10_code 15 = .ok (.getfield 12, 3) := by decide +kernel
theorem d_Dusk_weighs_18 : decode prog_4_method_10_code 18 = .ok (.getfield 78, 3) := by decide +kernel
theorem d_Dusk_weighs_21 : decode prog_4_method_10_code 21 = .ok (.iload_n 1, 1) := by decide +kernel
theorem d_Dusk_weighs_22 : decode prog_4_method_10_code 22 = .ok (.iaload, 1) := by decide +kernel
theorem d_Dusk_weighs_23 : decode prog_4_method_10_code 23 = .ok (.invokevirtual 109, 3) := by decide +kernel
theorem d_Dusk_weighs_26 : decode prog_4_method_10_code 26 = .ok (.ireturn, 1) := by decide +kernel
def p_Dusk_weighs (Q : Int32 → AH → Prop) (x1 : Int32) (x2 : Int32) (h : AH) : Prop := inb x1 7 ∧ 0 < rR T1 h 18 x1.toNatClampNeg ∧ p_Dusk_says (fun r4 h3 => inb x1 7 ∧ pv_weighsBy (fun r6 h7 => Q r6 h7) (rR T1 h 18 x1.toNatClampNeg - 1) r4 (h3.1 15 x1) h3) 0 x1 x2 0 h
set_option maxRecDepth 20000 in
theorem r_Dusk_weighs_0 {G : GG} {d : Nat} {Q : Int32 → AH → Prop} (x1 : Int32) (x2 : Int32) (h : AH) (H : p_Dusk_weighs Q x1 x2 h) : Att G T1 m_Dusk_weighs (d + 3) 0 [some (.ref 13), some (.int x1), some (.int x2)] [] h 0 0 (iQ Q) := by
  refine A_aload_n d_Dusk_weighs_0 rfl ?_
  refine A_get (v := .ref 18) d_Dusk_weighs_1 (fo_Dusk_20_2 rfl) (vA_s (by decide)) rfl rfl ?_
  refine A_iload_n d_Dusk_weighs_4 rfl ?_
  obtain ⟨c1, H⟩ := H
  obtain ⟨c2, H⟩ := H
  refine A_aald (t := 0) (n := 7) d_Dusk_weighs_5 (by decide) (vA_s (by decide)) rfl c1 (pos_sub c2) ?_
  refine A_aload_n d_Dusk_weighs_6 rfl ?_
  refine A_iconst 0 (by decide) d_Dusk_weighs_7 ?_
  refine A_iload_n d_Dusk_weighs_8 rfl ?_
  refine A_iload_n d_Dusk_weighs_9 rfl ?_
  refine A_iconst 0 (by decide) d_Dusk_weighs_10 ?_
  refine A_cI [.ref 13, .int 0, .int x1, .int x2, .int 0] [.ref (rR T1 h 18 x1.toNatClampNeg - 1)] (ct_Dusk_105 rfl) d_Dusk_weighs_11 rfl rfl (by decide) (Nat.le_of_ble_eq_true rfl) (rcA_o (c := 2) rfl (vA_s (by decide)) rfl (by decide) rfl) (ok_Dusk_says (d := d) H) (fun r4 h3 H => ?_)
  refine A_aload_n d_Dusk_weighs_14 rfl ?_
  refine A_get (v := .ref 14) d_Dusk_weighs_15 (fo_Dusk_12_2 rfl) (vA_s (by decide)) rfl rfl ?_
  refine A_get (v := .ref 15) d_Dusk_weighs_18 (fo_Dusk_78_10 rfl) (vA_s (by decide)) rfl rfl ?_
  refine A_iload_n d_Dusk_weighs_21 rfl ?_
  obtain ⟨c5, H⟩ := H
  refine A_iald (n := 7) d_Dusk_weighs_22 (vA_s (by decide)) rfl c5 ?_
  refine A_pv_weighsBy (d := d + 0) d_Dusk_weighs_23 H (fun r6 h7 H => ?_)
  exact A_iret d_Dusk_weighs_26 rfl rfl H
set_option maxRecDepth 20000 in
theorem ok_Dusk_weighs {G : GG} {d : Nat} {Q : Int32 → AH → Prop} {x1 : Int32} {x2 : Int32} {h : AH} (H : p_Dusk_weighs Q x1 x2 h) : WP G T1 m_Dusk_weighs (d + 3) [.ref 13, .int x1, .int x2] h 0 0 (iQ Q) := by
  exact WP.enter 0 (by decide) rfl rfl (r_Dusk_weighs_0 x1 x2 h H)
theorem d_Dusk_holds_0 : decode prog_4_method_11_code 0 = .ok (.aload_n 0, 1) := by decide +kernel
theorem d_Dusk_holds_1 : decode prog_4_method_11_code 1 = .ok (.getfield 20, 3) := by decide +kernel
theorem d_Dusk_holds_4 : decode prog_4_method_11_code 4 = .ok (.iload_n 1, 1) := by decide +kernel
theorem d_Dusk_holds_5 : decode prog_4_method_11_code 5 = .ok (.aaload, 1) := by decide +kernel
theorem d_Dusk_holds_6 : decode prog_4_method_11_code 6 = .ok (.aload_n 0, 1) := by decide +kernel
theorem d_Dusk_holds_7 : decode prog_4_method_11_code 7 = .ok (.iconst 1, 1) := by decide +kernel
theorem d_Dusk_holds_8 : decode prog_4_method_11_code 8 = .ok (.iload_n 1, 1) := by decide +kernel
theorem d_Dusk_holds_9 : decode prog_4_method_11_code 9 = .ok (.iload_n 2, 1) := by decide +kernel
theorem d_Dusk_holds_10 : decode prog_4_method_11_code 10 = .ok (.iconst 0, 1) := by decide +kernel
theorem d_Dusk_holds_11 : decode prog_4_method_11_code 11 = .ok (.invokevirtual 105, 3) := by decide +kernel
theorem d_Dusk_holds_14 : decode prog_4_method_11_code 14 = .ok (.invokevirtual 112, 3) := by decide +kernel
theorem d_Dusk_holds_17 : decode prog_4_method_11_code 17 = .ok (.ireturn, 1) := by decide +kernel
def p_Dusk_holds (Q : Int32 → AH → Prop) (x1 : Int32) (x2 : Int32) (h : AH) : Prop := inb x1 7 ∧ 0 < rR T1 h 18 x1.toNatClampNeg ∧ p_Dusk_says (fun r4 h3 => pv_holdsBy (fun r5 h6 => Q r5 h6) (rR T1 h 18 x1.toNatClampNeg - 1) r4 h3) 1 x1 x2 0 h
set_option maxRecDepth 20000 in
theorem r_Dusk_holds_0 {G : GG} {d : Nat} {Q : Int32 → AH → Prop} (x1 : Int32) (x2 : Int32) (h : AH) (H : p_Dusk_holds Q x1 x2 h) : Att G T1 m_Dusk_holds (d + 3) 0 [some (.ref 13), some (.int x1), some (.int x2)] [] h 0 0 (iQ Q) := by
  refine A_aload_n d_Dusk_holds_0 rfl ?_
  refine A_get (v := .ref 18) d_Dusk_holds_1 (fo_Dusk_20_2 rfl) (vA_s (by decide)) rfl rfl ?_
  refine A_iload_n d_Dusk_holds_4 rfl ?_
  obtain ⟨c1, H⟩ := H
  obtain ⟨c2, H⟩ := H
  refine A_aald (t := 0) (n := 7) d_Dusk_holds_5 (by decide) (vA_s (by decide)) rfl c1 (pos_sub c2) ?_
  refine A_aload_n d_Dusk_holds_6 rfl ?_
  refine A_iconst 1 (by decide) d_Dusk_holds_7 ?_
  refine A_iload_n d_Dusk_holds_8 rfl ?_
  refine A_iload_n d_Dusk_holds_9 rfl ?_
  refine A_iconst 0 (by decide) d_Dusk_holds_10 ?_
  refine A_cI [.ref 13, .int 1, .int x1, .int x2, .int 0] [.ref (rR T1 h 18 x1.toNatClampNeg - 1)] (ct_Dusk_105 rfl) d_Dusk_holds_11 rfl rfl (by decide) (Nat.le_of_ble_eq_true rfl) (rcA_o (c := 2) rfl (vA_s (by decide)) rfl (by decide) rfl) (ok_Dusk_says (d := d) H) (fun r4 h3 H => ?_)
  refine A_pv_holdsBy (d := d + 0) d_Dusk_holds_14 H (fun r5 h6 H => ?_)
  exact A_iret d_Dusk_holds_17 rfl rfl H
set_option maxRecDepth 20000 in
theorem ok_Dusk_holds {G : GG} {d : Nat} {Q : Int32 → AH → Prop} {x1 : Int32} {x2 : Int32} {h : AH} (H : p_Dusk_holds Q x1 x2 h) : WP G T1 m_Dusk_holds (d + 3) [.ref 13, .int x1, .int x2] h 0 0 (iQ Q) := by
  exact WP.enter 0 (by decide) rfl rfl (r_Dusk_holds_0 x1 x2 h H)
theorem d_Dusk_sink_0 : decode prog_4_method_8_code 0 = .ok (.aload_n 0, 1) := by decide +kernel
theorem d_Dusk_sink_1 : decode prog_4_method_8_code 1 = .ok (.getfield 12, 3) := by decide +kernel
theorem d_Dusk_sink_4 : decode prog_4_method_8_code 4 = .ok (.getfield 78, 3) := by decide +kernel
theorem d_Dusk_sink_7 : decode prog_4_method_8_code 7 = .ok (.iload_n 1, 1) := by decide +kernel
theorem d_Dusk_sink_8 : decode prog_4_method_8_code 8 = .ok (.dup2, 1) := by decide +kernel
theorem d_Dusk_sink_9 : decode prog_4_method_8_code 9 = .ok (.iaload, 1) := by decide +kernel
theorem d_Dusk_sink_10 : decode prog_4_method_8_code 10 = .ok (.iconst 1, 1) := by decide +kernel
theorem d_Dusk_sink_11 : decode prog_4_method_8_code 11 = .ok (.isub, 1) := by decide +kernel
theorem d_Dusk_sink_12 : decode prog_4_method_8_code 12 = .ok (.iastore, 1) := by decide +kernel
theorem d_Dusk_sink_13 : decode prog_4_method_8_code 13 = .ok (.aload_n 0, 1) := by decide +kernel
theorem d_Dusk_sink_14 : decode prog_4_method_8_code 14 = .ok (.getfield 28, 3) := by decide +kernel
theorem d_Dusk_sink_17 : decode prog_4_method_8_code 17 = .ok (.iload_n 1, 1) := by decide +kernel
theorem d_Dusk_sink_18 : decode prog_4_method_8_code 18 = .ok (.dup2, 1) := by decide +kernel
theorem d_Dusk_sink_19 : decode prog_4_method_8_code 19 = .ok (.iaload, 1) := by decide +kernel
theorem d_Dusk_sink_20 : decode prog_4_method_8_code 20 = .ok (.iconst 1, 1) := by decide +kernel
theorem d_Dusk_sink_21 : decode prog_4_method_8_code 21 = .ok (.iadd, 1) := by decide +kernel
theorem d_Dusk_sink_22 : decode prog_4_method_8_code 22 = .ok (.iastore, 1) := by decide +kernel
theorem d_Dusk_sink_23 : decode prog_4_method_8_code 23 = .ok (.aload_n 0, 1) := by decide +kernel
theorem d_Dusk_sink_24 : decode prog_4_method_8_code 24 = .ok (.getfield 24, 3) := by decide +kernel
theorem d_Dusk_sink_27 : decode prog_4_method_8_code 27 = .ok (.iload_n 1, 1) := by decide +kernel
theorem d_Dusk_sink_28 : decode prog_4_method_8_code 28 = .ok (.dup2, 1) := by decide +kernel
theorem d_Dusk_sink_29 : decode prog_4_method_8_code 29 = .ok (.iaload, 1) := by decide +kernel
theorem d_Dusk_sink_30 : decode prog_4_method_8_code 30 = .ok (.iconst 1, 1) := by decide +kernel
theorem d_Dusk_sink_31 : decode prog_4_method_8_code 31 = .ok (.iadd, 1) := by decide +kernel
theorem d_Dusk_sink_32 : decode prog_4_method_8_code 32 = .ok (.iastore, 1) := by decide +kernel
theorem d_Dusk_sink_33 : decode prog_4_method_8_code 33 = .ok (.aload_n 0, 1) := by decide +kernel
theorem d_Dusk_sink_34 : decode prog_4_method_8_code 34 = .ok (.getfield 12, 3) := by decide +kernel
theorem d_Dusk_sink_37 : decode prog_4_method_8_code 37 = .ok (.getfield 78, 3) := by decide +kernel
theorem d_Dusk_sink_40 : decode prog_4_method_8_code 40 = .ok (.iload_n 1, 1) := by decide +kernel
theorem d_Dusk_sink_41 : decode prog_4_method_8_code 41 = .ok (.iaload, 1) := by decide +kernel
theorem d_Dusk_sink_42 : decode prog_4_method_8_code 42 = .ok (.ifCond .le 4, 3) := by decide +kernel
theorem d_Dusk_sink_45 : decode prog_4_method_8_code 45 = .ok (.return_, 1) := by decide +kernel
theorem d_Dusk_sink_46 : decode prog_4_method_8_code 46 = .ok (.aload_n 0, 1) := by decide +kernel
theorem d_Dusk_sink_47 : decode prog_4_method_8_code 47 = .ok (.getfield 31, 3) := by decide +kernel
theorem d_Dusk_sink_50 : decode prog_4_method_8_code 50 = .ok (.iload_n 1, 1) := by decide +kernel
theorem d_Dusk_sink_51 : decode prog_4_method_8_code 51 = .ok (.dup2, 1) := by decide +kernel
theorem d_Dusk_sink_52 : decode prog_4_method_8_code 52 = .ok (.iaload, 1) := by decide +kernel
theorem d_Dusk_sink_53 : decode prog_4_method_8_code 53 = .ok (.aload_n 0, 1) := by decide +kernel
theorem d_Dusk_sink_54 : decode prog_4_method_8_code 54 = .ok (.iconst 2, 1) := by decide +kernel
theorem d_Dusk_sink_55 : decode prog_4_method_8_code 55 = .ok (.iload_n 1, 1) := by decide +kernel
theorem d_Dusk_sink_56 : decode prog_4_method_8_code 56 = .ok (.iload_n 2, 1) := by decide +kernel
theorem d_Dusk_sink_57 : decode prog_4_method_8_code 57 = .ok (.aload_n 0, 1) := by decide +kernel
theorem d_Dusk_sink_58 : decode prog_4_method_8_code 58 = .ok (.getfield 24, 3) := by decide +kernel
theorem d_Dusk_sink_61 : decode prog_4_method_8_code 61 = .ok (.iload_n 1, 1) := by decide +kernel
theorem d_Dusk_sink_62 : decode prog_4_method_8_code 62 = .ok (.iaload, 1) := by decide +kernel
theorem d_Dusk_sink_63 : decode prog_4_method_8_code 63 = .ok (.invokevirtual 105, 3) := by decide +kernel
theorem d_Dusk_sink_66 : decode prog_4_method_8_code 66 = .ok (.iadd, 1) := by decide +kernel
theorem d_Dusk_sink_67 : decode prog_4_method_8_code 67 = .ok (.iastore, 1) := by decide +kernel
theorem d_Dusk_sink_68 : decode prog_4_method_8_code 68 = .ok (.aload_n 0, 1) := by decide +kernel
theorem d_Dusk_sink_69 : decode prog_4_method_8_code 69 = .ok (.getfield 34, 3) := by decide +kernel
theorem d_Dusk_sink_72 : decode prog_4_method_8_code 72 = .ok (.iload_n 1, 1) := by decide +kernel
theorem d_Dusk_sink_73 : decode prog_4_method_8_code 73 = .ok (.iload_n 2, 1) := by decide +kernel
theorem d_Dusk_sink_74 : decode prog_4_method_8_code 74 = .ok (.iastore, 1) := by decide +kernel
theorem d_Dusk_sink_75 : decode prog_4_method_8_code 75 = .ok (.aload_n 0, 1) := by decide +kernel
theorem d_Dusk_sink_76 : decode prog_4_method_8_code 76 = .ok (.getfield 24, 3) := by decide +kernel
theorem d_Dusk_sink_79 : decode prog_4_method_8_code 79 = .ok (.iload_n 1, 1) := by decide +kernel
theorem d_Dusk_sink_80 : decode prog_4_method_8_code 80 = .ok (.iconst 0, 1) := by decide +kernel
theorem d_Dusk_sink_81 : decode prog_4_method_8_code 81 = .ok (.iastore, 1) := by decide +kernel
theorem d_Dusk_sink_82 : decode prog_4_method_8_code 82 = .ok (.return_, 1) := by decide +kernel
def p_Dusk_sink (Q : AH → Prop) (x1 : Int32) (x2 : Int32) (h : AH) : Prop := inb x1 7 ∧ ((((wI (wI (wI h 15 x1 ((h.1 15 x1) - 1)) 20 x1 (((wI h 15 x1 ((h.1 15 x1) - 1)).1 20 x1) + 1)) 19 x1 (((wI (wI h 15 x1 ((h.1 15 x1) - 1)) 20 x1 (((wI h 15 x1 ((h.1 15 x1) - 1)).1 20 x1) + 1)).1 19 x1) + 1)).1 15 x1) ≤ 0 → p_Dusk_says (fun r3 h2 => inb x1 7 ∧ Q (wI (wI (wI h2 21 x1 (((wI (wI (wI h 15 x1 ((h.1 15 x1) - 1)) 20 x1 (((wI h 15 x1 ((h.1 15 x1) - 1)).1 20 x1) + 1)) 19 x1 (((wI (wI h 15 x1 ((h.1 15 x1) - 1)) 20 x1 (((wI h 15 x1 ((h.1 15 x1) - 1)).1 20 x1) + 1)).1 19 x1) + 1)).1 21 x1) + r3)) 22 x1 x2) 19 x1 0)) 2 x1 x2 ((wI (wI (wI h 15 x1 ((h.1 15 x1) - 1)) 20 x1 (((wI h 15 x1 ((h.1 15 x1) - 1)).1 20 x1) + 1)) 19 x1 (((wI (wI h 15 x1 ((h.1 15 x1) - 1)) 20 x1 (((wI h 15 x1 ((h.1 15 x1) - 1)).1 20 x1) + 1)).1 19 x1) + 1)).1 19 x1) (wI (wI (wI h 15 x1 ((h.1 15 x1) - 1)) 20 x1 (((wI h 15 x1 ((h.1 15 x1) - 1)).1 20 x1) + 1)) 19 x1 (((wI (wI h 15 x1 ((h.1 15 x1) - 1)) 20 x1 (((wI h 15 x1 ((h.1 15 x1) - 1)).1 20 x1) + 1)).1 19 x1) + 1))) ∧ (¬ ((wI (wI (wI h 15 x1 ((h.1 15 x1) - 1)) 20 x1 (((wI h 15 x1 ((h.1 15 x1) - 1)).1 20 x1) + 1)) 19 x1 (((wI (wI h 15 x1 ((h.1 15 x1) - 1)) 20 x1 (((wI h 15 x1 ((h.1 15 x1) - 1)).1 20 x1) + 1)).1 19 x1) + 1)).1 15 x1) ≤ 0 → Q (wI (wI (wI h 15 x1 ((h.1 15 x1) - 1)) 20 x1 (((wI h 15 x1 ((h.1 15 x1) - 1)).1 20 x1) + 1)) 19 x1 (((wI (wI h 15 x1 ((h.1 15 x1) - 1)) 20 x1 (((wI h 15 x1 ((h.1 15 x1) - 1)).1 20 x1) + 1)).1 19 x1) + 1))))
set_option maxRecDepth 20000 in
theorem r_Dusk_sink_0 {G : GG} {d : Nat} {Q : AH → Prop} (x1 : Int32) (x2 : Int32) (h : AH) (H : p_Dusk_sink Q x1 x2 h) : Att G T1 m_Dusk_sink (d + 3) 0 [some (.ref 13), some (.int x1), some (.int x2)] [] h 0 0 (vQ Q) := by
  refine A_aload_n d_Dusk_sink_0 rfl ?_
  refine A_get (v := .ref 14) d_Dusk_sink_1 (fo_Dusk_12_2 rfl) (vA_s (by decide)) rfl rfl ?_
  refine A_get (v := .ref 15) d_Dusk_sink_4 (fo_Dusk_78_10 rfl) (vA_s (by decide)) rfl rfl ?_
  refine A_iload_n d_Dusk_sink_7 rfl ?_
  refine A_dup2 rfl rfl d_Dusk_sink_8 ?_
  obtain ⟨c1, H⟩ := H
  refine A_iald (n := 7) d_Dusk_sink_9 (vA_s (by decide)) rfl c1 ?_
  refine A_iconst 1 (by decide) d_Dusk_sink_10 ?_
  refine A_isub d_Dusk_sink_11 ?_
  refine A_iast (n := 7) d_Dusk_sink_12 (vA_s (by decide)) rfl c1 ?_
  refine A_aload_n d_Dusk_sink_13 rfl ?_
  refine A_get (v := .ref 20) d_Dusk_sink_14 (fo_Dusk_28_2 rfl) (vA_s (by decide)) rfl rfl ?_
  refine A_iload_n d_Dusk_sink_17 rfl ?_
  refine A_dup2 rfl rfl d_Dusk_sink_18 ?_
  refine A_iald (n := 7) d_Dusk_sink_19 (vA_s (by decide)) rfl c1 ?_
  refine A_iconst 1 (by decide) d_Dusk_sink_20 ?_
  refine A_iadd d_Dusk_sink_21 ?_
  refine A_iast (n := 7) d_Dusk_sink_22 (vA_s (by decide)) rfl c1 ?_
  refine A_aload_n d_Dusk_sink_23 rfl ?_
  refine A_get (v := .ref 19) d_Dusk_sink_24 (fo_Dusk_24_2 rfl) (vA_s (by decide)) rfl rfl ?_
  refine A_iload_n d_Dusk_sink_27 rfl ?_
  refine A_dup2 rfl rfl d_Dusk_sink_28 ?_
  refine A_iald (n := 7) d_Dusk_sink_29 (vA_s (by decide)) rfl c1 ?_
  refine A_iconst 1 (by decide) d_Dusk_sink_30 ?_
  refine A_iadd d_Dusk_sink_31 ?_
  refine A_iast (n := 7) d_Dusk_sink_32 (vA_s (by decide)) rfl c1 ?_
  refine A_aload_n d_Dusk_sink_33 rfl ?_
  refine A_get (v := .ref 14) d_Dusk_sink_34 (fo_Dusk_12_2 rfl) (vA_s (by decide)) rfl rfl ?_
  refine A_get (v := .ref 15) d_Dusk_sink_37 (fo_Dusk_78_10 rfl) (vA_s (by decide)) rfl rfl ?_
  refine A_iload_n d_Dusk_sink_40 rfl ?_
  refine A_iald (n := 7) d_Dusk_sink_41 (vA_s (by decide)) rfl c1 ?_
  refine A_if_le 46 d_Dusk_sink_42 (by decide) (fun z => ?_) (fun z => ?_)
  · have H := H.1 z
    refine A_aload_n d_Dusk_sink_46 rfl ?_
    refine A_get (v := .ref 21) d_Dusk_sink_47 (fo_Dusk_31_2 rfl) (vA_s (by decide)) rfl rfl ?_
    refine A_iload_n d_Dusk_sink_50 rfl ?_
    refine A_dup2 rfl rfl d_Dusk_sink_51 ?_
    refine A_iald (n := 7) d_Dusk_sink_52 (vA_s (by decide)) rfl c1 ?_
    refine A_aload_n d_Dusk_sink_53 rfl ?_
    refine A_iconst 2 (by decide) d_Dusk_sink_54 ?_
    refine A_iload_n d_Dusk_sink_55 rfl ?_
    refine A_iload_n d_Dusk_sink_56 rfl ?_
    refine A_aload_n d_Dusk_sink_57 rfl ?_
    refine A_get (v := .ref 19) d_Dusk_sink_58 (fo_Dusk_24_2 rfl) (vA_s (by decide)) rfl rfl ?_
    refine A_iload_n d_Dusk_sink_61 rfl ?_
    refine A_iald (n := 7) d_Dusk_sink_62 (vA_s (by decide)) rfl c1 ?_
    refine A_cI [.ref 13, .int 2, .int x1, .int x2, .int ((wI (wI (wI h 15 x1 ((h.1 15 x1) - 1)) 20 x1 (((wI h 15 x1 ((h.1 15 x1) - 1)).1 20 x1) + 1)) 19 x1 (((wI (wI h 15 x1 ((h.1 15 x1) - 1)) 20 x1 (((wI h 15 x1 ((h.1 15 x1) - 1)).1 20 x1) + 1)).1 19 x1) + 1)).1 19 x1)] [.int ((wI (wI (wI h 15 x1 ((h.1 15 x1) - 1)) 20 x1 (((wI h 15 x1 ((h.1 15 x1) - 1)).1 20 x1) + 1)) 19 x1 (((wI (wI h 15 x1 ((h.1 15 x1) - 1)) 20 x1 (((wI h 15 x1 ((h.1 15 x1) - 1)).1 20 x1) + 1)).1 19 x1) + 1)).1 21 x1), .int x1, .ref 21] (ct_Dusk_105 rfl) d_Dusk_sink_63 rfl rfl (by decide) (Nat.le_of_ble_eq_true rfl) (rcA_o (c := 2) rfl (vA_s (by decide)) rfl (by decide) rfl) (ok_Dusk_says (d := d) H) (fun r3 h2 H => ?_)
    refine A_iadd d_Dusk_sink_66 ?_
    obtain ⟨c4, H⟩ := H
    refine A_iast (n := 7) d_Dusk_sink_67 (vA_s (by decide)) rfl c4 ?_
    refine A_aload_n d_Dusk_sink_68 rfl ?_
    refine A_get (v := .ref 22) d_Dusk_sink_69 (fo_Dusk_34_2 rfl) (vA_s (by decide)) rfl rfl ?_
    refine A_iload_n d_Dusk_sink_72 rfl ?_
    refine A_iload_n d_Dusk_sink_73 rfl ?_
    refine A_iast (n := 7) d_Dusk_sink_74 (vA_s (by decide)) rfl c4 ?_
    refine A_aload_n d_Dusk_sink_75 rfl ?_
    refine A_get (v := .ref 19) d_Dusk_sink_76 (fo_Dusk_24_2 rfl) (vA_s (by decide)) rfl rfl ?_
    refine A_iload_n d_Dusk_sink_79 rfl ?_
    refine A_iconst 0 (by decide) d_Dusk_sink_80 ?_
    refine A_iast (n := 7) d_Dusk_sink_81 (vA_s (by decide)) rfl c4 ?_
    exact A_ret d_Dusk_sink_82 rfl H
  · have H := H.2 z
    exact A_ret d_Dusk_sink_45 rfl H
set_option maxRecDepth 20000 in
theorem ok_Dusk_sink {G : GG} {d : Nat} {Q : AH → Prop} {x1 : Int32} {x2 : Int32} {h : AH} (H : p_Dusk_sink Q x1 x2 h) : WP G T1 m_Dusk_sink (d + 3) [.ref 13, .int x1, .int x2] h 0 0 (vQ Q) := by
  exact WP.enter 0 (by decide) rfl rfl (r_Dusk_sink_0 x1 x2 h H)
theorem d_UF_taken_0 : decode prog_1_method_36_code 0 = .ok (.iload_n 2, 1) := by decide +kernel
theorem d_UF_taken_1 : decode prog_1_method_36_code 1 = .ok (.iconst 0, 1) := by decide +kernel
theorem d_UF_taken_2 : decode prog_1_method_36_code 2 = .ok (.bipush 6, 2) := by decide +kernel
theorem d_UF_taken_4 : decode prog_1_method_36_code 4 = .ok (.invokestatic 95, 3) := by decide +kernel
theorem d_UF_taken_7 : decode prog_1_method_36_code 7 = .ok (.ifCond .ne 6, 3) := by decide +kernel
theorem d_UF_taken_10 : decode prog_1_method_36_code 10 = .ok (.bipush (-2), 2) := by decide +kernel
theorem d_UF_taken_12 : decode prog_1_method_36_code 12 = .ok (.ireturn, 1) := by decide +kernel
theorem d_UF_taken_13 : decode prog_1_method_36_code 13 = .ok (.iload_n 1, 1) := by decide +kernel
theorem d_UF_taken_14 : decode prog_1_method_36_code 14 = .ok (.iconst 0, 1) := by decide +kernel
theorem d_UF_taken_15 : decode prog_1_method_36_code 15 = .ok (.bipush 13, 2) := by decide +kernel
theorem d_UF_taken_17 : decode prog_1_method_36_code 17 = .ok (.invokestatic 95, 3) := by decide +kernel
theorem d_UF_taken_20 : decode prog_1_method_36_code 20 = .ok (.ifCond .ne 6, 3) := by decide +kernel
theorem d_UF_taken_23 : decode prog_1_method_36_code 23 = .ok (.bipush (-12), 2) := by decide +kernel
theorem d_UF_taken_25 : decode prog_1_method_36_code 25 = .ok (.ireturn, 1) := by decide +kernel
theorem d_UF_taken_26 : decode prog_1_method_36_code 26 = .ok (.iload_n 1, 1) := by decide +kernel
theorem d_UF_taken_27 : decode prog_1_method_36_code 27 = .ok (.bipush 7, 2) := by decide +kernel
theorem d_UF_taken_29 : decode prog_1_method_36_code 29 = .ok (.irem, 1) := by decide +kernel
theorem d_UF_taken_30 : decode prog_1_method_36_code 30 = .ok (.istore_n 3, 1) := by decide +kernel
theorem d_UF_taken_31 : decode prog_1_method_36_code 31 = .ok (.iload_n 1, 1) := by decide +kernel
theorem d_UF_taken_32 : decode prog_1_method_36_code 32 = .ok (.bipush 7, 2) := by decide +kernel
theorem d_UF_taken_34 : decode prog_1_method_36_code 34 = .ok (.if_icmp .lt 7, 3) := by decide +kernel
theorem d_UF_taken_37 : decode prog_1_method_36_code 37 = .ok (.iconst 1, 1) := by decide +kernel
theorem d_UF_taken_38 : decode prog_1_method_36_code 38 = .ok (.goto 4, 3) := by decide +kernel
theorem d_UF_taken_41 : decode prog_1_method_36_code 41 = .ok (.iconst 0, 1) := by decide +kernel
theorem d_UF_taken_42 : decode prog_1_method_36_code 42 = .ok (.istore 4, 2) := by decide +kernel
theorem d_UF_taken_44 : decode prog_1_method_36_code 44 = .ok (.aload_n 0, 1) := by decide +kernel
theorem d_UF_taken_45 : decode prog_1_method_36_code 45 = .ok (.iload_n 3, 1) := by decide +kernel
theorem d_UF_taken_46 : decode prog_1_method_36_code 46 = .ok (.invokevirtual 107, 3) := by decide +kernel
theorem d_UF_taken_49 : decode prog_1_method_36_code 49 = .ok (.ifCond .eq 20, 3) := by decide +kernel
theorem d_UF_taken_52 : decode prog_1_method_36_code 52 = .ok (.iload 4, 2) := by decide +kernel
theorem d_UF_taken_54 : decode prog_1_method_36_code 54 = .ok (.ifCond .eq 18, 3) := by decide +kernel
theorem d_UF_taken_57 : decode prog_1_method_36_code 57 = .ok (.aload_n 0, 1) := by decide +kernel
theorem d_UF_taken_58 : decode prog_1_method_36_code 58 = .ok (.getfield 34, 3) := by decide +kernel
theorem d_UF_taken_61 : decode prog_1_method_36_code 61 = .ok (.getfield 124, 3) := by decide +kernel
theorem d_UF_taken_64 : decode prog_1_method_36_code 64 = .ok (.iload_n 3, 1) := by decide +kernel
theorem d_UF_taken_65 : decode prog_1_method_36_code 65 = .ok (.iaload, 1) := by decide +kernel
theorem d_UF_taken_66 : decode prog_1_method_36_code 66 = .ok (.ifCond .ne 6, 3) := by decide +kernel
theorem d_UF_taken_69 : decode prog_1_method_36_code 69 = .ok (.bipush (-11), 2) := by decide +kernel
theorem d_UF_taken_71 : decode prog_1_method_36_code 71 = .ok (.ireturn, 1) := by decide +kernel
theorem d_UF_taken_72 : decode prog_1_method_36_code 72 = .ok (.iload 4, 2) := by decide +kernel
theorem d_UF_taken_74 : decode prog_1_method_36_code 74 = .ok (.ifCond .eq 24, 3) := by decide +kernel
theorem d_UF_taken_77 : decode prog_1_method_36_code 77 = .ok (.iload_n 2, 1) := by decide +kernel
theorem d_UF_taken_78 : decode prog_1_method_36_code 78 = .ok (.bipush 6, 2) := by decide +kernel
theorem d_UF_taken_80 : decode prog_1_method_36_code 80 = .ok (.if_icmp .ne 15, 3) := by decide +kernel
theorem d_UF_taken_83 : decode prog_1_method_36_code 83 = .ok (.aload_n 0, 1) := by decide +kernel
theorem d_UF_taken_84 : decode prog_1_method_36_code 84 = .ok (.getfield 34, 3) := by decide +kernel
theorem d_UF_taken_87 : decode prog_1_method_36_code 87 = .ok (.getfield 124, 3) := by decide +kernel
theorem d_UF_taken_90 : decode prog_1_method_36_code 90 = .ok (.iload_n 3, 1) := by decide +kernel
theorem d_UF_taken_91 : decode prog_1_method_36_code 91 = .ok (.iaload, 1) := by decide +kernel
theorem d_UF_taken_92 : decode prog_1_method_36_code 92 = .ok (.goto 5, 3) := by decide +kernel
theorem d_UF_taken_95 : decode prog_1_method_36_code 95 = .ok (.bipush (-13), 2) := by decide +kernel
theorem d_UF_taken_97 : decode prog_1_method_36_code 97 = .ok (.ireturn, 1) := by decide +kernel
theorem d_UF_taken_98 : decode prog_1_method_36_code 98 = .ok (.aload_n 0, 1) := by decide +kernel
theorem d_UF_taken_99 : decode prog_1_method_36_code 99 = .ok (.getfield 11, 3) := by decide +kernel
theorem d_UF_taken_102 : decode prog_1_method_36_code 102 = .ok (.iload_n 3, 1) := by decide +kernel
theorem d_UF_taken_103 : decode prog_1_method_36_code 103 = .ok (.aaload, 1) := by decide +kernel
theorem d_UF_taken_104 : decode prog_1_method_36_code 104 = .ok (.iload_n 2, 1) := by decide +kernel
theorem d_UF_taken_105 : decode prog_1_method_36_code 105 = .ok (.invokevirtual 252, 3) := by decide +kernel
theorem d_UF_taken_108 : decode prog_1_method_36_code 108 = .ok (.ifCond .eq 7, 3) := by decide +kernel
theorem d_UF_taken_111 : decode prog_1_method_36_code 111 = .ok (.iload_n 3, 1) := by decide +kernel
theorem d_UF_taken_112 : decode prog_1_method_36_code 112 = .ok (.goto 5, 3) := by decide +kernel
theorem d_UF_taken_115 : decode prog_1_method_36_code 115 = .ok (.bipush (-13), 2) := by decide +kernel
theorem d_UF_taken_117 : decode prog_1_method_36_code 117 = .ok (.ireturn, 1) := by decide +kernel
def p_UF_taken_72 (Q : Int32 → AH → Prop) (x2 : Int32) (x3 : Int32) (x4 : Int32) (h : AH) : Prop := ((x4 = 0 → inb x3 7 ∧ 0 < rR T1 h 1 x3.toNatClampNeg ∧ pv_isOf (fun r3 h4 => ((r3 = 0 → Q (-13) h4) ∧ (¬ r3 = 0 → Q x3 h4))) (rR T1 h 1 x3.toNatClampNeg - 1) x2 h) ∧ (¬ x4 = 0 → ((¬ x2 = 6 → Q (-13) h) ∧ (x2 = 6 → inb x3 7 ∧ Q (h.1 7 x3) h))))
def p_UF_taken_42 (Q : Int32 → AH → Prop) (x2 : Int32) (x3 : Int32) (s0 : Int32) (h : AH) : Prop := p_UF_isHouse (fun r2 h1 => ((r2 = 0 → Q (-11) h1) ∧ (¬ r2 = 0 → ((s0 = 0 → p_UF_taken_72 Q   x2 x3 s0 h1) ∧ (¬ s0 = 0 → inb x3 7 ∧ ((¬ (h1.1 7 x3) = 0 → p_UF_taken_72 Q   x2 x3 s0 h1) ∧ ((h1.1 7 x3) = 0 → Q (-11) h1))))))) x3 h
def p_UF_taken (Q : Int32 → AH → Prop) (x1 : Int32) (x2 : Int32) (h : AH) : Prop := p_UF_within (fun r2 h1 => ((¬ r2 = 0 → p_UF_within (fun r4 h3 => ((¬ r4 = 0 → ((x1 < 7 → p_UF_taken_42 Q   x2 (x1 - x1 / 7 * 7) 0 h3) ∧ (¬ x1 < 7 → p_UF_taken_42 Q   x2 (x1 - x1 / 7 * 7) 1 h3))) ∧ (r4 = 0 → Q (-12) h3))) x1 0 13 h1) ∧ (r2 = 0 → Q (-2) h1))) x2 0 6 h
set_option maxRecDepth 20000 in
theorem r_UF_taken_72 {G : GG} {d : Nat} {Q : Int32 → AH → Prop} (x2 : Int32) (x3 : Int32) (x4 : Int32) (h : AH) (H : p_UF_taken_72 Q x2 x3 x4 h) : Att G T1 m_UF_taken (d + 3) 72 [some (.ref 0), none, some (.int x2), some (.int x3), some (.int x4)] [] h 0 0 (iQ Q) := by
  refine A_iload d_UF_taken_72 rfl ?_
  refine A_if_eq 98 d_UF_taken_74 (by decide) (fun z => ?_) (fun z => ?_)
  · have H := H.1 z
    refine A_aload_n d_UF_taken_98 rfl ?_
    refine A_get (v := .ref 1) d_UF_taken_99 (fo_UF_11_11 rfl) (vA_s (by decide)) rfl rfl ?_
    refine A_iload_n d_UF_taken_102 rfl ?_
    obtain ⟨c1, H⟩ := H
    obtain ⟨c2, H⟩ := H
    refine A_aald (t := 0) (n := 7) d_UF_taken_103 (by decide) (vA_s (by decide)) rfl c1 (pos_sub c2) ?_
    refine A_iload_n d_UF_taken_104 rfl ?_
    refine A_pv_isOf (d := d + 0) d_UF_taken_105 H (fun r3 h4 H => ?_)
    refine A_if_eq 115 d_UF_taken_108 (by decide) (fun z => ?_) (fun z => ?_)
    · have H := H.1 z
      refine A_bipush (-13) (by decide) d_UF_taken_115 ?_
      exact A_iret d_UF_taken_117 rfl rfl H
    · have H := H.2 z
      refine A_iload_n d_UF_taken_111 rfl ?_
      refine A_goto 117 d_UF_taken_112 (by decide) ?_
      exact A_iret d_UF_taken_117 rfl rfl H
  · have H := H.2 z
    refine A_iload_n d_UF_taken_77 rfl ?_
    refine A_bipush 6 (by decide) d_UF_taken_78 ?_
    refine A_icmp_ne 95 d_UF_taken_80 (by decide) (fun z => ?_) (fun z => ?_)
    · have H := H.1 z
      refine A_bipush (-13) (by decide) d_UF_taken_95 ?_
      exact A_iret d_UF_taken_97 rfl rfl H
    · have H := H.2 z
      refine A_aload_n d_UF_taken_83 rfl ?_
      refine A_get (v := .ref 5) d_UF_taken_84 (fo_UF_34_11 rfl) (vA_s (by decide)) rfl rfl ?_
      refine A_get (v := .ref 7) d_UF_taken_87 (fo_UF_124_10 rfl) (vA_s (by decide)) rfl rfl ?_
      refine A_iload_n d_UF_taken_90 rfl ?_
      obtain ⟨c5, H⟩ := H
      refine A_iald (n := 7) d_UF_taken_91 (vA_s (by decide)) rfl c5 ?_
      refine A_goto 97 d_UF_taken_92 (by decide) ?_
      exact A_iret d_UF_taken_97 rfl rfl H
set_option maxRecDepth 20000 in
theorem r_UF_taken_42 {G : GG} {d : Nat} {Q : Int32 → AH → Prop} (x2 : Int32) (x3 : Int32) (s0 : Int32) (h : AH) (H : p_UF_taken_42 Q x2 x3 s0 h) : Att G T1 m_UF_taken (d + 3) 42 [some (.ref 0), none, some (.int x2), some (.int x3), none] [.int s0] h 0 0 (iQ Q) := by
  refine A_istore [some (.ref 0), none, some (.int x2), some (.int x3), some (.int s0)] d_UF_taken_42 (by decide) rfl rfl ?_
  refine A_aload_n d_UF_taken_44 rfl ?_
  refine A_iload_n d_UF_taken_45 rfl ?_
  refine A_cI [.ref 0, .int x3] [] (ct_UF_107 rfl) d_UF_taken_46 rfl rfl (by decide) (Nat.le_of_ble_eq_true rfl) (rcA_o (c := 11) rfl (vA_s (by decide)) rfl (by decide) rfl) (ok_UF_isHouse (d := d + 1) H) (fun r2 h1 H => ?_)
  refine A_if_eq 69 d_UF_taken_49 (by decide) (fun z => ?_) (fun z => ?_)
  · have H := H.1 z
    refine A_bipush (-11) (by decide) d_UF_taken_69 ?_
    exact A_iret d_UF_taken_71 rfl rfl H
  · have H := H.2 z
    refine A_iload d_UF_taken_52 rfl ?_
    refine A_if_eq 72 d_UF_taken_54 (by decide) (fun z => ?_) (fun z => ?_)
    · have H := H.1 z
      exact r_UF_taken_72   _ _ _ _ H
    · have H := H.2 z
      refine A_aload_n d_UF_taken_57 rfl ?_
      refine A_get (v := .ref 5) d_UF_taken_58 (fo_UF_34_11 rfl) (vA_s (by decide)) rfl rfl ?_
      refine A_get (v := .ref 7) d_UF_taken_61 (fo_UF_124_10 rfl) (vA_s (by decide)) rfl rfl ?_
      refine A_iload_n d_UF_taken_64 rfl ?_
      obtain ⟨c3, H⟩ := H
      refine A_iald (n := 7) d_UF_taken_65 (vA_s (by decide)) rfl c3 ?_
      refine A_if_ne 72 d_UF_taken_66 (by decide) (fun z => ?_) (fun z => ?_)
      · have H := H.1 z
        exact r_UF_taken_72   _ _ _ _ H
      · have H := H.2 z
        refine A_bipush (-11) (by decide) d_UF_taken_69 ?_
        exact A_iret d_UF_taken_71 rfl rfl H
set_option maxRecDepth 20000 in
theorem r_UF_taken_0 {G : GG} {d : Nat} {Q : Int32 → AH → Prop} (x1 : Int32) (x2 : Int32) (h : AH) (H : p_UF_taken Q x1 x2 h) : Att G T1 m_UF_taken (d + 3) 0 [some (.ref 0), some (.int x1), some (.int x2), none, none] [] h 0 0 (iQ Q) := by
  refine A_iload_n d_UF_taken_0 rfl ?_
  refine A_iconst 0 (by decide) d_UF_taken_1 ?_
  refine A_bipush 6 (by decide) d_UF_taken_2 ?_
  refine A_cI [.int x2, .int 0, .int 6] [] (ct_UF_95 rfl) d_UF_taken_4 rfl rfl (by decide) (Nat.le_of_ble_eq_true rfl) trivial (ok_UF_within (d := d + 2) H) (fun r2 h1 H => ?_)
  refine A_if_ne 13 d_UF_taken_7 (by decide) (fun z => ?_) (fun z => ?_)
  · have H := H.1 z
    refine A_iload_n d_UF_taken_13 rfl ?_
    refine A_iconst 0 (by decide) d_UF_taken_14 ?_
    refine A_bipush 13 (by decide) d_UF_taken_15 ?_
    refine A_cI [.int x1, .int 0, .int 13] [] (ct_UF_95 rfl) d_UF_taken_17 rfl rfl (by decide) (Nat.le_of_ble_eq_true rfl) trivial (ok_UF_within (d := d + 2) H) (fun r4 h3 H => ?_)
    refine A_if_ne 26 d_UF_taken_20 (by decide) (fun z => ?_) (fun z => ?_)
    · have H := H.1 z
      refine A_iload_n d_UF_taken_26 rfl ?_
      refine A_bipush 7 (by decide) d_UF_taken_27 ?_
      refine A_irem (by decide) d_UF_taken_29 ?_
      refine A_istore_n [some (.ref 0), some (.int x1), some (.int x2), some (.int (x1 - x1 / 7 * 7)), none] d_UF_taken_30 (by decide) rfl rfl ?_
      refine A_iload_n d_UF_taken_31 rfl ?_
      refine A_bipush 7 (by decide) d_UF_taken_32 ?_
      refine A_icmp_lt 41 d_UF_taken_34 (by decide) (fun z => ?_) (fun z => ?_)
      · have H := H.1 z
        refine A_iconst 0 (by decide) d_UF_taken_41 ?_
        refine A_sub (L' := [some (.ref 0), none, some (.int x2), some (.int (x1 - x1 / 7 * 7)), none]) ⟨rfl, rfl, rfl, trivial⟩ ?_
        exact r_UF_taken_42   _ _ _ _ H
      · have H := H.2 z
        refine A_iconst 1 (by decide) d_UF_taken_37 ?_
        refine A_goto 42 d_UF_taken_38 (by decide) ?_
        refine A_sub (L' := [some (.ref 0), none, some (.int x2), some (.int (x1 - x1 / 7 * 7)), none]) ⟨rfl, rfl, rfl, trivial⟩ ?_
        exact r_UF_taken_42   _ _ _ _ H
    · have H := H.2 z
      refine A_bipush (-12) (by decide) d_UF_taken_23 ?_
      exact A_iret d_UF_taken_25 rfl rfl H
  · have H := H.2 z
    refine A_bipush (-2) (by decide) d_UF_taken_10 ?_
    exact A_iret d_UF_taken_12 rfl rfl H
set_option maxRecDepth 20000 in
theorem ok_UF_taken {G : GG} {d : Nat} {Q : Int32 → AH → Prop} {x1 : Int32} {x2 : Int32} {h : AH} (H : p_UF_taken Q x1 x2 h) : WP G T1 m_UF_taken (d + 3) [.ref 0, .int x1, .int x2] h 0 0 (iQ Q) := by
  exact WP.enter 2 (by decide) rfl rfl (r_UF_taken_0 x1 x2 h H)
theorem d_MO_eRead_0 : decode prog_14_method_21_code 0 = .ok (.aload_n 0, 1) := by decide +kernel
theorem d_MO_eRead_1 : decode prog_14_method_21_code 1 = .ok (.iconst 0, 1) := by decide +kernel
theorem d_MO_eRead_2 : decode prog_14_method_21_code 2 = .ok (.putfield 135, 3) := by decide +kernel
theorem d_MO_eRead_5 : decode prog_14_method_21_code 5 = .ok (.aload_n 0, 1) := by decide +kernel
theorem d_MO_eRead_6 : decode prog_14_method_21_code 6 = .ok (.iconst 0, 1) := by decide +kernel
theorem d_MO_eRead_7 : decode prog_14_method_21_code 7 = .ok (.putfield 142, 3) := by decide +kernel
theorem d_MO_eRead_10 : decode prog_14_method_21_code 10 = .ok (.iconst 1, 1) := by decide +kernel
theorem d_MO_eRead_11 : decode prog_14_method_21_code 11 = .ok (.istore_n 1, 1) := by decide +kernel
theorem d_MO_eRead_12 : decode prog_14_method_21_code 12 = .ok (.iconst 1, 1) := by decide +kernel
theorem d_MO_eRead_13 : decode prog_14_method_21_code 13 = .ok (.istore_n 2, 1) := by decide +kernel
theorem d_MO_eRead_14 : decode prog_14_method_21_code 14 = .ok (.aload_n 0, 1) := by decide +kernel
theorem d_MO_eRead_15 : decode prog_14_method_21_code 15 = .ok (.invokevirtual 155, 3) := by decide +kernel
theorem d_MO_eRead_18 : decode prog_14_method_21_code 18 = .ok (.iload_n 1, 1) := by decide +kernel
theorem d_MO_eRead_19 : decode prog_14_method_21_code 19 = .ok (.ifCond .eq 131, 3) := by decide +kernel
theorem d_MO_eRead_22 : decode prog_14_method_21_code 22 = .ok (.aload_n 0, 1) := by decide +kernel
theorem d_MO_eRead_23 : decode prog_14_method_21_code 23 = .ok (.getfield 122, 3) := by decide +kernel
theorem d_MO_eRead_26 : decode prog_14_method_21_code 26 = .ok (.iconst 1, 1) := by decide +kernel
theorem d_MO_eRead_27 : decode prog_14_method_21_code 27 = .ok (.if_icmp .eq 11, 3) := by decide +kernel
theorem d_MO_eRead_30 : decode prog_14_method_21_code 30 = .ok (.aload_n 0, 1) := by decide +kernel
theorem d_MO_eRead_31 : decode prog_14_method_21_code 31 = .ok (.getfield 122, 3) := by decide +kernel
theorem d_MO_eRead_34 : decode prog_14_method_21_code 34 = .ok (.iconst 2, 1) := by decide +kernel
theorem d_MO_eRead_35 : decode prog_14_method_21_code 35 = .ok (.if_icmp .ne 40, 3) := by decide +kernel
theorem d_MO_eRead_38 : decode prog_14_method_21_code 38 = .ok (.aload_n 0, 1) := by decide +kernel
theorem d_MO_eRead_39 : decode prog_14_method_21_code 39 = .ok (.aload_n 0, 1) := by decide +kernel
theorem d_MO_eRead_40 : decode prog_14_method_21_code 40 = .ok (.getfield 122, 3) := by decide +kernel
theorem d_MO_eRead_43 : decode prog_14_method_21_code 43 = .ok (.iconst 1, 1) := by decide +kernel
theorem d_MO_eRead_44 : decode prog_14_method_21_code 44 = .ok (.if_icmp .ne 13, 3) := by decide +kernel
theorem d_MO_eRead_47 : decode prog_14_method_21_code 47 = .ok (.ldc 158, 2) := by decide +kernel
theorem d_MO_eRead_49 : decode prog_14_method_21_code 49 = .ok (.aload_n 0, 1) := by decide +kernel
theorem d_MO_eRead_50 : decode prog_14_method_21_code 50 = .ok (.getfield 125, 3) := by decide +kernel
theorem d_MO_eRead_53 : decode prog_14_method_21_code 53 = .ok (.iadd, 1) := by decide +kernel
theorem d_MO_eRead_54 : decode prog_14_method_21_code 54 = .ok (.goto 7, 3) := by decide +kernel
theorem d_MO_eRead_57 : decode prog_14_method_21_code 57 = .ok (.aload_n 0, 1) := by decide +kernel
theorem d_MO_eRead_58 : decode prog_14_method_21_code 58 = .ok (.getfield 125, 3) := by decide +kernel
theorem d_MO_eRead_61 : decode prog_14_method_21_code 61 = .ok (.invokevirtual 145, 3) := by decide +kernel
theorem d_MO_eRead_64 : decode prog_14_method_21_code 64 = .ok (.aload_n 0, 1) := by decide +kernel
theorem d_MO_eRead_65 : decode prog_14_method_21_code 65 = .ok (.bipush 7, 2) := by decide +kernel
theorem d_MO_eRead_67 : decode prog_14_method_21_code 67 = .ok (.invokevirtual 152, 3) := by decide +kernel
theorem d_MO_eRead_70 : decode prog_14_method_21_code 70 = .ok (.iconst 0, 1) := by decide +kernel
theorem d_MO_eRead_71 : decode prog_14_method_21_code 71 = .ok (.istore_n 1, 1) := by decide +kernel
theorem d_MO_eRead_72 : decode prog_14_method_21_code 72 = .ok (.goto (-58), 3) := by decide +kernel
theorem d_MO_eRead_75 : decode prog_14_method_21_code 75 = .ok (.aload_n 0, 1) := by decide +kernel
theorem d_MO_eRead_76 : decode prog_14_method_21_code 76 = .ok (.getfield 122, 3) := by decide +kernel
theorem d_MO_eRead_79 : decode prog_14_method_21_code 79 = .ok (.bipush 6, 2) := by decide +kernel
theorem d_MO_eRead_81 : decode prog_14_method_21_code 81 = .ok (.if_icmp .ne 18, 3) := by decide +kernel
theorem d_MO_eRead_84 : decode prog_14_method_21_code 84 = .ok (.iload_n 2, 1) := by decide +kernel
theorem d_MO_eRead_85 : decode prog_14_method_21_code 85 = .ok (.ifCond .eq 14, 3) := by decide +kernel
theorem d_MO_eRead_88 : decode prog_14_method_21_code 88 = .ok (.aload_n 0, 1) := by decide +kernel
theorem d_MO_eRead_89 : decode prog_14_method_21_code 89 = .ok (.bipush 13, 2) := by decide +kernel
theorem d_MO_eRead_91 : decode prog_14_method_21_code 91 = .ok (.invokevirtual 159, 3) := by decide +kernel
theorem d_MO_eRead_94 : decode prog_14_method_21_code 94 = .ok (.ifCond .ne (-80), 3) := by decide +kernel
theorem d_MO_eRead_97 : decode prog_14_method_21_code 97 = .ok (.iconst 0, 1) := by decide +kernel
theorem d_MO_eRead_98 : decode prog_14_method_21_code 98 = .ok (.ireturn, 1) := by decide +kernel
theorem d_MO_eRead_99 : decode prog_14_method_21_code 99 = .ok (.aload_n 0, 1) := by decide +kernel
theorem d_MO_eRead_100 : decode prog_14_method_21_code 100 = .ok (.getfield 122, 3) := by decide +kernel
theorem d_MO_eRead_103 : decode prog_14_method_21_code 103 = .ok (.bipush 45, 2) := by decide +kernel
theorem d_MO_eRead_105 : decode prog_14_method_21_code 105 = .ok (.if_icmp .ne 19, 3) := by decide +kernel
theorem d_MO_eRead_108 : decode prog_14_method_21_code 108 = .ok (.aload_n 0, 1) := by decide +kernel
theorem d_MO_eRead_109 : decode prog_14_method_21_code 109 = .ok (.bipush 19, 2) := by decide +kernel
theorem d_MO_eRead_111 : decode prog_14_method_21_code 111 = .ok (.invokevirtual 159, 3) := by decide +kernel
theorem d_MO_eRead_114 : decode prog_14_method_21_code 114 = .ok (.ifCond .ne 5, 3) := by decide +kernel
theorem d_MO_eRead_117 : decode prog_14_method_21_code 117 = .ok (.iconst 0, 1) := by decide +kernel
theorem d_MO_eRead_118 : decode prog_14_method_21_code 118 = .ok (.ireturn, 1) := by decide +kernel
theorem d_MO_eRead_119 : decode prog_14_method_21_code 119 = .ok (.iconst 0, 1) := by decide +kernel
theorem d_MO_eRead_120 : decode prog_14_method_21_code 120 = .ok (.istore_n 2, 1) := by decide +kernel
theorem d_MO_eRead_121 : decode prog_14_method_21_code 121 = .ok (.goto (-107), 3) := by decide +kernel
theorem d_MO_eRead_124 : decode prog_14_method_21_code 124 = .ok (.aload_n 0, 1) := by decide +kernel
theorem d_MO_eRead_125 : decode prog_14_method_21_code 125 = .ok (.getfield 122, 3) := by decide +kernel
theorem d_MO_eRead_128 : decode prog_14_method_21_code 128 = .ok (.bipush 40, 2) := by decide +kernel
theorem d_MO_eRead_130 : decode prog_14_method_21_code 130 = .ok (.if_icmp .ne 18, 3) := by decide +kernel
theorem d_MO_eRead_133 : decode prog_14_method_21_code 133 = .ok (.aload_n 0, 1) := by decide +kernel
theorem d_MO_eRead_134 : decode prog_14_method_21_code 134 = .ok (.iconst 0, 1) := by decide +kernel
theorem d_MO_eRead_135 : decode prog_14_method_21_code 135 = .ok (.invokevirtual 159, 3) := by decide +kernel
theorem d_MO_eRead_138 : decode prog_14_method_21_code 138 = .ok (.ifCond .ne 5, 3) := by decide +kernel
theorem d_MO_eRead_141 : decode prog_14_method_21_code 141 = .ok (.iconst 0, 1) := by decide +kernel
theorem d_MO_eRead_142 : decode prog_14_method_21_code 142 = .ok (.ireturn, 1) := by decide +kernel
theorem d_MO_eRead_143 : decode prog_14_method_21_code 143 = .ok (.iconst 1, 1) := by decide +kernel
theorem d_MO_eRead_144 : decode prog_14_method_21_code 144 = .ok (.istore_n 2, 1) := by decide +kernel
theorem d_MO_eRead_145 : decode prog_14_method_21_code 145 = .ok (.goto (-131), 3) := by decide +kernel
theorem d_MO_eRead_148 : decode prog_14_method_21_code 148 = .ok (.iconst 0, 1) := by decide +kernel
theorem d_MO_eRead_149 : decode prog_14_method_21_code 149 = .ok (.ireturn, 1) := by decide +kernel
theorem d_MO_eRead_150 : decode prog_14_method_21_code 150 = .ok (.aload_n 0, 1) := by decide +kernel
theorem d_MO_eRead_151 : decode prog_14_method_21_code 151 = .ok (.getfield 122, 3) := by decide +kernel
theorem d_MO_eRead_154 : decode prog_14_method_21_code 154 = .ok (.bipush 59, 2) := by decide +kernel
theorem d_MO_eRead_156 : decode prog_14_method_21_code 156 = .ok (.if_icmp .ne 21, 3) := by decide +kernel
theorem d_MO_eRead_159 : decode prog_14_method_21_code 159 = .ok (.aload_n 0, 1) := by decide +kernel
theorem d_MO_eRead_160 : decode prog_14_method_21_code 160 = .ok (.iconst 1, 1) := by decide +kernel
theorem d_MO_eRead_161 : decode prog_14_method_21_code 161 = .ok (.invokevirtual 152, 3) := by decide +kernel
theorem d_MO_eRead_164 : decode prog_14_method_21_code 164 = .ok (.aload_n 0, 1) := by decide +kernel
theorem d_MO_eRead_165 : decode prog_14_method_21_code 165 = .ok (.getfield 135, 3) := by decide +kernel
theorem d_MO_eRead_168 : decode prog_14_method_21_code 168 = .ok (.ifCond .ne 7, 3) := by decide +kernel
theorem d_MO_eRead_171 : decode prog_14_method_21_code 171 = .ok (.iconst 1, 1) := by decide +kernel
theorem d_MO_eRead_172 : decode prog_14_method_21_code 172 = .ok (.goto 4, 3) := by decide +kernel
theorem d_MO_eRead_175 : decode prog_14_method_21_code 175 = .ok (.iconst 0, 1) := by decide +kernel
theorem d_MO_eRead_176 : decode prog_14_method_21_code 176 = .ok (.ireturn, 1) := by decide +kernel
theorem d_MO_eRead_177 : decode prog_14_method_21_code 177 = .ok (.aload_n 0, 1) := by decide +kernel
theorem d_MO_eRead_178 : decode prog_14_method_21_code 178 = .ok (.getfield 122, 3) := by decide +kernel
theorem d_MO_eRead_181 : decode prog_14_method_21_code 181 = .ok (.bipush 41, 2) := by decide +kernel
theorem d_MO_eRead_183 : decode prog_14_method_21_code 183 = .ok (.if_icmp .ne 46, 3) := by decide +kernel
theorem d_MO_eRead_186 : decode prog_14_method_21_code 186 = .ok (.aload_n 0, 1) := by decide +kernel
theorem d_MO_eRead_187 : decode prog_14_method_21_code 187 = .ok (.iconst 1, 1) := by decide +kernel
theorem d_MO_eRead_188 : decode prog_14_method_21_code 188 = .ok (.invokevirtual 152, 3) := by decide +kernel
theorem d_MO_eRead_191 : decode prog_14_method_21_code 191 = .ok (.aload_n 0, 1) := by decide +kernel
theorem d_MO_eRead_192 : decode prog_14_method_21_code 192 = .ok (.getfield 135, 3) := by decide +kernel
theorem d_MO_eRead_195 : decode prog_14_method_21_code 195 = .ok (.ifCond .ne 5, 3) := by decide +kernel
theorem d_MO_eRead_198 : decode prog_14_method_21_code 198 = .ok (.iconst 0, 1) := by decide +kernel
theorem d_MO_eRead_199 : decode prog_14_method_21_code 199 = .ok (.ireturn, 1) := by decide +kernel
theorem d_MO_eRead_200 : decode prog_14_method_21_code 200 = .ok (.aload_n 0, 1) := by decide +kernel
theorem d_MO_eRead_201 : decode prog_14_method_21_code 201 = .ok (.dup, 1) := by decide +kernel
theorem d_MO_eRead_202 : decode prog_14_method_21_code 202 = .ok (.getfield 135, 3) := by decide +kernel
theorem d_MO_eRead_205 : decode prog_14_method_21_code 205 = .ok (.iconst 1, 1) := by decide +kernel
theorem d_MO_eRead_206 : decode prog_14_method_21_code 206 = .ok (.isub, 1) := by decide +kernel
theorem d_MO_eRead_207 : decode prog_14_method_21_code 207 = .ok (.putfield 135, 3) := by decide +kernel
theorem d_MO_eRead_210 : decode prog_14_method_21_code 210 = .ok (.aload_n 0, 1) := by decide +kernel
theorem d_MO_eRead_211 : decode prog_14_method_21_code 211 = .ok (.dup, 1) := by decide +kernel
theorem d_MO_eRead_212 : decode prog_14_method_21_code 212 = .ok (.getfield 142, 3) := by decide +kernel
theorem d_MO_eRead_215 : decode prog_14_method_21_code 215 = .ok (.iconst 1, 1) := by decide +kernel
theorem d_MO_eRead_216 : decode prog_14_method_21_code 216 = .ok (.isub, 1) := by decide +kernel
theorem d_MO_eRead_217 : decode prog_14_method_21_code 217 = .ok (.putfield 142, 3) := by decide +kernel
theorem d_MO_eRead_220 : decode prog_14_method_21_code 220 = .ok (.aload_n 0, 1) := by decide +kernel
theorem d_MO_eRead_221 : decode prog_14_method_21_code 221 = .ok (.bipush 7, 2) := by decide +kernel
theorem d_MO_eRead_223 : decode prog_14_method_21_code 223 = .ok (.invokevirtual 152, 3) := by decide +kernel
theorem d_MO_eRead_226 : decode prog_14_method_21_code 226 = .ok (.goto (-212), 3) := by decide +kernel
theorem d_MO_eRead_229 : decode prog_14_method_21_code 229 = .ok (.aload_n 0, 1) := by decide +kernel
theorem d_MO_eRead_230 : decode prog_14_method_21_code 230 = .ok (.invokevirtual 162, 3) := by decide +kernel
theorem d_MO_eRead_233 : decode prog_14_method_21_code 233 = .ok (.istore_n 3, 1) := by decide +kernel
theorem d_MO_eRead_234 : decode prog_14_method_21_code 234 = .ok (.iload_n 3, 1) := by decide +kernel
theorem d_MO_eRead_235 : decode prog_14_method_21_code 235 = .ok (.iconst (-1), 1) := by decide +kernel
theorem d_MO_eRead_236 : decode prog_14_method_21_code 236 = .ok (.if_icmp .eq 11, 3) := by decide +kernel
theorem d_MO_eRead_239 : decode prog_14_method_21_code 239 = .ok (.aload_n 0, 1) := by decide +kernel
theorem d_MO_eRead_240 : decode prog_14_method_21_code 240 = .ok (.iload_n 3, 1) := by decide +kernel
theorem d_MO_eRead_241 : decode prog_14_method_21_code 241 = .ok (.invokevirtual 165, 3) := by decide +kernel
theorem d_MO_eRead_244 : decode prog_14_method_21_code 244 = .ok (.ifCond .ne 5, 3) := by decide +kernel
theorem d_MO_eRead_247 : decode prog_14_method_21_code 247 = .ok (.iconst 0, 1) := by decide +kernel
theorem d_MO_eRead_248 : decode prog_14_method_21_code 248 = .ok (.ireturn, 1) := by decide +kernel
theorem d_MO_eRead_249 : decode prog_14_method_21_code 249 = .ok (.iconst 1, 1) := by decide +kernel
theorem d_MO_eRead_250 : decode prog_14_method_21_code 250 = .ok (.istore_n 1, 1) := by decide +kernel
theorem d_MO_eRead_251 : decode prog_14_method_21_code 251 = .ok (.iload_n 3, 1) := by decide +kernel
theorem d_MO_eRead_252 : decode prog_14_method_21_code 252 = .ok (.bipush 12, 2) := by decide +kernel
theorem d_MO_eRead_254 : decode prog_14_method_21_code 254 = .ok (.if_icmp .gt 7, 3) := by decide +kernel
theorem d_MO_eRead_257 : decode prog_14_method_21_code 257 = .ok (.iconst 1, 1) := by decide +kernel
theorem d_MO_eRead_258 : decode prog_14_method_21_code 258 = .ok (.goto 4, 3) := by decide +kernel
theorem d_MO_eRead_261 : decode prog_14_method_21_code 261 = .ok (.iconst 0, 1) := by decide +kernel
theorem d_MO_eRead_262 : decode prog_14_method_21_code 262 = .ok (.istore_n 2, 1) := by decide +kernel
theorem d_MO_eRead_263 : decode prog_14_method_21_code 263 = .ok (.goto (-249), 3) := by decide +kernel
def p_MO_eRead_262 (Q : Int32 → AH → Prop) (K14 : Int32 → Int32 → AH → Prop) (x1 : Int32) (s0 : Int32) (h : AH) : Prop := K14 x1 s0 h
def p_MO_eRead_99 (Q : Int32 → AH → Prop) (K14 : Int32 → Int32 → AH → Prop) (x1 : Int32) (h : AH) : Prop := ((¬ (h.1 59 23) = 45 → ((¬ (h.1 59 23) = 40 → Q 0 h) ∧ ((h.1 59 23) = 40 → p_MO_opensOne (fun r2 h1 => ((¬ r2 = 0 → K14 x1 1 h1) ∧ (r2 = 0 → Q 0 h1))) 0 h))) ∧ ((h.1 59 23) = 45 → p_MO_opensOne (fun r4 h3 => ((¬ r4 = 0 → K14 x1 0 h3) ∧ (r4 = 0 → Q 0 h3))) 19 h))
def p_MO_eRead_61 (Q : Int32 → AH → Prop) (K14 : Int32 → Int32 → AH → Prop) (x2 : Int32) (s1 : Int32) (h : AH) : Prop := p_MO_puts (fun h1 => p_MO_unwinds (fun h2 => K14 0 x2 h2) 7 h1) s1 h
def p_MO_eRead_38 (Q : Int32 → AH → Prop) (K14 : Int32 → Int32 → AH → Prop) (x2 : Int32) (h : AH) : Prop := ((¬ (h.1 59 23) = 1 → p_MO_eRead_61 Q  K14 x2 (h.1 59 24) h) ∧ ((h.1 59 23) = 1 → p_MO_eRead_61 Q  K14 x2 (100000 + (h.1 59 24)) h))
def p_MO_eRead_14 (Q : Int32 → AH → Prop) : Nat → Int32 → Int32 → AH → Prop
  | 0 => fun _ _ _ => False
  | n + 1 => fun x1 x2 h => let K14 := p_MO_eRead_14 Q n; p_MO_next (fun h1 => ((x1 = 0 → ((¬ (h1.1 59 23) = 59 → ((¬ (h1.1 59 23) = 41 → p_MO_signOf (fun r3 h2 => ((r3 = (-1) → Q 0 h2) ∧ (¬ r3 = (-1) → p_MO_between (fun r5 h4 => ((¬ r5 = 0 → ((12 < r3 → p_MO_eRead_262 Q  K14 1 0 h4) ∧ (¬ 12 < r3 → p_MO_eRead_262 Q  K14 1 1 h4))) ∧ (r5 = 0 → Q 0 h4))) r3 h2))) h1) ∧ ((h1.1 59 23) = 41 → p_MO_unwinds (fun h6 => ((¬ (h6.1 59 27) = 0 → p_MO_unwinds (fun h7 => K14 x1 x2 h7) 7 (wI (wI h6 59 27 ((h6.1 59 27) - 1)) 59 28 (((wI h6 59 27 ((h6.1 59 27) - 1)).1 59 28) - 1))) ∧ ((h6.1 59 27) = 0 → Q 0 h6))) 1 h1))) ∧ ((h1.1 59 23) = 59 → p_MO_unwinds (fun h8 => ((¬ (h8.1 59 27) = 0 → Q 0 h8) ∧ ((h8.1 59 27) = 0 → Q 1 h8))) 1 h1))) ∧ (¬ x1 = 0 → (((h1.1 59 23) = 1 → p_MO_eRead_38 Q  K14 x2 h1) ∧ (¬ (h1.1 59 23) = 1 → ((¬ (h1.1 59 23) = 2 → ((¬ (h1.1 59 23) = 6 → p_MO_eRead_99 Q  K14 x1 h1) ∧ ((h1.1 59 23) = 6 → ((x2 = 0 → p_MO_eRead_99 Q  K14 x1 h1) ∧ (¬ x2 = 0 → p_MO_opensOne (fun r10 h9 => ((¬ r10 = 0 → K14 x1 x2 h9) ∧ (r10 = 0 → Q 0 h9))) 13 h1))))) ∧ ((h1.1 59 23) = 2 → p_MO_eRead_38 Q  K14 x2 h1))))))) h
def p_MO_eRead (Q : Int32 → AH → Prop) (h : AH) : Prop := ∃ n, p_MO_eRead_14 Q   n 1 1 (wI (wI h 59 27 0) 59 28 0)
set_option maxRecDepth 20000 in
theorem r_MO_eRead_262 {G : GG} {d : Nat} {Q : Int32 → AH → Prop} {K14 : Int32 → Int32 → AH → Prop} (k14 : ∀ x1 x2 h, K14 x1 x2 h → Att G T1 m_MO_eRead (d + 3) 14 [some (.ref 59), some (.int x1), some (.int x2), none] [] h 0 0 (iQ Q)) (x1 : Int32) (s0 : Int32) (h : AH) (H : p_MO_eRead_262 Q K14 x1 s0 h) : Att G T1 m_MO_eRead (d + 3) 262 [some (.ref 59), some (.int x1), none, none] [.int s0] h 0 0 (iQ Q) := by
  refine A_istore_n [some (.ref 59), some (.int x1), some (.int s0), none] d_MO_eRead_262 (by decide) rfl rfl ?_
  refine A_goto 14 d_MO_eRead_263 (by decide) ?_
  exact k14 _ _ _ H
set_option maxRecDepth 20000 in
theorem r_MO_eRead_99 {G : GG} {d : Nat} {Q : Int32 → AH → Prop} {K14 : Int32 → Int32 → AH → Prop} (k14 : ∀ x1 x2 h, K14 x1 x2 h → Att G T1 m_MO_eRead (d + 3) 14 [some (.ref 59), some (.int x1), some (.int x2), none] [] h 0 0 (iQ Q)) (x1 : Int32) (h : AH) (H : p_MO_eRead_99 Q K14 x1 h) : Att G T1 m_MO_eRead (d + 3) 99 [some (.ref 59), some (.int x1), none, none] [] h 0 0 (iQ Q) := by
  refine A_aload_n d_MO_eRead_99 rfl ?_
  refine A_get (v := .int (h.1 59 23)) d_MO_eRead_100 (fo_MO_122_12 rfl) (vA_s (by decide)) rfl rfl ?_
  refine A_bipush 45 (by decide) d_MO_eRead_103 ?_
  refine A_icmp_ne 124 d_MO_eRead_105 (by decide) (fun z => ?_) (fun z => ?_)
  · have H := H.1 z
    refine A_aload_n d_MO_eRead_124 rfl ?_
    refine A_get (v := .int (h.1 59 23)) d_MO_eRead_125 (fo_MO_122_12 rfl) (vA_s (by decide)) rfl rfl ?_
    refine A_bipush 40 (by decide) d_MO_eRead_128 ?_
    refine A_icmp_ne 148 d_MO_eRead_130 (by decide) (fun z => ?_) (fun z => ?_)
    · have H := H.1 z
      refine A_iconst 0 (by decide) d_MO_eRead_148 ?_
      exact A_iret d_MO_eRead_149 rfl rfl H
    · have H := H.2 z
      refine A_aload_n d_MO_eRead_133 rfl ?_
      refine A_iconst 0 (by decide) d_MO_eRead_134 ?_
      refine A_cI [.ref 59, .int 0] [] (ct_MO_159 rfl) d_MO_eRead_135 rfl rfl (by decide) (Nat.le_of_ble_eq_true rfl) (rcA_o (c := 12) rfl (vA_s (by decide)) rfl (by decide) rfl) (ok_MO_opensOne (d := d + 1) H) (fun r2 h1 H => ?_)
      refine A_if_ne 143 d_MO_eRead_138 (by decide) (fun z => ?_) (fun z => ?_)
      · have H := H.1 z
        refine A_iconst 1 (by decide) d_MO_eRead_143 ?_
        refine A_istore_n [some (.ref 59), some (.int x1), some (.int 1), none] d_MO_eRead_144 (by decide) rfl rfl ?_
        refine A_goto 14 d_MO_eRead_145 (by decide) ?_
        exact k14 _ _ _ H
      · have H := H.2 z
        refine A_iconst 0 (by decide) d_MO_eRead_141 ?_
        exact A_iret d_MO_eRead_142 rfl rfl H
  · have H := H.2 z
    refine A_aload_n d_MO_eRead_108 rfl ?_
    refine A_bipush 19 (by decide) d_MO_eRead_109 ?_
    refine A_cI [.ref 59, .int 19] [] (ct_MO_159 rfl) d_MO_eRead_111 rfl rfl (by decide) (Nat.le_of_ble_eq_true rfl) (rcA_o (c := 12) rfl (vA_s (by decide)) rfl (by decide) rfl) (ok_MO_opensOne (d := d + 1) H) (fun r4 h3 H => ?_)
    refine A_if_ne 119 d_MO_eRead_114 (by decide) (fun z => ?_) (fun z => ?_)
    · have H := H.1 z
      refine A_iconst 0 (by decide) d_MO_eRead_119 ?_
      refine A_istore_n [some (.ref 59), some (.int x1), some (.int 0), none] d_MO_eRead_120 (by decide) rfl rfl ?_
      refine A_goto 14 d_MO_eRead_121 (by decide) ?_
      exact k14 _ _ _ H
    · have H := H.2 z
      refine A_iconst 0 (by decide) d_MO_eRead_117 ?_
      exact A_iret d_MO_eRead_118 rfl rfl H
set_option maxRecDepth 20000 in
theorem r_MO_eRead_61 {G : GG} {d : Nat} {Q : Int32 → AH → Prop} {K14 : Int32 → Int32 → AH → Prop} (k14 : ∀ x1 x2 h, K14 x1 x2 h → Att G T1 m_MO_eRead (d + 3) 14 [some (.ref 59), some (.int x1), some (.int x2), none] [] h 0 0 (iQ Q)) (x2 : Int32) (s1 : Int32) (h : AH) (H : p_MO_eRead_61 Q K14 x2 s1 h) : Att G T1 m_MO_eRead (d + 3) 61 [some (.ref 59), none, some (.int x2), none] [.int s1, .ref 59] h 0 0 (iQ Q) := by
  refine A_cV [.ref 59, .int s1] [] (ct_MO_145 rfl) d_MO_eRead_61 rfl rfl (by decide) (Nat.le_of_ble_eq_true rfl) (rcA_o (c := 12) rfl (vA_s (by decide)) rfl (by decide) rfl) (ok_MO_puts (d := d + 2) H) (fun h1 H => ?_)
  refine A_aload_n d_MO_eRead_64 rfl ?_
  refine A_bipush 7 (by decide) d_MO_eRead_65 ?_
  refine A_cV [.ref 59, .int 7] [] (ct_MO_152 rfl) d_MO_eRead_67 rfl rfl (by decide) (Nat.le_of_ble_eq_true rfl) (rcA_o (c := 12) rfl (vA_s (by decide)) rfl (by decide) rfl) (ok_MO_unwinds (d := d + 1) H) (fun h2 H => ?_)
  refine A_iconst 0 (by decide) d_MO_eRead_70 ?_
  refine A_istore_n [some (.ref 59), some (.int 0), some (.int x2), none] d_MO_eRead_71 (by decide) rfl rfl ?_
  refine A_goto 14 d_MO_eRead_72 (by decide) ?_
  exact k14 _ _ _ H
set_option maxRecDepth 20000 in
theorem r_MO_eRead_38 {G : GG} {d : Nat} {Q : Int32 → AH → Prop} {K14 : Int32 → Int32 → AH → Prop} (k14 : ∀ x1 x2 h, K14 x1 x2 h → Att G T1 m_MO_eRead (d + 3) 14 [some (.ref 59), some (.int x1), some (.int x2), none] [] h 0 0 (iQ Q)) (x2 : Int32) (h : AH) (H : p_MO_eRead_38 Q K14 x2 h) : Att G T1 m_MO_eRead (d + 3) 38 [some (.ref 59), none, some (.int x2), none] [] h 0 0 (iQ Q) := by
  refine A_aload_n d_MO_eRead_38 rfl ?_
  refine A_aload_n d_MO_eRead_39 rfl ?_
  refine A_get (v := .int (h.1 59 23)) d_MO_eRead_40 (fo_MO_122_12 rfl) (vA_s (by decide)) rfl rfl ?_
  refine A_iconst 1 (by decide) d_MO_eRead_43 ?_
  refine A_icmp_ne 57 d_MO_eRead_44 (by decide) (fun z => ?_) (fun z => ?_)
  · have H := H.1 z
    refine A_aload_n d_MO_eRead_57 rfl ?_
    refine A_get (v := .int (h.1 59 24)) d_MO_eRead_58 (fo_MO_125_12 rfl) (vA_s (by decide)) rfl rfl ?_
    exact r_MO_eRead_61  k14 _ _ _ H
  · have H := H.2 z
    refine A_ldc 100000 d_MO_eRead_47 (tG 855 (by decide +kernel) (by decide +kernel)) ?_
    refine A_aload_n d_MO_eRead_49 rfl ?_
    refine A_get (v := .int (h.1 59 24)) d_MO_eRead_50 (fo_MO_125_12 rfl) (vA_s (by decide)) rfl rfl ?_
    refine A_iadd d_MO_eRead_53 ?_
    refine A_goto 61 d_MO_eRead_54 (by decide) ?_
    exact r_MO_eRead_61  k14 _ _ _ H
set_option maxRecDepth 20000 in
theorem r_MO_eRead_14 {G : GG} {d : Nat} {Q : Int32 → AH → Prop} : ∀ (n : Nat) (x1 : Int32) (x2 : Int32) (h : AH), p_MO_eRead_14 Q n x1 x2 h → Att G T1 m_MO_eRead (d + 3) 14 [some (.ref 59), some (.int x1), some (.int x2), none] [] h 0 0 (iQ Q) := by
  intro n
  induction n with
  | zero => intro x1 x2 h H; exact H.elim
  | succ n k14 =>
    intro x1 x2 h H
    refine A_aload_n d_MO_eRead_14 rfl ?_
    refine A_cV [.ref 59] [] (ct_MO_155 rfl) d_MO_eRead_15 rfl rfl (by decide) (Nat.le_of_ble_eq_true rfl) (rcA_o (c := 12) rfl (vA_s (by decide)) rfl (by decide) rfl) (ok_MO_next (d := d + 1) H) (fun h1 H => ?_)
    refine A_iload_n d_MO_eRead_18 rfl ?_
    refine A_if_eq 150 d_MO_eRead_19 (by decide) (fun z => ?_) (fun z => ?_)
    · have H := H.1 z
      refine A_aload_n d_MO_eRead_150 rfl ?_
      refine A_get (v := .int (h1.1 59 23)) d_MO_eRead_151 (fo_MO_122_12 rfl) (vA_s (by decide)) rfl rfl ?_
      refine A_bipush 59 (by decide) d_MO_eRead_154 ?_
      refine A_icmp_ne 177 d_MO_eRead_156 (by decide) (fun z => ?_) (fun z => ?_)
      · have H := H.1 z
        refine A_aload_n d_MO_eRead_177 rfl ?_
        refine A_get (v := .int (h1.1 59 23)) d_MO_eRead_178 (fo_MO_122_12 rfl) (vA_s (by decide)) rfl rfl ?_
        refine A_bipush 41 (by decide) d_MO_eRead_181 ?_
        refine A_icmp_ne 229 d_MO_eRead_183 (by decide) (fun z => ?_) (fun z => ?_)
        · have H := H.1 z
          refine A_aload_n d_MO_eRead_229 rfl ?_
          refine A_cI [.ref 59] [] (ct_MO_162 rfl) d_MO_eRead_230 rfl rfl (by decide) (Nat.le_of_ble_eq_true rfl) (rcA_o (c := 12) rfl (vA_s (by decide)) rfl (by decide) rfl) (ok_MO_signOf (d := d + 2) H) (fun r3 h2 H => ?_)
          refine A_istore_n [some (.ref 59), some (.int x1), some (.int x2), some (.int r3)] d_MO_eRead_233 (by decide) rfl rfl ?_
          refine A_iload_n d_MO_eRead_234 rfl ?_
          refine A_iconst (-1) (by decide) d_MO_eRead_235 ?_
          refine A_icmp_eq 247 d_MO_eRead_236 (by decide) (fun z => ?_) (fun z => ?_)
          · have H := H.1 z
            refine A_iconst 0 (by decide) d_MO_eRead_247 ?_
            exact A_iret d_MO_eRead_248 rfl rfl H
          · have H := H.2 z
            refine A_aload_n d_MO_eRead_239 rfl ?_
            refine A_iload_n d_MO_eRead_240 rfl ?_
            refine A_cI [.ref 59, .int r3] [] (ct_MO_165 rfl) d_MO_eRead_241 rfl rfl (by decide) (Nat.le_of_ble_eq_true rfl) (rcA_o (c := 12) rfl (vA_s (by decide)) rfl (by decide) rfl) (ok_MO_between (d := d) H) (fun r5 h4 H => ?_)
            refine A_if_ne 249 d_MO_eRead_244 (by decide) (fun z => ?_) (fun z => ?_)
            · have H := H.1 z
              refine A_iconst 1 (by decide) d_MO_eRead_249 ?_
              refine A_istore_n [some (.ref 59), some (.int 1), some (.int x2), some (.int r3)] d_MO_eRead_250 (by decide) rfl rfl ?_
              refine A_iload_n d_MO_eRead_251 rfl ?_
              refine A_bipush 12 (by decide) d_MO_eRead_252 ?_
              refine A_icmp_gt 261 d_MO_eRead_254 (by decide) (fun z => ?_) (fun z => ?_)
              · have H := H.1 z
                refine A_iconst 0 (by decide) d_MO_eRead_261 ?_
                refine A_sub (L' := [some (.ref 59), some (.int 1), none, none]) ⟨rfl, rfl, trivial⟩ ?_
                exact r_MO_eRead_262  k14 _ _ _ H
              · have H := H.2 z
                refine A_iconst 1 (by decide) d_MO_eRead_257 ?_
                refine A_goto 262 d_MO_eRead_258 (by decide) ?_
                refine A_sub (L' := [some (.ref 59), some (.int 1), none, none]) ⟨rfl, rfl, trivial⟩ ?_
                exact r_MO_eRead_262  k14 _ _ _ H
            · have H := H.2 z
              refine A_iconst 0 (by decide) d_MO_eRead_247 ?_
              exact A_iret d_MO_eRead_248 rfl rfl H
        · have H := H.2 z
          refine A_aload_n d_MO_eRead_186 rfl ?_
          refine A_iconst 1 (by decide) d_MO_eRead_187 ?_
          refine A_cV [.ref 59, .int 1] [] (ct_MO_152 rfl) d_MO_eRead_188 rfl rfl (by decide) (Nat.le_of_ble_eq_true rfl) (rcA_o (c := 12) rfl (vA_s (by decide)) rfl (by decide) rfl) (ok_MO_unwinds (d := d + 1) H) (fun h6 H => ?_)
          refine A_aload_n d_MO_eRead_191 rfl ?_
          refine A_get (v := .int (h6.1 59 27)) d_MO_eRead_192 (fo_MO_135_12 rfl) (vA_s (by decide)) rfl rfl ?_
          refine A_if_ne 200 d_MO_eRead_195 (by decide) (fun z => ?_) (fun z => ?_)
          · have H := H.1 z
            refine A_aload_n d_MO_eRead_200 rfl ?_
            refine A_dup rfl d_MO_eRead_201 ?_
            refine A_get (v := .int (h6.1 59 27)) d_MO_eRead_202 (fo_MO_135_12 rfl) (vA_s (by decide)) rfl rfl ?_
            refine A_iconst 1 (by decide) d_MO_eRead_205 ?_
            refine A_isub d_MO_eRead_206 ?_
            refine A_putI (k := 27) d_MO_eRead_207 (fo_MO_135_12 rfl) (Or.inr ⟨rfl, _, ft_12_27⟩) (fun z => by cases z) rfl (vA_s (by decide)) rfl rfl rfl ?_
            refine A_aload_n d_MO_eRead_210 rfl ?_
            refine A_dup rfl d_MO_eRead_211 ?_
            refine A_get (v := .int ((wI h6 59 27 ((h6.1 59 27) - 1)).1 59 28)) d_MO_eRead_212 (fo_MO_142_12 rfl) (vA_s (by decide)) rfl rfl ?_
            refine A_iconst 1 (by decide) d_MO_eRead_215 ?_
            refine A_isub d_MO_eRead_216 ?_
            refine A_putI (k := 28) d_MO_eRead_217 (fo_MO_142_12 rfl) (Or.inr ⟨rfl, _, ft_12_28⟩) (fun z => by cases z) rfl (vA_s (by decide)) rfl rfl rfl ?_
            refine A_aload_n d_MO_eRead_220 rfl ?_
            refine A_bipush 7 (by decide) d_MO_eRead_221 ?_
            refine A_cV [.ref 59, .int 7] [] (ct_MO_152 rfl) d_MO_eRead_223 rfl rfl (by decide) (Nat.le_of_ble_eq_true rfl) (rcA_o (c := 12) rfl (vA_s (by decide)) rfl (by decide) rfl) (ok_MO_unwinds (d := d + 1) H) (fun h7 H => ?_)
            refine A_goto 14 d_MO_eRead_226 (by decide) ?_
            exact k14 _ _ _ H
          · have H := H.2 z
            refine A_iconst 0 (by decide) d_MO_eRead_198 ?_
            exact A_iret d_MO_eRead_199 rfl rfl H
      · have H := H.2 z
        refine A_aload_n d_MO_eRead_159 rfl ?_
        refine A_iconst 1 (by decide) d_MO_eRead_160 ?_
        refine A_cV [.ref 59, .int 1] [] (ct_MO_152 rfl) d_MO_eRead_161 rfl rfl (by decide) (Nat.le_of_ble_eq_true rfl) (rcA_o (c := 12) rfl (vA_s (by decide)) rfl (by decide) rfl) (ok_MO_unwinds (d := d + 1) H) (fun h8 H => ?_)
        refine A_aload_n d_MO_eRead_164 rfl ?_
        refine A_get (v := .int (h8.1 59 27)) d_MO_eRead_165 (fo_MO_135_12 rfl) (vA_s (by decide)) rfl rfl ?_
        refine A_if_ne 175 d_MO_eRead_168 (by decide) (fun z => ?_) (fun z => ?_)
        · have H := H.1 z
          refine A_iconst 0 (by decide) d_MO_eRead_175 ?_
          exact A_iret d_MO_eRead_176 rfl rfl H
        · have H := H.2 z
          refine A_iconst 1 (by decide) d_MO_eRead_171 ?_
          refine A_goto 176 d_MO_eRead_172 (by decide) ?_
          exact A_iret d_MO_eRead_176 rfl rfl H
    · have H := H.2 z
      refine A_aload_n d_MO_eRead_22 rfl ?_
      refine A_get (v := .int (h1.1 59 23)) d_MO_eRead_23 (fo_MO_122_12 rfl) (vA_s (by decide)) rfl rfl ?_
      refine A_iconst 1 (by decide) d_MO_eRead_26 ?_
      refine A_icmp_eq 38 d_MO_eRead_27 (by decide) (fun z => ?_) (fun z => ?_)
      · have H := H.1 z
        refine A_sub (L' := [some (.ref 59), none, some (.int x2), none]) ⟨rfl, rfl, trivial⟩ ?_
        exact r_MO_eRead_38  k14 _ _ H
      · have H := H.2 z
        refine A_aload_n d_MO_eRead_30 rfl ?_
        refine A_get (v := .int (h1.1 59 23)) d_MO_eRead_31 (fo_MO_122_12 rfl) (vA_s (by decide)) rfl rfl ?_
        refine A_iconst 2 (by decide) d_MO_eRead_34 ?_
        refine A_icmp_ne 75 d_MO_eRead_35 (by decide) (fun z => ?_) (fun z => ?_)
        · have H := H.1 z
          refine A_aload_n d_MO_eRead_75 rfl ?_
          refine A_get (v := .int (h1.1 59 23)) d_MO_eRead_76 (fo_MO_122_12 rfl) (vA_s (by decide)) rfl rfl ?_
          refine A_bipush 6 (by decide) d_MO_eRead_79 ?_
          refine A_icmp_ne 99 d_MO_eRead_81 (by decide) (fun z => ?_) (fun z => ?_)
          · have H := H.1 z
            refine A_sub (L' := [some (.ref 59), some (.int x1), none, none]) ⟨rfl, rfl, trivial⟩ ?_
            exact r_MO_eRead_99  k14 _ _ H
          · have H := H.2 z
            refine A_iload_n d_MO_eRead_84 rfl ?_
            refine A_if_eq 99 d_MO_eRead_85 (by decide) (fun z => ?_) (fun z => ?_)
            · have H := H.1 z
              refine A_sub (L' := [some (.ref 59), some (.int x1), none, none]) ⟨rfl, rfl, trivial⟩ ?_
              exact r_MO_eRead_99  k14 _ _ H
            · have H := H.2 z
              refine A_aload_n d_MO_eRead_88 rfl ?_
              refine A_bipush 13 (by decide) d_MO_eRead_89 ?_
              refine A_cI [.ref 59, .int 13] [] (ct_MO_159 rfl) d_MO_eRead_91 rfl rfl (by decide) (Nat.le_of_ble_eq_true rfl) (rcA_o (c := 12) rfl (vA_s (by decide)) rfl (by decide) rfl) (ok_MO_opensOne (d := d + 1) H) (fun r10 h9 H => ?_)
              refine A_if_ne 14 d_MO_eRead_94 (by decide) (fun z => ?_) (fun z => ?_)
              · have H := H.1 z
                exact k14 _ _ _ H
              · have H := H.2 z
                refine A_iconst 0 (by decide) d_MO_eRead_97 ?_
                exact A_iret d_MO_eRead_98 rfl rfl H
        · have H := H.2 z
          refine A_sub (L' := [some (.ref 59), none, some (.int x2), none]) ⟨rfl, rfl, trivial⟩ ?_
          exact r_MO_eRead_38  k14 _ _ H
set_option maxRecDepth 20000 in
theorem r_MO_eRead_0 {G : GG} {d : Nat} {Q : Int32 → AH → Prop} (h : AH) (H : p_MO_eRead Q h) : Att G T1 m_MO_eRead (d + 3) 0 [some (.ref 59), none, none, none] [] h 0 0 (iQ Q) := by
  refine A_aload_n d_MO_eRead_0 rfl ?_
  refine A_iconst 0 (by decide) d_MO_eRead_1 ?_
  refine A_putI (k := 27) d_MO_eRead_2 (fo_MO_135_12 rfl) (Or.inr ⟨rfl, _, ft_12_27⟩) (fun z => by cases z) rfl (vA_s (by decide)) rfl rfl rfl ?_
  refine A_aload_n d_MO_eRead_5 rfl ?_
  refine A_iconst 0 (by decide) d_MO_eRead_6 ?_
  refine A_putI (k := 28) d_MO_eRead_7 (fo_MO_142_12 rfl) (Or.inr ⟨rfl, _, ft_12_28⟩) (fun z => by cases z) rfl (vA_s (by decide)) rfl rfl rfl ?_
  refine A_iconst 1 (by decide) d_MO_eRead_10 ?_
  refine A_istore_n [some (.ref 59), some (.int 1), none, none] d_MO_eRead_11 (by decide) rfl rfl ?_
  refine A_iconst 1 (by decide) d_MO_eRead_12 ?_
  refine A_istore_n [some (.ref 59), some (.int 1), some (.int 1), none] d_MO_eRead_13 (by decide) rfl rfl ?_
  obtain ⟨n9, H⟩ := H
  exact r_MO_eRead_14   n9 _ _ _ H
set_option maxRecDepth 20000 in
theorem ok_MO_eRead {G : GG} {d : Nat} {Q : Int32 → AH → Prop} {h : AH} (H : p_MO_eRead Q h) : WP G T1 m_MO_eRead (d + 3) [.ref 59] h 0 0 (iQ Q) := by
  exact WP.enter 3 (by decide) rfl rfl (r_MO_eRead_0 h H)
theorem d_MO_asks_0 : decode prog_14_method_28_code 0 = .ok (.aload_n 0, 1) := by decide +kernel
theorem d_MO_asks_1 : decode prog_14_method_28_code 1 = .ok (.iload_n 2, 1) := by decide +kernel
theorem d_MO_asks_2 : decode prog_14_method_28_code 2 = .ok (.invokevirtual 182, 3) := by decide +kernel
theorem d_MO_asks_5 : decode prog_14_method_28_code 5 = .ok (.ifCond .ne 6, 3) := by decide +kernel
theorem d_MO_asks_8 : decode prog_14_method_28_code 8 = .ok (.bipush (-5), 2) := by decide +kernel
theorem d_MO_asks_10 : decode prog_14_method_28_code 10 = .ok (.ireturn, 1) := by decide +kernel
theorem d_MO_asks_11 : decode prog_14_method_28_code 11 = .ok (.iload_n 1, 1) := by decide +kernel
theorem d_MO_asks_12 : decode prog_14_method_28_code 12 = .ok (.iconst 0, 1) := by decide +kernel
theorem d_MO_asks_13 : decode prog_14_method_28_code 13 = .ok (.iconst 2, 1) := by decide +kernel
theorem d_MO_asks_14 : decode prog_14_method_28_code 14 = .ok (.invokestatic 93, 3) := by decide +kernel
theorem d_MO_asks_17 : decode prog_14_method_28_code 17 = .ok (.ifCond .eq 27, 3) := by decide +kernel
theorem d_MO_asks_20 : decode prog_14_method_28_code 20 = .ok (.iload_n 3, 1) := by decide +kernel
theorem d_MO_asks_21 : decode prog_14_method_28_code 21 = .ok (.invokestatic 185, 3) := by decide +kernel
theorem d_MO_asks_24 : decode prog_14_method_28_code 24 = .ok (.ifCond .eq 20, 3) := by decide +kernel
theorem d_MO_asks_27 : decode prog_14_method_28_code 27 = .ok (.aload_n 0, 1) := by decide +kernel
theorem d_MO_asks_28 : decode prog_14_method_28_code 28 = .ok (.iload_n 1, 1) := by decide +kernel
theorem d_MO_asks_29 : decode prog_14_method_28_code 29 = .ok (.iload_n 2, 1) := by decide +kernel
theorem d_MO_asks_30 : decode prog_14_method_28_code 30 = .ok (.aload_n 0, 1) := by decide +kernel
theorem d_MO_asks_31 : decode prog_14_method_28_code 31 = .ok (.getfield 19, 3) := by decide +kernel
theorem d_MO_asks_34 : decode prog_14_method_28_code 34 = .ok (.iload_n 2, 1) := by decide +kernel
theorem d_MO_asks_35 : decode prog_14_method_28_code 35 = .ok (.iaload, 1) := by decide +kernel
theorem d_MO_asks_36 : decode prog_14_method_28_code 36 = .ok (.iload_n 3, 1) := by decide +kernel
theorem d_MO_asks_37 : decode prog_14_method_28_code 37 = .ok (.iconst 0, 1) := by decide +kernel
theorem d_MO_asks_38 : decode prog_14_method_28_code 38 = .ok (.invokevirtual 188, 3) := by decide +kernel
theorem d_MO_asks_41 : decode prog_14_method_28_code 41 = .ok (.goto 5, 3) := by decide +kernel
theorem d_MO_asks_44 : decode prog_14_method_28_code 44 = .ok (.bipush (-7), 2) := by decide +kernel
theorem d_MO_asks_46 : decode prog_14_method_28_code 46 = .ok (.ireturn, 1) := by decide +kernel
def p_MO_asks (Q : Int32 → AH → Prop) (x1 : Int32) (x2 : Int32) (x3 : Int32) (h : AH) : Prop := p_MO_isHouse (fun r2 h1 => ((¬ r2 = 0 → p_MO_in (fun r4 h3 => ((r4 = 0 → Q (-7) h3) ∧ (¬ r4 = 0 → p_MO_isMany (fun r6 h5 => ((r6 = 0 → Q (-7) h5) ∧ (¬ r6 = 0 → inb x2 7 ∧ p_MO_asksOf (fun r9 h8 => Q r9 h8) x1 x2 (h5.1 63 x2) x3 0 h5))) x3 h3))) x1 0 2 h1) ∧ (r2 = 0 → Q (-5) h1))) x2 h
set_option maxRecDepth 20000 in
theorem r_MO_asks_0 {G : GG} {d : Nat} {Q : Int32 → AH → Prop} (x1 : Int32) (x2 : Int32) (x3 : Int32) (h : AH) (H : p_MO_asks Q x1 x2 x3 h) : Att G T1 m_MO_asks (d + 3) 0 [some (.ref 59), some (.int x1), some (.int x2), some (.int x3)] [] h 0 0 (iQ Q) := by
  refine A_aload_n d_MO_asks_0 rfl ?_
  refine A_iload_n d_MO_asks_1 rfl ?_
  refine A_cI [.ref 59, .int x2] [] (ct_MO_182 rfl) d_MO_asks_2 rfl rfl (by decide) (Nat.le_of_ble_eq_true rfl) (rcA_o (c := 12) rfl (vA_s (by decide)) rfl (by decide) rfl) (ok_MO_isHouse (d := d + 1) H) (fun r2 h1 H => ?_)
  refine A_if_ne 11 d_MO_asks_5 (by decide) (fun z => ?_) (fun z => ?_)
  · have H := H.1 z
    refine A_iload_n d_MO_asks_11 rfl ?_
    refine A_iconst 0 (by decide) d_MO_asks_12 ?_
    refine A_iconst 2 (by decide) d_MO_asks_13 ?_
    refine A_cI [.int x1, .int 0, .int 2] [] (ct_MO_93 rfl) d_MO_asks_14 rfl rfl (by decide) (Nat.le_of_ble_eq_true rfl) trivial (ok_MO_in (d := d + 2) H) (fun r4 h3 H => ?_)
    refine A_if_eq 44 d_MO_asks_17 (by decide) (fun z => ?_) (fun z => ?_)
    · have H := H.1 z
      refine A_bipush (-7) (by decide) d_MO_asks_44 ?_
      exact A_iret d_MO_asks_46 rfl rfl H
    · have H := H.2 z
      refine A_iload_n d_MO_asks_20 rfl ?_
      refine A_cI [.int x3] [] (ct_MO_185 rfl) d_MO_asks_21 rfl rfl (by decide) (Nat.le_of_ble_eq_true rfl) trivial (ok_MO_isMany (d := d + 1) H) (fun r6 h5 H => ?_)
      refine A_if_eq 44 d_MO_asks_24 (by decide) (fun z => ?_) (fun z => ?_)
      · have H := H.1 z
        refine A_bipush (-7) (by decide) d_MO_asks_44 ?_
        exact A_iret d_MO_asks_46 rfl rfl H
      · have H := H.2 z
        refine A_aload_n d_MO_asks_27 rfl ?_
        refine A_iload_n d_MO_asks_28 rfl ?_
        refine A_iload_n d_MO_asks_29 rfl ?_
        refine A_aload_n d_MO_asks_30 rfl ?_
        refine A_get (v := .ref 63) d_MO_asks_31 (fo_MO_19_12 rfl) (vA_s (by decide)) rfl rfl ?_
        refine A_iload_n d_MO_asks_34 rfl ?_
        obtain ⟨c7, H⟩ := H
        refine A_iald (n := 7) d_MO_asks_35 (vA_s (by decide)) rfl c7 ?_
        refine A_iload_n d_MO_asks_36 rfl ?_
        refine A_iconst 0 (by decide) d_MO_asks_37 ?_
        refine A_cI [.ref 59, .int x1, .int x2, .int (h5.1 63 x2), .int x3, .int 0] [] (ct_MO_188 rfl) d_MO_asks_38 rfl rfl (by decide) (Nat.le_of_ble_eq_true rfl) (rcA_o (c := 12) rfl (vA_s (by decide)) rfl (by decide) rfl) (ok_MO_asksOf (d := d) H) (fun r9 h8 H => ?_)
        refine A_goto 46 d_MO_asks_41 (by decide) ?_
        exact A_iret d_MO_asks_46 rfl rfl H
  · have H := H.2 z
    refine A_bipush (-5) (by decide) d_MO_asks_8 ?_
    exact A_iret d_MO_asks_10 rfl rfl H
set_option maxRecDepth 20000 in
theorem ok_MO_asks {G : GG} {d : Nat} {Q : Int32 → AH → Prop} {x1 : Int32} {x2 : Int32} {x3 : Int32} {h : AH} (H : p_MO_asks Q x1 x2 x3 h) : WP G T1 m_MO_asks (d + 3) [.ref 59, .int x1, .int x2, .int x3] h 0 0 (iQ Q) := by
  exact WP.enter 0 (by decide) rfl rfl (r_MO_asks_0 x1 x2 x3 h H)
