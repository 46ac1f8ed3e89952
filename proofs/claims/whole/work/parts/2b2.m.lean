theorem d_Reader_read_0 : decode prog_9_method_2_code 0 = .ok (.aload_n 0, 1) := by decide +kernel
theorem d_Reader_read_1 : decode prog_9_method_2_code 1 = .ok (.aload_n 1, 1) := by decide +kernel
theorem d_Reader_read_2 : decode prog_9_method_2_code 2 = .ok (.putfield 9, 3) := by decide +kernel
theorem d_Reader_read_5 : decode prog_9_method_2_code 5 = .ok (.aload_n 0, 1) := by decide +kernel
theorem d_Reader_read_6 : decode prog_9_method_2_code 6 = .ok (.iload_n 2, 1) := by decide +kernel
theorem d_Reader_read_7 : decode prog_9_method_2_code 7 = .ok (.aload_n 1, 1) := by decide +kernel
theorem d_Reader_read_8 : decode prog_9_method_2_code 8 = .ok (.arraylength, 1) := by decide +kernel
theorem d_Reader_read_9 : decode prog_9_method_2_code 9 = .ok (.invokestatic 15, 3) := by decide +kernel
theorem d_Reader_read_12 : decode prog_9_method_2_code 12 = .ok (.putfield 21, 3) := by decide +kernel
theorem d_Reader_read_15 : decode prog_9_method_2_code 15 = .ok (.aload_n 0, 1) := by decide +kernel
theorem d_Reader_read_16 : decode prog_9_method_2_code 16 = .ok (.aload_n 3, 1) := by decide +kernel
theorem d_Reader_read_17 : decode prog_9_method_2_code 17 = .ok (.putfield 25, 3) := by decide +kernel
theorem d_Reader_read_20 : decode prog_9_method_2_code 20 = .ok (.aload_n 0, 1) := by decide +kernel
theorem d_Reader_read_21 : decode prog_9_method_2_code 21 = .ok (.getfield 25, 3) := by decide +kernel
theorem d_Reader_read_24 : decode prog_9_method_2_code 24 = .ok (.iconst 0, 1) := by decide +kernel
theorem d_Reader_read_25 : decode prog_9_method_2_code 25 = .ok (.putfield 29, 3) := by decide +kernel
theorem d_Reader_read_28 : decode prog_9_method_2_code 28 = .ok (.aload_n 0, 1) := by decide +kernel
theorem d_Reader_read_29 : decode prog_9_method_2_code 29 = .ok (.iconst 0, 1) := by decide +kernel
theorem d_Reader_read_30 : decode prog_9_method_2_code 30 = .ok (.putfield 34, 3) := by decide +kernel
theorem d_Reader_read_33 : decode prog_9_method_2_code 33 = .ok (.aload_n 0, 1) := by decide +kernel
theorem d_Reader_read_34 : decode prog_9_method_2_code 34 = .ok (.invokevirtual 37, 3) := by decide +kernel
theorem d_Reader_read_37 : decode prog_9_method_2_code 37 = .ok (.iconst 0, 1) := by decide +kernel
theorem d_Reader_read_38 : decode prog_9_method_2_code 38 = .ok (.istore 4, 2) := by decide +kernel
theorem d_Reader_read_40 : decode prog_9_method_2_code 40 = .ok (.iload 4, 2) := by decide +kernel
theorem d_Reader_read_42 : decode prog_9_method_2_code 42 = .ok (.iconst 3, 1) := by decide +kernel
theorem d_Reader_read_43 : decode prog_9_method_2_code 43 = .ok (.if_icmp .ge 79, 3) := by decide +kernel
theorem d_Reader_read_46 : decode prog_9_method_2_code 46 = .ok (.aload_n 0, 1) := by decide +kernel
theorem d_Reader_read_47 : decode prog_9_method_2_code 47 = .ok (.getfield 25, 3) := by decide +kernel
theorem d_Reader_read_50 : decode prog_9_method_2_code 50 = .ok (.getfield 40, 3) := by decide +kernel
theorem d_Reader_read_53 : decode prog_9_method_2_code 53 = .ok (.iload 4, 2) := by decide +kernel
theorem d_Reader_read_55 : decode prog_9_method_2_code 55 = .ok (.aload_n 0, 1) := by decide +kernel
theorem d_Reader_read_56 : decode prog_9_method_2_code 56 = .ok (.getfield 25, 3) := by decide +kernel
theorem d_Reader_read_59 : decode prog_9_method_2_code 59 = .ok (.getfield 29, 3) := by decide +kernel
theorem d_Reader_read_62 : decode prog_9_method_2_code 62 = .ok (.iastore, 1) := by decide +kernel
theorem d_Reader_read_63 : decode prog_9_method_2_code 63 = .ok (.aload_n 0, 1) := by decide +kernel
theorem d_Reader_read_64 : decode prog_9_method_2_code 64 = .ok (.bipush 7, 2) := by decide +kernel
theorem d_Reader_read_66 : decode prog_9_method_2_code 66 = .ok (.iload 4, 2) := by decide +kernel
theorem d_Reader_read_68 : decode prog_9_method_2_code 68 = .ok (.iadd, 1) := by decide +kernel
theorem d_Reader_read_69 : decode prog_9_method_2_code 69 = .ok (.invokevirtual 43, 3) := by decide +kernel
theorem d_Reader_read_72 : decode prog_9_method_2_code 72 = .ok (.ifCond .eq 20, 3) := by decide +kernel
theorem d_Reader_read_75 : decode prog_9_method_2_code 75 = .ok (.aload_n 0, 1) := by decide +kernel
theorem d_Reader_read_76 : decode prog_9_method_2_code 76 = .ok (.iconst 0, 1) := by decide +kernel
theorem d_Reader_read_77 : decode prog_9_method_2_code 77 = .ok (.invokevirtual 47, 3) := by decide +kernel
theorem d_Reader_read_80 : decode prog_9_method_2_code 80 = .ok (.ifCond .eq 12, 3) := by decide +kernel
theorem d_Reader_read_83 : decode prog_9_method_2_code 83 = .ok (.aload_n 0, 1) := by decide +kernel
theorem d_Reader_read_84 : decode prog_9_method_2_code 84 = .ok (.bipush 59, 2) := by decide +kernel
theorem d_Reader_read_86 : decode prog_9_method_2_code 86 = .ok (.invokevirtual 43, 3) := by decide +kernel
theorem d_Reader_read_89 : decode prog_9_method_2_code 89 = .ok (.ifCond .ne 8, 3) := by decide +kernel
theorem d_Reader_read_92 : decode prog_9_method_2_code 92 = .ok (.aload_n 0, 1) := by decide +kernel
theorem d_Reader_read_93 : decode prog_9_method_2_code 93 = .ok (.getfield 50, 3) := by decide +kernel
theorem d_Reader_read_96 : decode prog_9_method_2_code 96 = .ok (.ireturn, 1) := by decide +kernel
theorem d_Reader_read_97 : decode prog_9_method_2_code 97 = .ok (.aload_n 0, 1) := by decide +kernel
theorem d_Reader_read_98 : decode prog_9_method_2_code 98 = .ok (.getfield 25, 3) := by decide +kernel
theorem d_Reader_read_101 : decode prog_9_method_2_code 101 = .ok (.getfield 40, 3) := by decide +kernel
theorem d_Reader_read_104 : decode prog_9_method_2_code 104 = .ok (.iload 4, 2) := by decide +kernel
theorem d_Reader_read_106 : decode prog_9_method_2_code 106 = .ok (.iconst 1, 1) := by decide +kernel
theorem d_Reader_read_107 : decode prog_9_method_2_code 107 = .ok (.iadd, 1) := by decide +kernel
theorem d_Reader_read_108 : decode prog_9_method_2_code 108 = .ok (.aload_n 0, 1) := by decide +kernel
theorem d_Reader_read_109 : decode prog_9_method_2_code 109 = .ok (.getfield 25, 3) := by decide +kernel
theorem d_Reader_read_112 : decode prog_9_method_2_code 112 = .ok (.getfield 29, 3) := by decide +kernel
theorem d_Reader_read_115 : decode prog_9_method_2_code 115 = .ok (.iastore, 1) := by decide +kernel
theorem d_Reader_read_116 : decode prog_9_method_2_code 116 = .ok (.iinc 4 1, 3) := by decide +kernel
theorem d_Reader_read_119 : decode prog_9_method_2_code 119 = .ok (.goto (-79), 3) := by decide +kernel
theorem d_Reader_read_122 : decode prog_9_method_2_code 122 = .ok (.aload_n 0, 1) := by decide +kernel
theorem d_Reader_read_123 : decode prog_9_method_2_code 123 = .ok (.getfield 53, 3) := by decide +kernel
theorem d_Reader_read_126 : decode prog_9_method_2_code 126 = .ok (.ifCond .ne 7, 3) := by decide +kernel
theorem d_Reader_read_129 : decode prog_9_method_2_code 129 = .ok (.iconst (-1), 1) := by decide +kernel
theorem d_Reader_read_130 : decode prog_9_method_2_code 130 = .ok (.goto 7, 3) := by decide +kernel
theorem d_Reader_read_133 : decode prog_9_method_2_code 133 = .ok (.aload_n 0, 1) := by decide +kernel
theorem d_Reader_read_134 : decode prog_9_method_2_code 134 = .ok (.getfield 50, 3) := by decide +kernel
theorem d_Reader_read_137 : decode prog_9_method_2_code 137 = .ok (.ireturn, 1) := by decide +kernel
def p_Reader_read_40 (Q : Int32 → AH → Prop) (P_Reader_either : (Int32 → AH → Prop) → Int32 → AH → Prop) : Nat → Int32 → AH → Prop
  | 0 => fun _ _ => False
  | n + 1 => fun x4 h => let K40 := p_Reader_read_40 Q P_Reader_either n; ((3 ≤ x4 → ((¬ (h.1 25 5) = 0 → Q (h.1 25 4) h) ∧ ((h.1 25 5) = 0 → Q (-1) h))) ∧ (¬ 3 ≤ x4 → 0 < rR T1 h 25 2 ∧ vA T1 h (rR T1 h 25 2 - 1) ∧ (rS T1 h (rR T1 h 25 2 - 1)).1 = 6 ∧ 0 < rR T1 h (rR T1 h 25 2 - 1) 1 ∧ vA T1 h (rR T1 h (rR T1 h 25 2 - 1) 1 - 1) ∧ (rS T1 h (rR T1 h (rR T1 h 25 2 - 1) 1 - 1)).1 = 100 ∧ inb x4 ((rS T1 h (rR T1 h (rR T1 h 25 2 - 1) 1 - 1)).2) ∧ p_Reader_take (fun r9 h8 => ((r9 = 0 → Q (h8.1 25 4) h8) ∧ (¬ r9 = 0 → P_Reader_either (fun r11 h10 => ((r11 = 0 → Q (h10.1 25 4) h10) ∧ (¬ r11 = 0 → p_Reader_take (fun r13 h12 => ((¬ r13 = 0 → 0 < rR T1 h12 25 2 ∧ vA T1 h12 (rR T1 h12 25 2 - 1) ∧ (rS T1 h12 (rR T1 h12 25 2 - 1)).1 = 6 ∧ 0 < rR T1 h12 (rR T1 h12 25 2 - 1) 1 ∧ vA T1 h12 (rR T1 h12 (rR T1 h12 25 2 - 1) 1 - 1) ∧ (rS T1 h12 (rR T1 h12 (rR T1 h12 25 2 - 1) 1 - 1)).1 = 100 ∧ inb (x4 + 1) ((rS T1 h12 (rR T1 h12 (rR T1 h12 25 2 - 1) 1 - 1)).2) ∧ K40 (x4 + 1) (wI h12 (rR T1 h12 (rR T1 h12 25 2 - 1) 1 - 1) (x4 + 1) (h12.1 (rR T1 h12 25 2 - 1) 2))) ∧ (r13 = 0 → Q (h12.1 25 4) h12))) 59 h10))) 0 h8))) (7 + x4) (wI h (rR T1 h (rR T1 h 25 2 - 1) 1 - 1) x4 (h.1 (rR T1 h 25 2 - 1) 2))))
def p_Reader_read (Q : Int32 → AH → Prop) (P_Reader_either : (Int32 → AH → Prop) → Int32 → AH → Prop) (a1 : Nat) (x2 : Int32) (a3 : Nat) (h : AH) : Prop := vA T1 (wR h 25 0 (a1 + 1)) a1 ∧ (rS T1 (wR h 25 0 (a1 + 1)) a1).1 = 100 ∧ p_Math_min (fun r4 h3 => 0 < rR T1 (wR (wI h3 25 1 r4) 25 2 (a3 + 1)) 25 2 ∧ vA T1 (wR (wI h3 25 1 r4) 25 2 (a3 + 1)) (rR T1 (wR (wI h3 25 1 r4) 25 2 (a3 + 1)) 25 2 - 1) ∧ (rS T1 (wR (wI h3 25 1 r4) 25 2 (a3 + 1)) (rR T1 (wR (wI h3 25 1 r4) 25 2 (a3 + 1)) 25 2 - 1)).1 = 6 ∧ p_Reader_next (fun h8 => ∃ n, p_Reader_read_40 Q P_Reader_either  n 0 h8) (wI (wI (wR (wI h3 25 1 r4) 25 2 (a3 + 1)) (rR T1 (wR (wI h3 25 1 r4) 25 2 (a3 + 1)) 25 2 - 1) 2 0) 25 3 0)) x2 (Int32.ofNat (rS T1 (wR h 25 0 (a1 + 1)) a1).2) (wR h 25 0 (a1 + 1))
set_option maxRecDepth 20000 in
theorem r_Reader_read_40 {G : GG} {d : Nat} {Q : Int32 → AH → Prop} {P_Reader_either : (Int32 → AH → Prop) → Int32 → AH → Prop} (hP_Reader_either : ∀ Q x1 h, P_Reader_either Q x1 h → WP G T1 m_Reader_either (d + 8) [.ref 25, .int x1] h 0 0 (iQ Q)) : ∀ (n : Nat) (x4 : Int32) (h : AH), p_Reader_read_40 Q P_Reader_either n x4 h → Att G T1 m_Reader_read (d + 9) 40 [some (.ref 25), none, none, none, some (.int x4)] [] h 0 0 (iQ Q) := by
  intro n
  induction n with
  | zero => intro x4 h H; exact H.elim
  | succ n k40 =>
    intro x4 h H
    refine A_iload d_Reader_read_40 rfl ?_
    refine A_iconst 3 (by decide) d_Reader_read_42 ?_
    refine A_icmp_ge 122 d_Reader_read_43 (by decide) (fun z => ?_) (fun z => ?_)
    · have H := H.1 z
      refine A_aload_n d_Reader_read_122 rfl ?_
      refine A_get (v := .int (h.1 25 5)) d_Reader_read_123 (fo_Reader_53_7 rfl) (vA_s (by decide)) rfl rfl ?_
      refine A_if_ne 133 d_Reader_read_126 (by decide) (fun z => ?_) (fun z => ?_)
      · have H := H.1 z
        refine A_aload_n d_Reader_read_133 rfl ?_
        refine A_get (v := .int (h.1 25 4)) d_Reader_read_134 (fo_Reader_50_7 rfl) (vA_s (by decide)) rfl rfl ?_
        exact A_iret d_Reader_read_137 rfl rfl H
      · have H := H.2 z
        refine A_iconst (-1) (by decide) d_Reader_read_129 ?_
        refine A_goto 137 d_Reader_read_130 (by decide) ?_
        exact A_iret d_Reader_read_137 rfl rfl H
    · have H := H.2 z
      refine A_aload_n d_Reader_read_46 rfl ?_
      obtain ⟨c1, H⟩ := H
      refine A_get (v := .ref (rR T1 h 25 2 - 1)) d_Reader_read_47 (fo_Reader_25_7 rfl) (vA_s (by decide)) rfl (vR_pos c1) ?_
      obtain ⟨c2, H⟩ := H
      obtain ⟨c3, H⟩ := H
      obtain ⟨c4, H⟩ := H
      refine A_get (v := .ref (rR T1 h (rR T1 h 25 2 - 1) 1 - 1)) d_Reader_read_50 (fo_Reader_40_6 rfl) c2 c3 (vR_pos c4) ?_
      refine A_iload d_Reader_read_53 rfl ?_
      refine A_aload_n d_Reader_read_55 rfl ?_
      refine A_get (v := .ref (rR T1 h 25 2 - 1)) d_Reader_read_56 (fo_Reader_25_7 rfl) (vA_s (by decide)) rfl (vR_pos c1) ?_
      refine A_get (v := .int (h.1 (rR T1 h 25 2 - 1) 2)) d_Reader_read_59 (fo_Reader_29_6 rfl) c2 c3 rfl ?_
      obtain ⟨c5, H⟩ := H
      obtain ⟨c6, H⟩ := H
      obtain ⟨c7, H⟩ := H
      refine A_iast (n := _) d_Reader_read_62 c5 (rS_ex c6) c7 ?_
      refine A_aload_n d_Reader_read_63 rfl ?_
      refine A_bipush 7 (by decide) d_Reader_read_64 ?_
      refine A_iload d_Reader_read_66 rfl ?_
      refine A_iadd d_Reader_read_68 ?_
      refine A_cI [.ref 25, .int (7 + x4)] [] (ct_Reader_43 rfl) d_Reader_read_69 rfl rfl (by decide) (Nat.le_of_ble_eq_true rfl) (rcA_o (c := 7) rfl (vA_s (by decide)) rfl (by decide) rfl) (ok_Reader_take (d := d) H) (fun r9 h8 H => ?_)
      refine A_if_eq 92 d_Reader_read_72 (by decide) (fun z => ?_) (fun z => ?_)
      · have H := H.1 z
        refine A_aload_n d_Reader_read_92 rfl ?_
        refine A_get (v := .int (h8.1 25 4)) d_Reader_read_93 (fo_Reader_50_7 rfl) (vA_s (by decide)) rfl rfl ?_
        exact A_iret d_Reader_read_96 rfl rfl H
      · have H := H.2 z
        refine A_aload_n d_Reader_read_75 rfl ?_
        refine A_iconst 0 (by decide) d_Reader_read_76 ?_
        refine A_cI [.ref 25, .int 0] [] (ct_Reader_47 rfl) d_Reader_read_77 rfl rfl (by decide) (Nat.le_of_ble_eq_true rfl) (rcA_o (c := 7) rfl (vA_s (by decide)) rfl (by decide) rfl) (hP_Reader_either _ _ _ H) (fun r11 h10 H => ?_)
        refine A_if_eq 92 d_Reader_read_80 (by decide) (fun z => ?_) (fun z => ?_)
        · have H := H.1 z
          refine A_aload_n d_Reader_read_92 rfl ?_
          refine A_get (v := .int (h10.1 25 4)) d_Reader_read_93 (fo_Reader_50_7 rfl) (vA_s (by decide)) rfl rfl ?_
          exact A_iret d_Reader_read_96 rfl rfl H
        · have H := H.2 z
          refine A_aload_n d_Reader_read_83 rfl ?_
          refine A_bipush 59 (by decide) d_Reader_read_84 ?_
          refine A_cI [.ref 25, .int 59] [] (ct_Reader_43 rfl) d_Reader_read_86 rfl rfl (by decide) (Nat.le_of_ble_eq_true rfl) (rcA_o (c := 7) rfl (vA_s (by decide)) rfl (by decide) rfl) (ok_Reader_take (d := d) H) (fun r13 h12 H => ?_)
          refine A_if_ne 97 d_Reader_read_89 (by decide) (fun z => ?_) (fun z => ?_)
          · have H := H.1 z
            refine A_aload_n d_Reader_read_97 rfl ?_
            obtain ⟨c14, H⟩ := H
            refine A_get (v := .ref (rR T1 h12 25 2 - 1)) d_Reader_read_98 (fo_Reader_25_7 rfl) (vA_s (by decide)) rfl (vR_pos c14) ?_
            obtain ⟨c15, H⟩ := H
            obtain ⟨c16, H⟩ := H
            obtain ⟨c17, H⟩ := H
            refine A_get (v := .ref (rR T1 h12 (rR T1 h12 25 2 - 1) 1 - 1)) d_Reader_read_101 (fo_Reader_40_6 rfl) c15 c16 (vR_pos c17) ?_
            refine A_iload d_Reader_read_104 rfl ?_
            refine A_iconst 1 (by decide) d_Reader_read_106 ?_
            refine A_iadd d_Reader_read_107 ?_
            refine A_aload_n d_Reader_read_108 rfl ?_
            refine A_get (v := .ref (rR T1 h12 25 2 - 1)) d_Reader_read_109 (fo_Reader_25_7 rfl) (vA_s (by decide)) rfl (vR_pos c14) ?_
            refine A_get (v := .int (h12.1 (rR T1 h12 25 2 - 1) 2)) d_Reader_read_112 (fo_Reader_29_6 rfl) c15 c16 rfl ?_
            obtain ⟨c18, H⟩ := H
            obtain ⟨c19, H⟩ := H
            obtain ⟨c20, H⟩ := H
            refine A_iast (n := _) d_Reader_read_115 c18 (rS_ex c19) c20 ?_
            refine A_iinc 1 [some (.ref 25), none, none, none, some (.int (x4 + 1))] d_Reader_read_116 rfl (by decide) (by decide) rfl rfl ?_
            refine A_goto 40 d_Reader_read_119 (by decide) ?_
            exact k40 _ _ H
          · have H := H.2 z
            refine A_aload_n d_Reader_read_92 rfl ?_
            refine A_get (v := .int (h12.1 25 4)) d_Reader_read_93 (fo_Reader_50_7 rfl) (vA_s (by decide)) rfl rfl ?_
            exact A_iret d_Reader_read_96 rfl rfl H
set_option maxRecDepth 20000 in
theorem r_Reader_read_0 {G : GG} {d : Nat} {Q : Int32 → AH → Prop} {P_Reader_either : (Int32 → AH → Prop) → Int32 → AH → Prop} (hP_Reader_either : ∀ Q x1 h, P_Reader_either Q x1 h → WP G T1 m_Reader_either (d + 8) [.ref 25, .int x1] h 0 0 (iQ Q)) (a1 : Nat) (x2 : Int32) (a3 : Nat) (h : AH) (H : p_Reader_read Q P_Reader_either a1 x2 a3 h) : Att G T1 m_Reader_read (d + 9) 0 [some (.ref 25), some (.ref a1), some (.int x2), some (.ref a3), none] [] h 0 0 (iQ Q) := by
  refine A_aload_n d_Reader_read_0 rfl ?_
  refine A_aload_n d_Reader_read_1 rfl ?_
  refine A_putR (k := 0) d_Reader_read_2 (fo_Reader_9_7 rfl) (Or.inr ⟨rfl, _, ft_7_0⟩) (fun z => by cases z) rfl (vA_s (by decide)) rfl rfl (fun _ => rfl) (fun _ => rfl) ?_
  refine A_aload_n d_Reader_read_5 rfl ?_
  refine A_iload_n d_Reader_read_6 rfl ?_
  refine A_aload_n d_Reader_read_7 rfl ?_
  obtain ⟨c1, H⟩ := H
  obtain ⟨c2, H⟩ := H
  refine A_alenI d_Reader_read_8 c1 (rS_ex c2) ?_
  refine A_cI [.int x2, .int (Int32.ofNat (rS T1 (wR h 25 0 (a1 + 1)) a1).2)] [.ref 25] (ct_Reader_15 rfl) d_Reader_read_9 rfl rfl (by decide) (Nat.le_of_ble_eq_true rfl) trivial (ok_Math_min (d := d + 8) H) (fun r4 h3 H => ?_)
  refine A_putI (k := 1) d_Reader_read_12 (fo_Reader_21_7 rfl) (Or.inr ⟨rfl, _, ft_7_1⟩) (fun z => by cases z) rfl (vA_s (by decide)) rfl rfl rfl ?_
  refine A_aload_n d_Reader_read_15 rfl ?_
  refine A_aload_n d_Reader_read_16 rfl ?_
  refine A_putR (k := 2) d_Reader_read_17 (fo_Reader_25_7 rfl) (Or.inr ⟨rfl, _, ft_7_2⟩) (fun z => by cases z) rfl (vA_s (by decide)) rfl rfl (fun _ => rfl) (fun _ => rfl) ?_
  refine A_aload_n d_Reader_read_20 rfl ?_
  obtain ⟨c5, H⟩ := H
  refine A_get (v := .ref (rR T1 (wR (wI h3 25 1 r4) 25 2 (a3 + 1)) 25 2 - 1)) d_Reader_read_21 (fo_Reader_25_7 rfl) (vA_s (by decide)) rfl (vR_pos c5) ?_
  refine A_iconst 0 (by decide) d_Reader_read_24 ?_
  obtain ⟨c6, H⟩ := H
  obtain ⟨c7, H⟩ := H
  refine A_putI (k := 2) d_Reader_read_25 (fo_Reader_29_6 rfl) (Or.inr ⟨rfl, _, ft_6_2⟩) (fun z => by cases z) rfl c6 c7 rfl rfl ?_
  refine A_aload_n d_Reader_read_28 rfl ?_
  refine A_iconst 0 (by decide) d_Reader_read_29 ?_
  refine A_putI (k := 3) d_Reader_read_30 (fo_Reader_34_7 rfl) (Or.inr ⟨rfl, _, ft_7_3⟩) (fun z => by cases z) rfl (vA_s (by decide)) rfl rfl rfl ?_
  refine A_aload_n d_Reader_read_33 rfl ?_
  refine A_cV [.ref 25] [] (ct_Reader_37 rfl) d_Reader_read_34 rfl rfl (by decide) (Nat.le_of_ble_eq_true rfl) (rcA_o (c := 7) rfl (vA_s (by decide)) rfl (by decide) rfl) (ok_Reader_next (d := d + 1) H) (fun h8 H => ?_)
  refine A_iconst 0 (by decide) d_Reader_read_37 ?_
  refine A_istore [some (.ref 25), some (.ref a1), some (.int x2), some (.ref a3), some (.int 0)] d_Reader_read_38 (by decide) rfl rfl ?_
  refine A_sub (L' := [some (.ref 25), none, none, none, some (.int 0)]) ⟨rfl, rfl, trivial⟩ ?_
  obtain ⟨n9, H⟩ := H
  exact r_Reader_read_40 hP_Reader_either  n9 _ _ H
set_option maxRecDepth 20000 in
theorem ok_Reader_read {G : GG} {d : Nat} {Q : Int32 → AH → Prop} {P_Reader_either : (Int32 → AH → Prop) → Int32 → AH → Prop} (hP_Reader_either : ∀ Q x1 h, P_Reader_either Q x1 h → WP G T1 m_Reader_either (d + 8) [.ref 25, .int x1] h 0 0 (iQ Q)) {a1 : Nat} {x2 : Int32} {a3 : Nat} {h : AH} (H : p_Reader_read Q P_Reader_either a1 x2 a3 h) : WP G T1 m_Reader_read (d + 9) [.ref 25, .ref a1, .int x2, .ref a3] h 0 0 (iQ Q) := by
  exact WP.enter 1 (by decide) rfl rfl (r_Reader_read_0 hP_Reader_either a1 x2 a3 h H)
theorem d_Reader_one_0 : decode prog_9_method_10_code 0 = .ok (.aload_n 0, 1) := by decide +kernel
theorem d_Reader_one_1 : decode prog_9_method_10_code 1 = .ok (.getfield 53, 3) := by decide +kernel
theorem d_Reader_one_4 : decode prog_9_method_10_code 4 = .ok (.iconst 2, 1) := by decide +kernel
theorem d_Reader_one_5 : decode prog_9_method_10_code 5 = .ok (.if_icmp .ne 20, 3) := by decide +kernel
theorem d_Reader_one_8 : decode prog_9_method_10_code 8 = .ok (.aload_n 0, 1) := by decide +kernel
theorem d_Reader_one_9 : decode prog_9_method_10_code 9 = .ok (.getfield 25, 3) := by decide +kernel
theorem d_Reader_one_12 : decode prog_9_method_10_code 12 = .ok (.aload_n 0, 1) := by decide +kernel
theorem d_Reader_one_13 : decode prog_9_method_10_code 13 = .ok (.getfield 78, 3) := by decide +kernel
theorem d_Reader_one_16 : decode prog_9_method_10_code 16 = .ok (.invokevirtual 59, 3) := by decide +kernel
theorem d_Reader_one_19 : decode prog_9_method_10_code 19 = .ok (.aload_n 0, 1) := by decide +kernel
theorem d_Reader_one_20 : decode prog_9_method_10_code 20 = .ok (.invokevirtual 37, 3) := by decide +kernel
theorem d_Reader_one_23 : decode prog_9_method_10_code 23 = .ok (.iconst 1, 1) := by decide +kernel
theorem d_Reader_one_24 : decode prog_9_method_10_code 24 = .ok (.ireturn, 1) := by decide +kernel
theorem d_Reader_one_25 : decode prog_9_method_10_code 25 = .ok (.aload_n 0, 1) := by decide +kernel
theorem d_Reader_one_26 : decode prog_9_method_10_code 26 = .ok (.getfield 53, 3) := by decide +kernel
theorem d_Reader_one_29 : decode prog_9_method_10_code 29 = .ok (.iconst 3, 1) := by decide +kernel
theorem d_Reader_one_30 : decode prog_9_method_10_code 30 = .ok (.if_icmp .ne 20, 3) := by decide +kernel
theorem d_Reader_one_33 : decode prog_9_method_10_code 33 = .ok (.aload_n 0, 1) := by decide +kernel
theorem d_Reader_one_34 : decode prog_9_method_10_code 34 = .ok (.getfield 25, 3) := by decide +kernel
theorem d_Reader_one_37 : decode prog_9_method_10_code 37 = .ok (.aload_n 0, 1) := by decide +kernel
theorem d_Reader_one_38 : decode prog_9_method_10_code 38 = .ok (.getfield 78, 3) := by decide +kernel
theorem d_Reader_one_41 : decode prog_9_method_10_code 41 = .ok (.invokevirtual 81, 3) := by decide +kernel
theorem d_Reader_one_44 : decode prog_9_method_10_code 44 = .ok (.aload_n 0, 1) := by decide +kernel
theorem d_Reader_one_45 : decode prog_9_method_10_code 45 = .ok (.invokevirtual 37, 3) := by decide +kernel
theorem d_Reader_one_48 : decode prog_9_method_10_code 48 = .ok (.iconst 1, 1) := by decide +kernel
theorem d_Reader_one_49 : decode prog_9_method_10_code 49 = .ok (.ireturn, 1) := by decide +kernel
theorem d_Reader_one_50 : decode prog_9_method_10_code 50 = .ok (.aload_n 0, 1) := by decide +kernel
theorem d_Reader_one_51 : decode prog_9_method_10_code 51 = .ok (.getfield 53, 3) := by decide +kernel
theorem d_Reader_one_54 : decode prog_9_method_10_code 54 = .ok (.bipush 45, 2) := by decide +kernel
theorem d_Reader_one_56 : decode prog_9_method_10_code 56 = .ok (.if_icmp .eq 12, 3) := by decide +kernel
theorem d_Reader_one_59 : decode prog_9_method_10_code 59 = .ok (.aload_n 0, 1) := by decide +kernel
theorem d_Reader_one_60 : decode prog_9_method_10_code 60 = .ok (.getfield 53, 3) := by decide +kernel
theorem d_Reader_one_63 : decode prog_9_method_10_code 63 = .ok (.bipush 40, 2) := by decide +kernel
theorem d_Reader_one_65 : decode prog_9_method_10_code 65 = .ok (.if_icmp .ne 8, 3) := by decide +kernel
theorem d_Reader_one_68 : decode prog_9_method_10_code 68 = .ok (.iload_n 1, 1) := by decide +kernel
theorem d_Reader_one_69 : decode prog_9_method_10_code 69 = .ok (.iconst 5, 1) := by decide +kernel
theorem d_Reader_one_70 : decode prog_9_method_10_code 70 = .ok (.if_icmp .lt 5, 3) := by decide +kernel
theorem d_Reader_one_73 : decode prog_9_method_10_code 73 = .ok (.iconst 0, 1) := by decide +kernel
theorem d_Reader_one_74 : decode prog_9_method_10_code 74 = .ok (.ireturn, 1) := by decide +kernel
theorem d_Reader_one_75 : decode prog_9_method_10_code 75 = .ok (.aload_n 0, 1) := by decide +kernel
theorem d_Reader_one_76 : decode prog_9_method_10_code 76 = .ok (.getfield 53, 3) := by decide +kernel
theorem d_Reader_one_79 : decode prog_9_method_10_code 79 = .ok (.bipush 45, 2) := by decide +kernel
theorem d_Reader_one_81 : decode prog_9_method_10_code 81 = .ok (.if_icmp .ne 7, 3) := by decide +kernel
theorem d_Reader_one_84 : decode prog_9_method_10_code 84 = .ok (.iconst 1, 1) := by decide +kernel
theorem d_Reader_one_85 : decode prog_9_method_10_code 85 = .ok (.goto 4, 3) := by decide +kernel
theorem d_Reader_one_88 : decode prog_9_method_10_code 88 = .ok (.iconst 0, 1) := by decide +kernel
theorem d_Reader_one_89 : decode prog_9_method_10_code 89 = .ok (.istore_n 2, 1) := by decide +kernel
theorem d_Reader_one_90 : decode prog_9_method_10_code 90 = .ok (.aload_n 0, 1) := by decide +kernel
theorem d_Reader_one_91 : decode prog_9_method_10_code 91 = .ok (.invokevirtual 37, 3) := by decide +kernel
theorem d_Reader_one_94 : decode prog_9_method_10_code 94 = .ok (.iload_n 2, 1) := by decide +kernel
theorem d_Reader_one_95 : decode prog_9_method_10_code 95 = .ok (.ifCond .ne 28, 3) := by decide +kernel
theorem d_Reader_one_98 : decode prog_9_method_10_code 98 = .ok (.aload_n 0, 1) := by decide +kernel
theorem d_Reader_one_99 : decode prog_9_method_10_code 99 = .ok (.iload_n 1, 1) := by decide +kernel
theorem d_Reader_one_100 : decode prog_9_method_10_code 100 = .ok (.iconst 1, 1) := by decide +kernel
theorem d_Reader_one_101 : decode prog_9_method_10_code 101 = .ok (.iadd, 1) := by decide +kernel
theorem d_Reader_one_102 : decode prog_9_method_10_code 102 = .ok (.invokevirtual 47, 3) := by decide +kernel
theorem d_Reader_one_105 : decode prog_9_method_10_code 105 = .ok (.ifCond .eq 16, 3) := by decide +kernel
theorem d_Reader_one_108 : decode prog_9_method_10_code 108 = .ok (.aload_n 0, 1) := by decide +kernel
theorem d_Reader_one_109 : decode prog_9_method_10_code 109 = .ok (.bipush 41, 2) := by decide +kernel
theorem d_Reader_one_111 : decode prog_9_method_10_code 111 = .ok (.invokevirtual 43, 3) := by decide +kernel
theorem d_Reader_one_114 : decode prog_9_method_10_code 114 = .ok (.ifCond .eq 7, 3) := by decide +kernel
theorem d_Reader_one_117 : decode prog_9_method_10_code 117 = .ok (.iconst 1, 1) := by decide +kernel
theorem d_Reader_one_118 : decode prog_9_method_10_code 118 = .ok (.goto 4, 3) := by decide +kernel
theorem d_Reader_one_121 : decode prog_9_method_10_code 121 = .ok (.iconst 0, 1) := by decide +kernel
theorem d_Reader_one_122 : decode prog_9_method_10_code 122 = .ok (.ireturn, 1) := by decide +kernel
theorem d_Reader_one_123 : decode prog_9_method_10_code 123 = .ok (.aload_n 0, 1) := by decide +kernel
theorem d_Reader_one_124 : decode prog_9_method_10_code 124 = .ok (.iload_n 1, 1) := by decide +kernel
theorem d_Reader_one_125 : decode prog_9_method_10_code 125 = .ok (.iconst 1, 1) := by decide +kernel
theorem d_Reader_one_126 : decode prog_9_method_10_code 126 = .ok (.iadd, 1) := by decide +kernel
theorem d_Reader_one_127 : decode prog_9_method_10_code 127 = .ok (.invokevirtual 75, 3) := by decide +kernel
theorem d_Reader_one_130 : decode prog_9_method_10_code 130 = .ok (.ifCond .ne 5, 3) := by decide +kernel
theorem d_Reader_one_133 : decode prog_9_method_10_code 133 = .ok (.iconst 0, 1) := by decide +kernel
theorem d_Reader_one_134 : decode prog_9_method_10_code 134 = .ok (.ireturn, 1) := by decide +kernel
theorem d_Reader_one_135 : decode prog_9_method_10_code 135 = .ok (.aload_n 0, 1) := by decide +kernel
theorem d_Reader_one_136 : decode prog_9_method_10_code 136 = .ok (.getfield 25, 3) := by decide +kernel
theorem d_Reader_one_139 : decode prog_9_method_10_code 139 = .ok (.bipush (-10), 2) := by decide +kernel
theorem d_Reader_one_141 : decode prog_9_method_10_code 141 = .ok (.invokevirtual 59, 3) := by decide +kernel
theorem d_Reader_one_144 : decode prog_9_method_10_code 144 = .ok (.iconst 1, 1) := by decide +kernel
theorem d_Reader_one_145 : decode prog_9_method_10_code 145 = .ok (.ireturn, 1) := by decide +kernel
def p_Reader_one_89 (Q : Int32 → AH → Prop) (P_Reader_either : (Int32 → AH → Prop) → Int32 → AH → Prop) (P_Reader_one : (Int32 → AH → Prop) → Int32 → AH → Prop) (x1 : Int32) (s0 : Int32) (h : AH) : Prop := p_Reader_next (fun h1 => ((¬ s0 = 0 → P_Reader_one (fun r3 h2 => ((¬ r3 = 0 → 0 < rR T1 h2 25 2 ∧ vA T1 h2 (rR T1 h2 25 2 - 1) ∧ (rS T1 h2 (rR T1 h2 25 2 - 1)).1 = 6 ∧ p_Law_add (fun h7 => Q 1 h7) (rR T1 h2 25 2 - 1) (-10) h2) ∧ (r3 = 0 → Q 0 h2))) (x1 + 1) h1) ∧ (s0 = 0 → P_Reader_either (fun r9 h8 => ((r9 = 0 → Q 0 h8) ∧ (¬ r9 = 0 → p_Reader_take (fun r11 h10 => ((r11 = 0 → Q 0 h10) ∧ (¬ r11 = 0 → Q 1 h10))) 41 h8))) (x1 + 1) h1))) h
def p_Reader_one_68 (Q : Int32 → AH → Prop) (P_Reader_either : (Int32 → AH → Prop) → Int32 → AH → Prop) (P_Reader_one : (Int32 → AH → Prop) → Int32 → AH → Prop) (x1 : Int32) (h : AH) : Prop := ((x1 < 5 → ((¬ (h.1 25 5) = 45 → p_Reader_one_89 Q P_Reader_either P_Reader_one  x1 0 h) ∧ ((h.1 25 5) = 45 → p_Reader_one_89 Q P_Reader_either P_Reader_one  x1 1 h))) ∧ (¬ x1 < 5 → Q 0 h))
def p_Reader_one (Q : Int32 → AH → Prop) (P_Reader_either : (Int32 → AH → Prop) → Int32 → AH → Prop) (P_Reader_one : (Int32 → AH → Prop) → Int32 → AH → Prop) (x1 : Int32) (h : AH) : Prop := ((¬ (h.1 25 5) = 2 → ((¬ (h.1 25 5) = 3 → (((h.1 25 5) = 45 → p_Reader_one_68 Q P_Reader_either P_Reader_one  x1 h) ∧ (¬ (h.1 25 5) = 45 → ((¬ (h.1 25 5) = 40 → Q 0 h) ∧ ((h.1 25 5) = 40 → p_Reader_one_68 Q P_Reader_either P_Reader_one  x1 h))))) ∧ ((h.1 25 5) = 3 → 0 < rR T1 h 25 2 ∧ vA T1 h (rR T1 h 25 2 - 1) ∧ (rS T1 h (rR T1 h 25 2 - 1)).1 = 6 ∧ p_Law_addName (fun h4 => p_Reader_next (fun h5 => Q 1 h5) h4) (rR T1 h 25 2 - 1) (h.1 25 6) h))) ∧ ((h.1 25 5) = 2 → 0 < rR T1 h 25 2 ∧ vA T1 h (rR T1 h 25 2 - 1) ∧ (rS T1 h (rR T1 h 25 2 - 1)).1 = 6 ∧ p_Law_add (fun h9 => p_Reader_next (fun h10 => Q 1 h10) h9) (rR T1 h 25 2 - 1) (h.1 25 6) h))
set_option maxRecDepth 20000 in
theorem r_Reader_one_89 {G : GG} {d : Nat} {Q : Int32 → AH → Prop} {P_Reader_either : (Int32 → AH → Prop) → Int32 → AH → Prop} {P_Reader_one : (Int32 → AH → Prop) → Int32 → AH → Prop} (hP_Reader_either : ∀ Q x1 h, P_Reader_either Q x1 h → WP G T1 m_Reader_either (d + 8) [.ref 25, .int x1] h 0 0 (iQ Q)) (hP_Reader_one : ∀ Q x1 h, P_Reader_one Q x1 h → WP G T1 m_Reader_one (d + 8) [.ref 25, .int x1] h 0 0 (iQ Q)) (x1 : Int32) (s0 : Int32) (h : AH) (H : p_Reader_one_89 Q P_Reader_either P_Reader_one x1 s0 h) : Att G T1 m_Reader_one (d + 9) 89 [some (.ref 25), some (.int x1), none] [.int s0] h 0 0 (iQ Q) := by
  refine A_istore_n [some (.ref 25), some (.int x1), some (.int s0)] d_Reader_one_89 (by decide) rfl rfl ?_
  refine A_aload_n d_Reader_one_90 rfl ?_
  refine A_cV [.ref 25] [] (ct_Reader_37 rfl) d_Reader_one_91 rfl rfl (by decide) (Nat.le_of_ble_eq_true rfl) (rcA_o (c := 7) rfl (vA_s (by decide)) rfl (by decide) rfl) (ok_Reader_next (d := d + 1) H) (fun h1 H => ?_)
  refine A_iload_n d_Reader_one_94 rfl ?_
  refine A_if_ne 123 d_Reader_one_95 (by decide) (fun z => ?_) (fun z => ?_)
  · have H := H.1 z
    refine A_aload_n d_Reader_one_123 rfl ?_
    refine A_iload_n d_Reader_one_124 rfl ?_
    refine A_iconst 1 (by decide) d_Reader_one_125 ?_
    refine A_iadd d_Reader_one_126 ?_
    refine A_cI [.ref 25, .int (x1 + 1)] [] (ct_Reader_75 rfl) d_Reader_one_127 rfl rfl (by decide) (Nat.le_of_ble_eq_true rfl) (rcA_o (c := 7) rfl (vA_s (by decide)) rfl (by decide) rfl) (hP_Reader_one _ _ _ H) (fun r3 h2 H => ?_)
    refine A_if_ne 135 d_Reader_one_130 (by decide) (fun z => ?_) (fun z => ?_)
    · have H := H.1 z
      refine A_aload_n d_Reader_one_135 rfl ?_
      obtain ⟨c4, H⟩ := H
      refine A_get (v := .ref (rR T1 h2 25 2 - 1)) d_Reader_one_136 (fo_Reader_25_7 rfl) (vA_s (by decide)) rfl (vR_pos c4) ?_
      refine A_bipush (-10) (by decide) d_Reader_one_139 ?_
      obtain ⟨c5, H⟩ := H
      obtain ⟨c6, H⟩ := H
      refine A_cV [.ref (rR T1 h2 25 2 - 1), .int (-10)] [] (ct_Reader_59 rfl) d_Reader_one_141 rfl rfl (by decide) (Nat.le_of_ble_eq_true rfl) (rcA_o (c := 6) rfl c5 c6 (by decide) rfl) (ok_Law_add (d := d + 8) H) (fun h7 H => ?_)
      refine A_iconst 1 (by decide) d_Reader_one_144 ?_
      exact A_iret d_Reader_one_145 rfl rfl H
    · have H := H.2 z
      refine A_iconst 0 (by decide) d_Reader_one_133 ?_
      exact A_iret d_Reader_one_134 rfl rfl H
  · have H := H.2 z
    refine A_aload_n d_Reader_one_98 rfl ?_
    refine A_iload_n d_Reader_one_99 rfl ?_
    refine A_iconst 1 (by decide) d_Reader_one_100 ?_
    refine A_iadd d_Reader_one_101 ?_
    refine A_cI [.ref 25, .int (x1 + 1)] [] (ct_Reader_47 rfl) d_Reader_one_102 rfl rfl (by decide) (Nat.le_of_ble_eq_true rfl) (rcA_o (c := 7) rfl (vA_s (by decide)) rfl (by decide) rfl) (hP_Reader_either _ _ _ H) (fun r9 h8 H => ?_)
    refine A_if_eq 121 d_Reader_one_105 (by decide) (fun z => ?_) (fun z => ?_)
    · have H := H.1 z
      refine A_iconst 0 (by decide) d_Reader_one_121 ?_
      exact A_iret d_Reader_one_122 rfl rfl H
    · have H := H.2 z
      refine A_aload_n d_Reader_one_108 rfl ?_
      refine A_bipush 41 (by decide) d_Reader_one_109 ?_
      refine A_cI [.ref 25, .int 41] [] (ct_Reader_43 rfl) d_Reader_one_111 rfl rfl (by decide) (Nat.le_of_ble_eq_true rfl) (rcA_o (c := 7) rfl (vA_s (by decide)) rfl (by decide) rfl) (ok_Reader_take (d := d) H) (fun r11 h10 H => ?_)
      refine A_if_eq 121 d_Reader_one_114 (by decide) (fun z => ?_) (fun z => ?_)
      · have H := H.1 z
        refine A_iconst 0 (by decide) d_Reader_one_121 ?_
        exact A_iret d_Reader_one_122 rfl rfl H
      · have H := H.2 z
        refine A_iconst 1 (by decide) d_Reader_one_117 ?_
        refine A_goto 122 d_Reader_one_118 (by decide) ?_
        exact A_iret d_Reader_one_122 rfl rfl H
set_option maxRecDepth 20000 in
theorem r_Reader_one_68 {G : GG} {d : Nat} {Q : Int32 → AH → Prop} {P_Reader_either : (Int32 → AH → Prop) → Int32 → AH → Prop} {P_Reader_one : (Int32 → AH → Prop) → Int32 → AH → Prop} (hP_Reader_either : ∀ Q x1 h, P_Reader_either Q x1 h → WP G T1 m_Reader_either (d + 8) [.ref 25, .int x1] h 0 0 (iQ Q)) (hP_Reader_one : ∀ Q x1 h, P_Reader_one Q x1 h → WP G T1 m_Reader_one (d + 8) [.ref 25, .int x1] h 0 0 (iQ Q)) (x1 : Int32) (h : AH) (H : p_Reader_one_68 Q P_Reader_either P_Reader_one x1 h) : Att G T1 m_Reader_one (d + 9) 68 [some (.ref 25), some (.int x1), none] [] h 0 0 (iQ Q) := by
  refine A_iload_n d_Reader_one_68 rfl ?_
  refine A_iconst 5 (by decide) d_Reader_one_69 ?_
  refine A_icmp_lt 75 d_Reader_one_70 (by decide) (fun z => ?_) (fun z => ?_)
  · have H := H.1 z
    refine A_aload_n d_Reader_one_75 rfl ?_
    refine A_get (v := .int (h.1 25 5)) d_Reader_one_76 (fo_Reader_53_7 rfl) (vA_s (by decide)) rfl rfl ?_
    refine A_bipush 45 (by decide) d_Reader_one_79 ?_
    refine A_icmp_ne 88 d_Reader_one_81 (by decide) (fun z => ?_) (fun z => ?_)
    · have H := H.1 z
      refine A_iconst 0 (by decide) d_Reader_one_88 ?_
      exact r_Reader_one_89 hP_Reader_either hP_Reader_one  _ _ _ H
    · have H := H.2 z
      refine A_iconst 1 (by decide) d_Reader_one_84 ?_
      refine A_goto 89 d_Reader_one_85 (by decide) ?_
      exact r_Reader_one_89 hP_Reader_either hP_Reader_one  _ _ _ H
  · have H := H.2 z
    refine A_iconst 0 (by decide) d_Reader_one_73 ?_
    exact A_iret d_Reader_one_74 rfl rfl H
set_option maxRecDepth 20000 in
theorem r_Reader_one_0 {G : GG} {d : Nat} {Q : Int32 → AH → Prop} {P_Reader_either : (Int32 → AH → Prop) → Int32 → AH → Prop} {P_Reader_one : (Int32 → AH → Prop) → Int32 → AH → Prop} (hP_Reader_either : ∀ Q x1 h, P_Reader_either Q x1 h → WP G T1 m_Reader_either (d + 8) [.ref 25, .int x1] h 0 0 (iQ Q)) (hP_Reader_one : ∀ Q x1 h, P_Reader_one Q x1 h → WP G T1 m_Reader_one (d + 8) [.ref 25, .int x1] h 0 0 (iQ Q)) (x1 : Int32) (h : AH) (H : p_Reader_one Q P_Reader_either P_Reader_one x1 h) : Att G T1 m_Reader_one (d + 9) 0 [some (.ref 25), some (.int x1), none] [] h 0 0 (iQ Q) := by
  refine A_aload_n d_Reader_one_0 rfl ?_
  refine A_get (v := .int (h.1 25 5)) d_Reader_one_1 (fo_Reader_53_7 rfl) (vA_s (by decide)) rfl rfl ?_
  refine A_iconst 2 (by decide) d_Reader_one_4 ?_
  refine A_icmp_ne 25 d_Reader_one_5 (by decide) (fun z => ?_) (fun z => ?_)
  · have H := H.1 z
    refine A_aload_n d_Reader_one_25 rfl ?_
    refine A_get (v := .int (h.1 25 5)) d_Reader_one_26 (fo_Reader_53_7 rfl) (vA_s (by decide)) rfl rfl ?_
    refine A_iconst 3 (by decide) d_Reader_one_29 ?_
    refine A_icmp_ne 50 d_Reader_one_30 (by decide) (fun z => ?_) (fun z => ?_)
    · have H := H.1 z
      refine A_aload_n d_Reader_one_50 rfl ?_
      refine A_get (v := .int (h.1 25 5)) d_Reader_one_51 (fo_Reader_53_7 rfl) (vA_s (by decide)) rfl rfl ?_
      refine A_bipush 45 (by decide) d_Reader_one_54 ?_
      refine A_icmp_eq 68 d_Reader_one_56 (by decide) (fun z => ?_) (fun z => ?_)
      · have H := H.1 z
        exact r_Reader_one_68 hP_Reader_either hP_Reader_one  _ _ H
      · have H := H.2 z
        refine A_aload_n d_Reader_one_59 rfl ?_
        refine A_get (v := .int (h.1 25 5)) d_Reader_one_60 (fo_Reader_53_7 rfl) (vA_s (by decide)) rfl rfl ?_
        refine A_bipush 40 (by decide) d_Reader_one_63 ?_
        refine A_icmp_ne 73 d_Reader_one_65 (by decide) (fun z => ?_) (fun z => ?_)
        · have H := H.1 z
          refine A_iconst 0 (by decide) d_Reader_one_73 ?_
          exact A_iret d_Reader_one_74 rfl rfl H
        · have H := H.2 z
          exact r_Reader_one_68 hP_Reader_either hP_Reader_one  _ _ H
    · have H := H.2 z
      refine A_aload_n d_Reader_one_33 rfl ?_
      obtain ⟨c1, H⟩ := H
      refine A_get (v := .ref (rR T1 h 25 2 - 1)) d_Reader_one_34 (fo_Reader_25_7 rfl) (vA_s (by decide)) rfl (vR_pos c1) ?_
      refine A_aload_n d_Reader_one_37 rfl ?_
      refine A_get (v := .int (h.1 25 6)) d_Reader_one_38 (fo_Reader_78_7 rfl) (vA_s (by decide)) rfl rfl ?_
      obtain ⟨c2, H⟩ := H
      obtain ⟨c3, H⟩ := H
      refine A_cV [.ref (rR T1 h 25 2 - 1), .int (h.1 25 6)] [] (ct_Reader_81 rfl) d_Reader_one_41 rfl rfl (by decide) (Nat.le_of_ble_eq_true rfl) (rcA_o (c := 6) rfl c2 c3 (by decide) rfl) (ok_Law_addName (d := d + 7) H) (fun h4 H => ?_)
      refine A_aload_n d_Reader_one_44 rfl ?_
      refine A_cV [.ref 25] [] (ct_Reader_37 rfl) d_Reader_one_45 rfl rfl (by decide) (Nat.le_of_ble_eq_true rfl) (rcA_o (c := 7) rfl (vA_s (by decide)) rfl (by decide) rfl) (ok_Reader_next (d := d + 1) H) (fun h5 H => ?_)
      refine A_iconst 1 (by decide) d_Reader_one_48 ?_
      exact A_iret d_Reader_one_49 rfl rfl H
  · have H := H.2 z
    refine A_aload_n d_Reader_one_8 rfl ?_
    obtain ⟨c6, H⟩ := H
    refine A_get (v := .ref (rR T1 h 25 2 - 1)) d_Reader_one_9 (fo_Reader_25_7 rfl) (vA_s (by decide)) rfl (vR_pos c6) ?_
    refine A_aload_n d_Reader_one_12 rfl ?_
    refine A_get (v := .int (h.1 25 6)) d_Reader_one_13 (fo_Reader_78_7 rfl) (vA_s (by decide)) rfl rfl ?_
    obtain ⟨c7, H⟩ := H
    obtain ⟨c8, H⟩ := H
    refine A_cV [.ref (rR T1 h 25 2 - 1), .int (h.1 25 6)] [] (ct_Reader_59 rfl) d_Reader_one_16 rfl rfl (by decide) (Nat.le_of_ble_eq_true rfl) (rcA_o (c := 6) rfl c7 c8 (by decide) rfl) (ok_Law_add (d := d + 8) H) (fun h9 H => ?_)
    refine A_aload_n d_Reader_one_19 rfl ?_
    refine A_cV [.ref 25] [] (ct_Reader_37 rfl) d_Reader_one_20 rfl rfl (by decide) (Nat.le_of_ble_eq_true rfl) (rcA_o (c := 7) rfl (vA_s (by decide)) rfl (by decide) rfl) (ok_Reader_next (d := d + 1) H) (fun h10 H => ?_)
    refine A_iconst 1 (by decide) d_Reader_one_23 ?_
    exact A_iret d_Reader_one_24 rfl rfl H
set_option maxRecDepth 20000 in
theorem ok_Reader_one {G : GG} {d : Nat} {Q : Int32 → AH → Prop} {P_Reader_either : (Int32 → AH → Prop) → Int32 → AH → Prop} {P_Reader_one : (Int32 → AH → Prop) → Int32 → AH → Prop} (hP_Reader_either : ∀ Q x1 h, P_Reader_either Q x1 h → WP G T1 m_Reader_either (d + 8) [.ref 25, .int x1] h 0 0 (iQ Q)) (hP_Reader_one : ∀ Q x1 h, P_Reader_one Q x1 h → WP G T1 m_Reader_one (d + 8) [.ref 25, .int x1] h 0 0 (iQ Q)) {x1 : Int32} {h : AH} (H : p_Reader_one Q P_Reader_either P_Reader_one x1 h) : WP G T1 m_Reader_one (d + 9) [.ref 25, .int x1] h 0 0 (iQ Q) := by
  exact WP.enter 1 (by decide) rfl rfl (r_Reader_one_0 hP_Reader_either hP_Reader_one x1 h H)
theorem d_MO_when_0 : decode prog_14_method_49_code 0 = .ok (.aload_n 0, 1) := by decide +kernel
theorem d_MO_when_1 : decode prog_14_method_49_code 1 = .ok (.iload_n 1, 1) := by decide +kernel
theorem d_MO_when_2 : decode prog_14_method_49_code 2 = .ok (.invokevirtual 182, 3) := by decide +kernel
theorem d_MO_when_5 : decode prog_14_method_49_code 5 = .ok (.ifCond .eq 11, 3) := by decide +kernel
theorem d_MO_when_8 : decode prog_14_method_49_code 8 = .ok (.aload_n 0, 1) := by decide +kernel
theorem d_MO_when_9 : decode prog_14_method_49_code 9 = .ok (.iload_n 1, 1) := by decide +kernel
theorem d_MO_when_10 : decode prog_14_method_49_code 10 = .ok (.invokevirtual 247, 3) := by decide +kernel
theorem d_MO_when_13 : decode prog_14_method_49_code 13 = .ok (.goto 5, 3) := by decide +kernel
theorem d_MO_when_16 : decode prog_14_method_49_code 16 = .ok (.bipush (-5), 2) := by decide +kernel
theorem d_MO_when_18 : decode prog_14_method_49_code 18 = .ok (.ireturn, 1) := by decide +kernel
def p_MO_when (Q : Int32 → AH → Prop) (x1 : Int32) (h : AH) : Prop := p_MO_isHouse (fun r2 h1 => ((r2 = 0 → Q (-5) h1) ∧ (¬ r2 = 0 → p_MO_whenOf (fun r4 h3 => Q r4 h3) x1 h1))) x1 h
set_option maxRecDepth 20000 in
theorem r_MO_when_0 {G : GG} {d : Nat} {Q : Int32 → AH → Prop} (x1 : Int32) (h : AH) (H : p_MO_when Q x1 h) : Att G T1 m_MO_when (d + 9) 0 [some (.ref 59), some (.int x1)] [] h 0 0 (iQ Q) := by
  refine A_aload_n d_MO_when_0 rfl ?_
  refine A_iload_n d_MO_when_1 rfl ?_
  refine A_cI [.ref 59, .int x1] [] (ct_MO_182 rfl) d_MO_when_2 rfl rfl (by decide) (Nat.le_of_ble_eq_true rfl) (rcA_o (c := 12) rfl (vA_s (by decide)) rfl (by decide) rfl) (ok_MO_isHouse (d := d + 7) H) (fun r2 h1 H => ?_)
  refine A_if_eq 16 d_MO_when_5 (by decide) (fun z => ?_) (fun z => ?_)
  · have H := H.1 z
    refine A_bipush (-5) (by decide) d_MO_when_16 ?_
    exact A_iret d_MO_when_18 rfl rfl H
  · have H := H.2 z
    refine A_aload_n d_MO_when_8 rfl ?_
    refine A_iload_n d_MO_when_9 rfl ?_
    refine A_cI [.ref 59, .int x1] [] (ct_MO_247 rfl) d_MO_when_10 rfl rfl (by decide) (Nat.le_of_ble_eq_true rfl) (rcA_o (c := 12) rfl (vA_s (by decide)) rfl (by decide) rfl) (ok_MO_whenOf (d := d) H) (fun r4 h3 H => ?_)
    refine A_goto 18 d_MO_when_13 (by decide) ?_
    exact A_iret d_MO_when_18 rfl rfl H
set_option maxRecDepth 20000 in
theorem ok_MO_when {G : GG} {d : Nat} {Q : Int32 → AH → Prop} {x1 : Int32} {h : AH} (H : p_MO_when Q x1 h) : WP G T1 m_MO_when (d + 9) [.ref 59, .int x1] h 0 0 (iQ Q) := by
  exact WP.enter 0 (by decide) rfl rfl (r_MO_when_0 x1 h H)
theorem d_MO_first_0 : decode prog_14_method_50_code 0 = .ok (.iload_n 1, 1) := by decide +kernel
theorem d_MO_first_1 : decode prog_14_method_50_code 1 = .ok (.iconst 0, 1) := by decide +kernel
theorem d_MO_first_2 : decode prog_14_method_50_code 2 = .ok (.iconst 1, 1) := by decide +kernel
theorem d_MO_first_3 : decode prog_14_method_50_code 3 = .ok (.invokestatic 93, 3) := by decide +kernel
theorem d_MO_first_6 : decode prog_14_method_50_code 6 = .ok (.ifCond .ne 6, 3) := by decide +kernel
theorem d_MO_first_9 : decode prog_14_method_50_code 9 = .ok (.bipush (-2), 2) := by decide +kernel
theorem d_MO_first_11 : decode prog_14_method_50_code 11 = .ok (.ireturn, 1) := by decide +kernel
theorem d_MO_first_12 : decode prog_14_method_50_code 12 = .ok (.iconst (-1), 1) := by decide +kernel
theorem d_MO_first_13 : decode prog_14_method_50_code 13 = .ok (.istore_n 2, 1) := by decide +kernel
theorem d_MO_first_14 : decode prog_14_method_50_code 14 = .ok (.iconst (-1), 1) := by decide +kernel
theorem d_MO_first_15 : decode prog_14_method_50_code 15 = .ok (.istore_n 3, 1) := by decide +kernel
theorem d_MO_first_16 : decode prog_14_method_50_code 16 = .ok (.iconst 0, 1) := by decide +kernel
theorem d_MO_first_17 : decode prog_14_method_50_code 17 = .ok (.istore 4, 2) := by decide +kernel
theorem d_MO_first_19 : decode prog_14_method_50_code 19 = .ok (.iload 4, 2) := by decide +kernel
theorem d_MO_first_21 : decode prog_14_method_50_code 21 = .ok (.aload_n 0, 1) := by decide +kernel
theorem d_MO_first_22 : decode prog_14_method_50_code 22 = .ok (.getfield 90, 3) := by decide +kernel
theorem d_MO_first_25 : decode prog_14_method_50_code 25 = .ok (.if_icmp .ge 84, 3) := by decide +kernel
theorem d_MO_first_28 : decode prog_14_method_50_code 28 = .ok (.aload_n 0, 1) := by decide +kernel
theorem d_MO_first_29 : decode prog_14_method_50_code 29 = .ok (.iload 4, 2) := by decide +kernel
theorem d_MO_first_31 : decode prog_14_method_50_code 31 = .ok (.invokevirtual 247, 3) := by decide +kernel
theorem d_MO_first_34 : decode prog_14_method_50_code 34 = .ok (.istore 5, 2) := by decide +kernel
theorem d_MO_first_36 : decode prog_14_method_50_code 36 = .ok (.iload_n 2, 1) := by decide +kernel
theorem d_MO_first_37 : decode prog_14_method_50_code 37 = .ok (.iconst (-1), 1) := by decide +kernel
theorem d_MO_first_38 : decode prog_14_method_50_code 38 = .ok (.if_icmp .eq 22, 3) := by decide +kernel
theorem d_MO_first_41 : decode prog_14_method_50_code 41 = .ok (.iload_n 1, 1) := by decide +kernel
theorem d_MO_first_42 : decode prog_14_method_50_code 42 = .ok (.ifCond .ne 12, 3) := by decide +kernel
theorem d_MO_first_45 : decode prog_14_method_50_code 45 = .ok (.iload 5, 2) := by decide +kernel
theorem d_MO_first_47 : decode prog_14_method_50_code 47 = .ok (.iload_n 3, 1) := by decide +kernel
theorem d_MO_first_48 : decode prog_14_method_50_code 48 = .ok (.if_icmp .ge 16, 3) := by decide +kernel
theorem d_MO_first_51 : decode prog_14_method_50_code 51 = .ok (.goto 9, 3) := by decide +kernel
theorem d_MO_first_54 : decode prog_14_method_50_code 54 = .ok (.iload 5, 2) := by decide +kernel
theorem d_MO_first_56 : decode prog_14_method_50_code 56 = .ok (.iload_n 3, 1) := by decide +kernel
theorem d_MO_first_57 : decode prog_14_method_50_code 57 = .ok (.if_icmp .le 7, 3) := by decide +kernel
theorem d_MO_first_60 : decode prog_14_method_50_code 60 = .ok (.iconst 1, 1) := by decide +kernel
theorem d_MO_first_61 : decode prog_14_method_50_code 61 = .ok (.goto 4, 3) := by decide +kernel
theorem d_MO_first_64 : decode prog_14_method_50_code 64 = .ok (.iconst 0, 1) := by decide +kernel
theorem d_MO_first_65 : decode prog_14_method_50_code 65 = .ok (.istore 6, 2) := by decide +kernel
theorem d_MO_first_67 : decode prog_14_method_50_code 67 = .ok (.iload 5, 2) := by decide +kernel
theorem d_MO_first_69 : decode prog_14_method_50_code 69 = .ok (.iconst (-1), 1) := by decide +kernel
theorem d_MO_first_70 : decode prog_14_method_50_code 70 = .ok (.if_icmp .eq 13, 3) := by decide +kernel
theorem d_MO_first_73 : decode prog_14_method_50_code 73 = .ok (.iload 6, 2) := by decide +kernel
theorem d_MO_first_75 : decode prog_14_method_50_code 75 = .ok (.ifCond .eq 8, 3) := by decide +kernel
theorem d_MO_first_78 : decode prog_14_method_50_code 78 = .ok (.iload 4, 2) := by decide +kernel
theorem d_MO_first_80 : decode prog_14_method_50_code 80 = .ok (.goto 4, 3) := by decide +kernel
theorem d_MO_first_83 : decode prog_14_method_50_code 83 = .ok (.iload_n 2, 1) := by decide +kernel
theorem d_MO_first_84 : decode prog_14_method_50_code 84 = .ok (.istore_n 2, 1) := by decide +kernel
theorem d_MO_first_85 : decode prog_14_method_50_code 85 = .ok (.iload 5, 2) := by decide +kernel
theorem d_MO_first_87 : decode prog_14_method_50_code 87 = .ok (.iconst (-1), 1) := by decide +kernel
theorem d_MO_first_88 : decode prog_14_method_50_code 88 = .ok (.if_icmp .eq 13, 3) := by decide +kernel
theorem d_MO_first_91 : decode prog_14_method_50_code 91 = .ok (.iload 6, 2) := by decide +kernel
theorem d_MO_first_93 : decode prog_14_method_50_code 93 = .ok (.ifCond .eq 8, 3) := by decide +kernel
theorem d_MO_first_96 : decode prog_14_method_50_code 96 = .ok (.iload 5, 2) := by decide +kernel
theorem d_MO_first_98 : decode prog_14_method_50_code 98 = .ok (.goto 4, 3) := by decide +kernel
theorem d_MO_first_101 : decode prog_14_method_50_code 101 = .ok (.iload_n 3, 1) := by decide +kernel
theorem d_MO_first_102 : decode prog_14_method_50_code 102 = .ok (.istore_n 3, 1) := by decide +kernel
theorem d_MO_first_103 : decode prog_14_method_50_code 103 = .ok (.iinc 4 1, 3) := by decide +kernel
theorem d_MO_first_106 : decode prog_14_method_50_code 106 = .ok (.goto (-87), 3) := by decide +kernel
theorem d_MO_first_109 : decode prog_14_method_50_code 109 = .ok (.iload_n 2, 1) := by decide +kernel
theorem d_MO_first_110 : decode prog_14_method_50_code 110 = .ok (.ireturn, 1) := by decide +kernel
def p_MO_first_102 (Q : Int32 → AH → Prop) (K19 : Int32 → Int32 → Int32 → Int32 → AH → Prop) (x1 : Int32) (x2 : Int32) (x4 : Int32) (s0 : Int32) (h : AH) : Prop := K19 x1 x2 s0 (x4 + 1) h
def p_MO_first_101 (Q : Int32 → AH → Prop) (K19 : Int32 → Int32 → Int32 → Int32 → AH → Prop) (x1 : Int32) (x2 : Int32) (x3 : Int32) (x4 : Int32) (h : AH) : Prop := p_MO_first_102 Q  K19 x1 x2 x4 x3 h
def p_MO_first_84 (Q : Int32 → AH → Prop) (K19 : Int32 → Int32 → Int32 → Int32 → AH → Prop) (x1 : Int32) (x3 : Int32) (x4 : Int32) (x5 : Int32) (x6 : Int32) (s0 : Int32) (h : AH) : Prop := ((x5 = (-1) → p_MO_first_101 Q  K19 x1 s0 x3 x4 h) ∧ (¬ x5 = (-1) → ((x6 = 0 → p_MO_first_101 Q  K19 x1 s0 x3 x4 h) ∧ (¬ x6 = 0 → p_MO_first_102 Q  K19 x1 s0 x4 x5 h))))
def p_MO_first_83 (Q : Int32 → AH → Prop) (K19 : Int32 → Int32 → Int32 → Int32 → AH → Prop) (x1 : Int32) (x2 : Int32) (x3 : Int32) (x4 : Int32) (x5 : Int32) (x6 : Int32) (h : AH) : Prop := p_MO_first_84 Q  K19 x1 x3 x4 x5 x6 x2 h
def p_MO_first_65 (Q : Int32 → AH → Prop) (K19 : Int32 → Int32 → Int32 → Int32 → AH → Prop) (x1 : Int32) (x2 : Int32) (x3 : Int32) (x4 : Int32) (x5 : Int32) (s0 : Int32) (h : AH) : Prop := ((x5 = (-1) → p_MO_first_83 Q  K19 x1 x2 x3 x4 x5 s0 h) ∧ (¬ x5 = (-1) → ((s0 = 0 → p_MO_first_83 Q  K19 x1 x2 x3 x4 x5 s0 h) ∧ (¬ s0 = 0 → p_MO_first_84 Q  K19 x1 x3 x4 x5 s0 x4 h))))
def p_MO_first_64 (Q : Int32 → AH → Prop) (K19 : Int32 → Int32 → Int32 → Int32 → AH → Prop) (x1 : Int32) (x2 : Int32) (x3 : Int32) (x4 : Int32) (x5 : Int32) (h : AH) : Prop := p_MO_first_65 Q  K19 x1 x2 x3 x4 x5 0 h
def p_MO_first_60 (Q : Int32 → AH → Prop) (K19 : Int32 → Int32 → Int32 → Int32 → AH → Prop) (x1 : Int32) (x2 : Int32) (x3 : Int32) (x4 : Int32) (x5 : Int32) (h : AH) : Prop := p_MO_first_65 Q  K19 x1 x2 x3 x4 x5 1 h
def p_MO_first_19 (Q : Int32 → AH → Prop) : Nat → Int32 → Int32 → Int32 → Int32 → AH → Prop
  | 0 => fun _ _ _ _ _ => False
  | n + 1 => fun x1 x2 x3 x4 h => let K19 := p_MO_first_19 Q n; (((h.1 59 0) ≤ x4 → Q x2 h) ∧ (¬ (h.1 59 0) ≤ x4 → p_MO_whenOf (fun r2 h1 => ((x2 = (-1) → p_MO_first_60 Q  K19 x1 x2 x3 x4 r2 h1) ∧ (¬ x2 = (-1) → ((¬ x1 = 0 → ((r2 ≤ x3 → p_MO_first_64 Q  K19 x1 x2 x3 x4 r2 h1) ∧ (¬ r2 ≤ x3 → p_MO_first_60 Q  K19 x1 x2 x3 x4 r2 h1))) ∧ (x1 = 0 → ((x3 ≤ r2 → p_MO_first_64 Q  K19 x1 x2 x3 x4 r2 h1) ∧ (¬ x3 ≤ r2 → p_MO_first_60 Q  K19 x1 x2 x3 x4 r2 h1))))))) x4 h))
def p_MO_first (Q : Int32 → AH → Prop) (x1 : Int32) (h : AH) : Prop := p_MO_in (fun r2 h1 => ((¬ r2 = 0 → ∃ n, p_MO_first_19 Q   n x1 (-1) (-1) 0 h1) ∧ (r2 = 0 → Q (-2) h1))) x1 0 1 h
set_option maxRecDepth 20000 in
theorem r_MO_first_102 {G : GG} {d : Nat} {Q : Int32 → AH → Prop} {K19 : Int32 → Int32 → Int32 → Int32 → AH → Prop} (k19 : ∀ x1 x2 x3 x4 h, K19 x1 x2 x3 x4 h → Att G T1 m_MO_first (d + 9) 19 [some (.ref 59), some (.int x1), some (.int x2), some (.int x3), some (.int x4), none, none] [] h 0 0 (iQ Q)) (x1 : Int32) (x2 : Int32) (x4 : Int32) (s0 : Int32) (h : AH) (H : p_MO_first_102 Q K19 x1 x2 x4 s0 h) : Att G T1 m_MO_first (d + 9) 102 [some (.ref 59), some (.int x1), some (.int x2), none, some (.int x4), none, none] [.int s0] h 0 0 (iQ Q) := by
  refine A_istore_n [some (.ref 59), some (.int x1), some (.int x2), some (.int s0), some (.int x4), none, none] d_MO_first_102 (by decide) rfl rfl ?_
  refine A_iinc 1 [some (.ref 59), some (.int x1), some (.int x2), some (.int s0), some (.int (x4 + 1)), none, none] d_MO_first_103 rfl (by decide) (by decide) rfl rfl ?_
  refine A_goto 19 d_MO_first_106 (by decide) ?_
  exact k19 _ _ _ _ _ H
set_option maxRecDepth 20000 in
theorem r_MO_first_101 {G : GG} {d : Nat} {Q : Int32 → AH → Prop} {K19 : Int32 → Int32 → Int32 → Int32 → AH → Prop} (k19 : ∀ x1 x2 x3 x4 h, K19 x1 x2 x3 x4 h → Att G T1 m_MO_first (d + 9) 19 [some (.ref 59), some (.int x1), some (.int x2), some (.int x3), some (.int x4), none, none] [] h 0 0 (iQ Q)) (x1 : Int32) (x2 : Int32) (x3 : Int32) (x4 : Int32) (h : AH) (H : p_MO_first_101 Q K19 x1 x2 x3 x4 h) : Att G T1 m_MO_first (d + 9) 101 [some (.ref 59), some (.int x1), some (.int x2), some (.int x3), some (.int x4), none, none] [] h 0 0 (iQ Q) := by
  refine A_iload_n d_MO_first_101 rfl ?_
  refine A_sub (L' := [some (.ref 59), some (.int x1), some (.int x2), none, some (.int x4), none, none]) ⟨rfl, rfl, rfl, rfl, trivial⟩ ?_
  exact r_MO_first_102  k19 _ _ _ _ _ H
set_option maxRecDepth 20000 in
theorem r_MO_first_84 {G : GG} {d : Nat} {Q : Int32 → AH → Prop} {K19 : Int32 → Int32 → Int32 → Int32 → AH → Prop} (k19 : ∀ x1 x2 x3 x4 h, K19 x1 x2 x3 x4 h → Att G T1 m_MO_first (d + 9) 19 [some (.ref 59), some (.int x1), some (.int x2), some (.int x3), some (.int x4), none, none] [] h 0 0 (iQ Q)) (x1 : Int32) (x3 : Int32) (x4 : Int32) (x5 : Int32) (x6 : Int32) (s0 : Int32) (h : AH) (H : p_MO_first_84 Q K19 x1 x3 x4 x5 x6 s0 h) : Att G T1 m_MO_first (d + 9) 84 [some (.ref 59), some (.int x1), none, some (.int x3), some (.int x4), some (.int x5), some (.int x6)] [.int s0] h 0 0 (iQ Q) := by
  refine A_istore_n [some (.ref 59), some (.int x1), some (.int s0), some (.int x3), some (.int x4), some (.int x5), some (.int x6)] d_MO_first_84 (by decide) rfl rfl ?_
  refine A_iload d_MO_first_85 rfl ?_
  refine A_iconst (-1) (by decide) d_MO_first_87 ?_
  refine A_icmp_eq 101 d_MO_first_88 (by decide) (fun z => ?_) (fun z => ?_)
  · have H := H.1 z
    refine A_sub (L' := [some (.ref 59), some (.int x1), some (.int s0), some (.int x3), some (.int x4), none, none]) ⟨rfl, rfl, rfl, rfl, rfl, trivial⟩ ?_
    exact r_MO_first_101  k19 _ _ _ _ _ H
  · have H := H.2 z
    refine A_iload d_MO_first_91 rfl ?_
    refine A_if_eq 101 d_MO_first_93 (by decide) (fun z => ?_) (fun z => ?_)
    · have H := H.1 z
      refine A_sub (L' := [some (.ref 59), some (.int x1), some (.int s0), some (.int x3), some (.int x4), none, none]) ⟨rfl, rfl, rfl, rfl, rfl, trivial⟩ ?_
      exact r_MO_first_101  k19 _ _ _ _ _ H
    · have H := H.2 z
      refine A_iload d_MO_first_96 rfl ?_
      refine A_goto 102 d_MO_first_98 (by decide) ?_
      refine A_sub (L' := [some (.ref 59), some (.int x1), some (.int s0), none, some (.int x4), none, none]) ⟨rfl, rfl, rfl, rfl, trivial⟩ ?_
      exact r_MO_first_102  k19 _ _ _ _ _ H
set_option maxRecDepth 20000 in
theorem r_MO_first_83 {G : GG} {d : Nat} {Q : Int32 → AH → Prop} {K19 : Int32 → Int32 → Int32 → Int32 → AH → Prop} (k19 : ∀ x1 x2 x3 x4 h, K19 x1 x2 x3 x4 h → Att G T1 m_MO_first (d + 9) 19 [some (.ref 59), some (.int x1), some (.int x2), some (.int x3), some (.int x4), none, none] [] h 0 0 (iQ Q)) (x1 : Int32) (x2 : Int32) (x3 : Int32) (x4 : Int32) (x5 : Int32) (x6 : Int32) (h : AH) (H : p_MO_first_83 Q K19 x1 x2 x3 x4 x5 x6 h) : Att G T1 m_MO_first (d + 9) 83 [some (.ref 59), some (.int x1), some (.int x2), some (.int x3), some (.int x4), some (.int x5), some (.int x6)] [] h 0 0 (iQ Q) := by
  refine A_iload_n d_MO_first_83 rfl ?_
  refine A_sub (L' := [some (.ref 59), some (.int x1), none, some (.int x3), some (.int x4), some (.int x5), some (.int x6)]) ⟨rfl, rfl, rfl, rfl, rfl, rfl, trivial⟩ ?_
  exact r_MO_first_84  k19 _ _ _ _ _ _ _ H
set_option maxRecDepth 20000 in
theorem r_MO_first_65 {G : GG} {d : Nat} {Q : Int32 → AH → Prop} {K19 : Int32 → Int32 → Int32 → Int32 → AH → Prop} (k19 : ∀ x1 x2 x3 x4 h, K19 x1 x2 x3 x4 h → Att G T1 m_MO_first (d + 9) 19 [some (.ref 59), some (.int x1), some (.int x2), some (.int x3), some (.int x4), none, none] [] h 0 0 (iQ Q)) (x1 : Int32) (x2 : Int32) (x3 : Int32) (x4 : Int32) (x5 : Int32) (s0 : Int32) (h : AH) (H : p_MO_first_65 Q K19 x1 x2 x3 x4 x5 s0 h) : Att G T1 m_MO_first (d + 9) 65 [some (.ref 59), some (.int x1), some (.int x2), some (.int x3), some (.int x4), some (.int x5), none] [.int s0] h 0 0 (iQ Q) := by
  refine A_istore [some (.ref 59), some (.int x1), some (.int x2), some (.int x3), some (.int x4), some (.int x5), some (.int s0)] d_MO_first_65 (by decide) rfl rfl ?_
  refine A_iload d_MO_first_67 rfl ?_
  refine A_iconst (-1) (by decide) d_MO_first_69 ?_
  refine A_icmp_eq 83 d_MO_first_70 (by decide) (fun z => ?_) (fun z => ?_)
  · have H := H.1 z
    exact r_MO_first_83  k19 _ _ _ _ _ _ _ H
  · have H := H.2 z
    refine A_iload d_MO_first_73 rfl ?_
    refine A_if_eq 83 d_MO_first_75 (by decide) (fun z => ?_) (fun z => ?_)
    · have H := H.1 z
      exact r_MO_first_83  k19 _ _ _ _ _ _ _ H
    · have H := H.2 z
      refine A_iload d_MO_first_78 rfl ?_
      refine A_goto 84 d_MO_first_80 (by decide) ?_
      refine A_sub (L' := [some (.ref 59), some (.int x1), none, some (.int x3), some (.int x4), some (.int x5), some (.int s0)]) ⟨rfl, rfl, rfl, rfl, rfl, rfl, trivial⟩ ?_
      exact r_MO_first_84  k19 _ _ _ _ _ _ _ H
set_option maxRecDepth 20000 in
theorem r_MO_first_64 {G : GG} {d : Nat} {Q : Int32 → AH → Prop} {K19 : Int32 → Int32 → Int32 → Int32 → AH → Prop} (k19 : ∀ x1 x2 x3 x4 h, K19 x1 x2 x3 x4 h → Att G T1 m_MO_first (d + 9) 19 [some (.ref 59), some (.int x1), some (.int x2), some (.int x3), some (.int x4), none, none] [] h 0 0 (iQ Q)) (x1 : Int32) (x2 : Int32) (x3 : Int32) (x4 : Int32) (x5 : Int32) (h : AH) (H : p_MO_first_64 Q K19 x1 x2 x3 x4 x5 h) : Att G T1 m_MO_first (d + 9) 64 [some (.ref 59), some (.int x1), some (.int x2), some (.int x3), some (.int x4), some (.int x5), none] [] h 0 0 (iQ Q) := by
  refine A_iconst 0 (by decide) d_MO_first_64 ?_
  exact r_MO_first_65  k19 _ _ _ _ _ _ _ H
set_option maxRecDepth 20000 in
theorem r_MO_first_60 {G : GG} {d : Nat} {Q : Int32 → AH → Prop} {K19 : Int32 → Int32 → Int32 → Int32 → AH → Prop} (k19 : ∀ x1 x2 x3 x4 h, K19 x1 x2 x3 x4 h → Att G T1 m_MO_first (d + 9) 19 [some (.ref 59), some (.int x1), some (.int x2), some (.int x3), some (.int x4), none, none] [] h 0 0 (iQ Q)) (x1 : Int32) (x2 : Int32) (x3 : Int32) (x4 : Int32) (x5 : Int32) (h : AH) (H : p_MO_first_60 Q K19 x1 x2 x3 x4 x5 h) : Att G T1 m_MO_first (d + 9) 60 [some (.ref 59), some (.int x1), some (.int x2), some (.int x3), some (.int x4), some (.int x5), none] [] h 0 0 (iQ Q) := by
  refine A_iconst 1 (by decide) d_MO_first_60 ?_
  refine A_goto 65 d_MO_first_61 (by decide) ?_
  exact r_MO_first_65  k19 _ _ _ _ _ _ _ H
set_option maxRecDepth 20000 in
theorem r_MO_first_19 {G : GG} {d : Nat} {Q : Int32 → AH → Prop} : ∀ (n : Nat) (x1 : Int32) (x2 : Int32) (x3 : Int32) (x4 : Int32) (h : AH), p_MO_first_19 Q n x1 x2 x3 x4 h → Att G T1 m_MO_first (d + 9) 19 [some (.ref 59), some (.int x1), some (.int x2), some (.int x3), some (.int x4), none, none] [] h 0 0 (iQ Q) := by
  intro n
  induction n with
  | zero => intro x1 x2 x3 x4 h H; exact H.elim
  | succ n k19 =>
    intro x1 x2 x3 x4 h H
    refine A_iload d_MO_first_19 rfl ?_
    refine A_aload_n d_MO_first_21 rfl ?_
    refine A_get (v := .int (h.1 59 0)) d_MO_first_22 (fo_MO_90_12 rfl) (vA_s (by decide)) rfl rfl ?_
    refine A_icmp_ge 109 d_MO_first_25 (by decide) (fun z => ?_) (fun z => ?_)
    · have H := H.1 z
      refine A_iload_n d_MO_first_109 rfl ?_
      exact A_iret d_MO_first_110 rfl rfl H
    · have H := H.2 z
      refine A_aload_n d_MO_first_28 rfl ?_
      refine A_iload d_MO_first_29 rfl ?_
      refine A_cI [.ref 59, .int x4] [] (ct_MO_247 rfl) d_MO_first_31 rfl rfl (by decide) (Nat.le_of_ble_eq_true rfl) (rcA_o (c := 12) rfl (vA_s (by decide)) rfl (by decide) rfl) (ok_MO_whenOf (d := d) H) (fun r2 h1 H => ?_)
      refine A_istore [some (.ref 59), some (.int x1), some (.int x2), some (.int x3), some (.int x4), some (.int r2), none] d_MO_first_34 (by decide) rfl rfl ?_
      refine A_iload_n d_MO_first_36 rfl ?_
      refine A_iconst (-1) (by decide) d_MO_first_37 ?_
      refine A_icmp_eq 60 d_MO_first_38 (by decide) (fun z => ?_) (fun z => ?_)
      · have H := H.1 z
        exact r_MO_first_60  k19 _ _ _ _ _ _ H
      · have H := H.2 z
        refine A_iload_n d_MO_first_41 rfl ?_
        refine A_if_ne 54 d_MO_first_42 (by decide) (fun z => ?_) (fun z => ?_)
        · have H := H.1 z
          refine A_iload d_MO_first_54 rfl ?_
          refine A_iload_n d_MO_first_56 rfl ?_
          refine A_icmp_le 64 d_MO_first_57 (by decide) (fun z => ?_) (fun z => ?_)
          · have H := H.1 z
            exact r_MO_first_64  k19 _ _ _ _ _ _ H
          · have H := H.2 z
            exact r_MO_first_60  k19 _ _ _ _ _ _ H
        · have H := H.2 z
          refine A_iload d_MO_first_45 rfl ?_
          refine A_iload_n d_MO_first_47 rfl ?_
          refine A_icmp_ge 64 d_MO_first_48 (by decide) (fun z => ?_) (fun z => ?_)
          · have H := H.1 z
            exact r_MO_first_64  k19 _ _ _ _ _ _ H
          · have H := H.2 z
            refine A_goto 60 d_MO_first_51 (by decide) ?_
            exact r_MO_first_60  k19 _ _ _ _ _ _ H
set_option maxRecDepth 20000 in
theorem r_MO_first_0 {G : GG} {d : Nat} {Q : Int32 → AH → Prop} (x1 : Int32) (h : AH) (H : p_MO_first Q x1 h) : Att G T1 m_MO_first (d + 9) 0 [some (.ref 59), some (.int x1), none, none, none, none, none] [] h 0 0 (iQ Q) := by
  refine A_iload_n d_MO_first_0 rfl ?_
  refine A_iconst 0 (by decide) d_MO_first_1 ?_
  refine A_iconst 1 (by decide) d_MO_first_2 ?_
  refine A_cI [.int x1, .int 0, .int 1] [] (ct_MO_93 rfl) d_MO_first_3 rfl rfl (by decide) (Nat.le_of_ble_eq_true rfl) trivial (ok_MO_in (d := d + 8) H) (fun r2 h1 H => ?_)
  refine A_if_ne 12 d_MO_first_6 (by decide) (fun z => ?_) (fun z => ?_)
  · have H := H.1 z
    refine A_iconst (-1) (by decide) d_MO_first_12 ?_
    refine A_istore_n [some (.ref 59), some (.int x1), some (.int (-1)), none, none, none, none] d_MO_first_13 (by decide) rfl rfl ?_
    refine A_iconst (-1) (by decide) d_MO_first_14 ?_
    refine A_istore_n [some (.ref 59), some (.int x1), some (.int (-1)), some (.int (-1)), none, none, none] d_MO_first_15 (by decide) rfl rfl ?_
    refine A_iconst 0 (by decide) d_MO_first_16 ?_
    refine A_istore [some (.ref 59), some (.int x1), some (.int (-1)), some (.int (-1)), some (.int 0), none, none] d_MO_first_17 (by decide) rfl rfl ?_
    obtain ⟨n9, H⟩ := H
    exact r_MO_first_19   n9 _ _ _ _ _ H
  · have H := H.2 z
    refine A_bipush (-2) (by decide) d_MO_first_9 ?_
    exact A_iret d_MO_first_11 rfl rfl H
set_option maxRecDepth 20000 in
theorem ok_MO_first {G : GG} {d : Nat} {Q : Int32 → AH → Prop} {x1 : Int32} {h : AH} (H : p_MO_first Q x1 h) : WP G T1 m_MO_first (d + 9) [.ref 59, .int x1] h 0 0 (iQ Q) := by
  exact WP.enter 5 (by decide) rfl rfl (r_MO_first_0 x1 h H)
theorem d_MO_weight_0 : decode prog_14_method_54_code 0 = .ok (.iload_n 1, 1) := by decide +kernel
theorem d_MO_weight_1 : decode prog_14_method_54_code 1 = .ok (.iconst 0, 1) := by decide +kernel
theorem d_MO_weight_2 : decode prog_14_method_54_code 2 = .ok (.bipush 20, 2) := by decide +kernel
theorem d_MO_weight_4 : decode prog_14_method_54_code 4 = .ok (.invokestatic 93, 3) := by decide +kernel
theorem d_MO_weight_7 : decode prog_14_method_54_code 7 = .ok (.ifCond .eq 19, 3) := by decide +kernel
theorem d_MO_weight_10 : decode prog_14_method_54_code 10 = .ok (.iload_n 2, 1) := by decide +kernel
theorem d_MO_weight_11 : decode prog_14_method_54_code 11 = .ok (.invokestatic 185, 3) := by decide +kernel
theorem d_MO_weight_14 : decode prog_14_method_54_code 14 = .ok (.ifCond .eq 12, 3) := by decide +kernel
theorem d_MO_weight_17 : decode prog_14_method_54_code 17 = .ok (.iload_n 3, 1) := by decide +kernel
theorem d_MO_weight_18 : decode prog_14_method_54_code 18 = .ok (.iconst 0, 1) := by decide +kernel
theorem d_MO_weight_19 : decode prog_14_method_54_code 19 = .ok (.iconst 1, 1) := by decide +kernel
theorem d_MO_weight_20 : decode prog_14_method_54_code 20 = .ok (.invokestatic 93, 3) := by decide +kernel
theorem d_MO_weight_23 : decode prog_14_method_54_code 23 = .ok (.ifCond .ne 6, 3) := by decide +kernel
theorem d_MO_weight_26 : decode prog_14_method_54_code 26 = .ok (.bipush (-2), 2) := by decide +kernel
theorem d_MO_weight_28 : decode prog_14_method_54_code 28 = .ok (.ireturn, 1) := by decide +kernel
theorem d_MO_weight_29 : decode prog_14_method_54_code 29 = .ok (.iconst (-1), 1) := by decide +kernel
theorem d_MO_weight_30 : decode prog_14_method_54_code 30 = .ok (.istore 4, 2) := by decide +kernel
theorem d_MO_weight_32 : decode prog_14_method_54_code 32 = .ok (.iconst (-1), 1) := by decide +kernel
theorem d_MO_weight_33 : decode prog_14_method_54_code 33 = .ok (.istore 5, 2) := by decide +kernel
theorem d_MO_weight_35 : decode prog_14_method_54_code 35 = .ok (.iconst 0, 1) := by decide +kernel
theorem d_MO_weight_36 : decode prog_14_method_54_code 36 = .ok (.istore 6, 2) := by decide +kernel
theorem d_MO_weight_38 : decode prog_14_method_54_code 38 = .ok (.iload 6, 2) := by decide +kernel
theorem d_MO_weight_40 : decode prog_14_method_54_code 40 = .ok (.aload_n 0, 1) := by decide +kernel
theorem d_MO_weight_41 : decode prog_14_method_54_code 41 = .ok (.getfield 90, 3) := by decide +kernel
theorem d_MO_weight_44 : decode prog_14_method_54_code 44 = .ok (.if_icmp .ge 70, 3) := by decide +kernel
theorem d_MO_weight_47 : decode prog_14_method_54_code 47 = .ok (.aload_n 0, 1) := by decide +kernel
theorem d_MO_weight_48 : decode prog_14_method_54_code 48 = .ok (.getfield 22, 3) := by decide +kernel
theorem d_MO_weight_51 : decode prog_14_method_54_code 51 = .ok (.iload 6, 2) := by decide +kernel
theorem d_MO_weight_53 : decode prog_14_method_54_code 53 = .ok (.dup2, 1) := by decide +kernel
theorem d_MO_weight_54 : decode prog_14_method_54_code 54 = .ok (.iaload, 1) := by decide +kernel
theorem d_MO_weight_55 : decode prog_14_method_54_code 55 = .ok (.iload_n 1, 1) := by decide +kernel
theorem d_MO_weight_56 : decode prog_14_method_54_code 56 = .ok (.iadd, 1) := by decide +kernel
theorem d_MO_weight_57 : decode prog_14_method_54_code 57 = .ok (.iastore, 1) := by decide +kernel
theorem d_MO_weight_58 : decode prog_14_method_54_code 58 = .ok (.aload_n 0, 1) := by decide +kernel
theorem d_MO_weight_59 : decode prog_14_method_54_code 59 = .ok (.iload_n 2, 1) := by decide +kernel
theorem d_MO_weight_60 : decode prog_14_method_54_code 60 = .ok (.invokevirtual 253, 3) := by decide +kernel
theorem d_MO_weight_63 : decode prog_14_method_54_code 63 = .ok (.istore 7, 2) := by decide +kernel
theorem d_MO_weight_65 : decode prog_14_method_54_code 65 = .ok (.aload_n 0, 1) := by decide +kernel
theorem d_MO_weight_66 : decode prog_14_method_54_code 66 = .ok (.getfield 22, 3) := by decide +kernel
theorem d_MO_weight_69 : decode prog_14_method_54_code 69 = .ok (.iload 6, 2) := by decide +kernel
theorem d_MO_weight_71 : decode prog_14_method_54_code 71 = .ok (.dup2, 1) := by decide +kernel
theorem d_MO_weight_72 : decode prog_14_method_54_code 72 = .ok (.iaload, 1) := by decide +kernel
theorem d_MO_weight_73 : decode prog_14_method_54_code 73 = .ok (.iload_n 1, 1) := by decide +kernel
theorem d_MO_weight_74 : decode prog_14_method_54_code 74 = .ok (.isub, 1) := by decide +kernel
theorem d_MO_weight_75 : decode prog_14_method_54_code 75 = .ok (.iastore, 1) := by decide +kernel
theorem d_MO_weight_76 : decode prog_14_method_54_code 76 = .ok (.iload 7, 2) := by decide +kernel
theorem d_MO_weight_78 : decode prog_14_method_54_code 78 = .ok (.iload 5, 2) := by decide +kernel
theorem d_MO_weight_80 : decode prog_14_method_54_code 80 = .ok (.if_icmp .le 8, 3) := by decide +kernel
theorem d_MO_weight_83 : decode prog_14_method_54_code 83 = .ok (.iload 6, 2) := by decide +kernel
theorem d_MO_weight_85 : decode prog_14_method_54_code 85 = .ok (.goto 5, 3) := by decide +kernel
theorem d_MO_weight_88 : decode prog_14_method_54_code 88 = .ok (.iload 4, 2) := by decide +kernel
theorem d_MO_weight_90 : decode prog_14_method_54_code 90 = .ok (.istore 4, 2) := by decide +kernel
theorem d_MO_weight_92 : decode prog_14_method_54_code 92 = .ok (.iload 7, 2) := by decide +kernel
theorem d_MO_weight_94 : decode prog_14_method_54_code 94 = .ok (.iload 5, 2) := by decide +kernel
theorem d_MO_weight_96 : decode prog_14_method_54_code 96 = .ok (.if_icmp .le 8, 3) := by decide +kernel
theorem d_MO_weight_99 : decode prog_14_method_54_code 99 = .ok (.iload 7, 2) := by decide +kernel
theorem d_MO_weight_101 : decode prog_14_method_54_code 101 = .ok (.goto 5, 3) := by decide +kernel
theorem d_MO_weight_104 : decode prog_14_method_54_code 104 = .ok (.iload 5, 2) := by decide +kernel
theorem d_MO_weight_106 : decode prog_14_method_54_code 106 = .ok (.istore 5, 2) := by decide +kernel
theorem d_MO_weight_108 : decode prog_14_method_54_code 108 = .ok (.iinc 6 1, 3) := by decide +kernel
theorem d_MO_weight_111 : decode prog_14_method_54_code 111 = .ok (.goto (-73), 3) := by decide +kernel
theorem d_MO_weight_114 : decode prog_14_method_54_code 114 = .ok (.iload_n 3, 1) := by decide +kernel
theorem d_MO_weight_115 : decode prog_14_method_54_code 115 = .ok (.ifCond .ne 8, 3) := by decide +kernel
theorem d_MO_weight_118 : decode prog_14_method_54_code 118 = .ok (.iload 4, 2) := by decide +kernel
theorem d_MO_weight_120 : decode prog_14_method_54_code 120 = .ok (.goto 5, 3) := by decide +kernel
theorem d_MO_weight_123 : decode prog_14_method_54_code 123 = .ok (.iload 5, 2) := by decide +kernel
theorem d_MO_weight_125 : decode prog_14_method_54_code 125 = .ok (.ireturn, 1) := by decide +kernel
def p_MO_weight_106 (Q : Int32 → AH → Prop) (K38 : Int32 → Int32 → Int32 → Int32 → Int32 → Int32 → AH → Prop) (x1 : Int32) (x2 : Int32) (x3 : Int32) (x4 : Int32) (x6 : Int32) (s0 : Int32) (h : AH) : Prop := K38 x1 x2 x3 x4 s0 (x6 + 1) h
def p_MO_weight_90 (Q : Int32 → AH → Prop) (K38 : Int32 → Int32 → Int32 → Int32 → Int32 → Int32 → AH → Prop) (x1 : Int32) (x2 : Int32) (x3 : Int32) (x5 : Int32) (x6 : Int32) (x7 : Int32) (s0 : Int32) (h : AH) : Prop := ((x7 ≤ x5 → p_MO_weight_106 Q  K38 x1 x2 x3 s0 x6 x5 h) ∧ (¬ x7 ≤ x5 → p_MO_weight_106 Q  K38 x1 x2 x3 s0 x6 x7 h))
def p_MO_weight_38 (Q : Int32 → AH → Prop) : Nat → Int32 → Int32 → Int32 → Int32 → Int32 → Int32 → AH → Prop
  | 0 => fun _ _ _ _ _ _ _ => False
  | n + 1 => fun x1 x2 x3 x4 x5 x6 h => let K38 := p_MO_weight_38 Q n; (((h.1 59 0) ≤ x6 → ((¬ x3 = 0 → Q x5 h) ∧ (x3 = 0 → Q x4 h))) ∧ (¬ (h.1 59 0) ≤ x6 → inb x6 7 ∧ p_MO_downs (fun r3 h2 => inb x6 7 ∧ ((r3 ≤ x5 → p_MO_weight_90 Q  K38 x1 x2 x3 x5 x6 r3 x4 (wI h2 64 x6 ((h2.1 64 x6) - x1))) ∧ (¬ r3 ≤ x5 → p_MO_weight_90 Q  K38 x1 x2 x3 x5 x6 r3 x6 (wI h2 64 x6 ((h2.1 64 x6) - x1))))) x2 (wI h 64 x6 ((h.1 64 x6) + x1))))
def p_MO_weight (Q : Int32 → AH → Prop) (x1 : Int32) (x2 : Int32) (x3 : Int32) (h : AH) : Prop := p_MO_in (fun r2 h1 => ((r2 = 0 → Q (-2) h1) ∧ (¬ r2 = 0 → p_MO_isMany (fun r4 h3 => ((r4 = 0 → Q (-2) h3) ∧ (¬ r4 = 0 → p_MO_in (fun r6 h5 => ((¬ r6 = 0 → ∃ n, p_MO_weight_38 Q   n x1 x2 x3 (-1) (-1) 0 h5) ∧ (r6 = 0 → Q (-2) h5))) x3 0 1 h3))) x2 h1))) x1 0 20 h
set_option maxRecDepth 20000 in
theorem r_MO_weight_106 {G : GG} {d : Nat} {Q : Int32 → AH → Prop} {K38 : Int32 → Int32 → Int32 → Int32 → Int32 → Int32 → AH → Prop} (k38 : ∀ x1 x2 x3 x4 x5 x6 h, K38 x1 x2 x3 x4 x5 x6 h → Att G T1 m_MO_weight (d + 9) 38 [some (.ref 59), some (.int x1), some (.int x2), some (.int x3), some (.int x4), some (.int x5), some (.int x6), none] [] h 0 0 (iQ Q)) (x1 : Int32) (x2 : Int32) (x3 : Int32) (x4 : Int32) (x6 : Int32) (s0 : Int32) (h : AH) (H : p_MO_weight_106 Q K38 x1 x2 x3 x4 x6 s0 h) : Att G T1 m_MO_weight (d + 9) 106 [some (.ref 59), some (.int x1), some (.int x2), some (.int x3), some (.int x4), none, some (.int x6), none] [.int s0] h 0 0 (iQ Q) := by
  refine A_istore [some (.ref 59), some (.int x1), some (.int x2), some (.int x3), some (.int x4), some (.int s0), some (.int x6), none] d_MO_weight_106 (by decide) rfl rfl ?_
  refine A_iinc 1 [some (.ref 59), some (.int x1), some (.int x2), some (.int x3), some (.int x4), some (.int s0), some (.int (x6 + 1)), none] d_MO_weight_108 rfl (by decide) (by decide) rfl rfl ?_
  refine A_goto 38 d_MO_weight_111 (by decide) ?_
  exact k38 _ _ _ _ _ _ _ H
set_option maxRecDepth 20000 in
theorem r_MO_weight_90 {G : GG} {d : Nat} {Q : Int32 → AH → Prop} {K38 : Int32 → Int32 → Int32 → Int32 → Int32 → Int32 → AH → Prop} (k38 : ∀ x1 x2 x3 x4 x5 x6 h, K38 x1 x2 x3 x4 x5 x6 h → Att G T1 m_MO_weight (d + 9) 38 [some (.ref 59), some (.int x1), some (.int x2), some (.int x3), some (.int x4), some (.int x5), some (.int x6), none] [] h 0 0 (iQ Q)) (x1 : Int32) (x2 : Int32) (x3 : Int32) (x5 : Int32) (x6 : Int32) (x7 : Int32) (s0 : Int32) (h : AH) (H : p_MO_weight_90 Q K38 x1 x2 x3 x5 x6 x7 s0 h) : Att G T1 m_MO_weight (d + 9) 90 [some (.ref 59), some (.int x1), some (.int x2), some (.int x3), none, some (.int x5), some (.int x6), some (.int x7)] [.int s0] h 0 0 (iQ Q) := by
  refine A_istore [some (.ref 59), some (.int x1), some (.int x2), some (.int x3), some (.int s0), some (.int x5), some (.int x6), some (.int x7)] d_MO_weight_90 (by decide) rfl rfl ?_
  refine A_iload d_MO_weight_92 rfl ?_
  refine A_iload d_MO_weight_94 rfl ?_
  refine A_icmp_le 104 d_MO_weight_96 (by decide) (fun z => ?_) (fun z => ?_)
  · have H := H.1 z
    refine A_iload d_MO_weight_104 rfl ?_
    refine A_sub (L' := [some (.ref 59), some (.int x1), some (.int x2), some (.int x3), some (.int s0), none, some (.int x6), none]) ⟨rfl, rfl, rfl, rfl, rfl, rfl, trivial⟩ ?_
    exact r_MO_weight_106  k38 _ _ _ _ _ _ _ H
  · have H := H.2 z
    refine A_iload d_MO_weight_99 rfl ?_
    refine A_goto 106 d_MO_weight_101 (by decide) ?_
    refine A_sub (L' := [some (.ref 59), some (.int x1), some (.int x2), some (.int x3), some (.int s0), none, some (.int x6), none]) ⟨rfl, rfl, rfl, rfl, rfl, rfl, trivial⟩ ?_
    exact r_MO_weight_106  k38 _ _ _ _ _ _ _ H
set_option maxRecDepth 20000 in
theorem r_MO_weight_38 {G : GG} {d : Nat} {Q : Int32 → AH → Prop} : ∀ (n : Nat) (x1 : Int32) (x2 : Int32) (x3 : Int32) (x4 : Int32) (x5 : Int32) (x6 : Int32) (h : AH), p_MO_weight_38 Q n x1 x2 x3 x4 x5 x6 h → Att G T1 m_MO_weight (d + 9) 38 [some (.ref 59), some (.int x1), some (.int x2), some (.int x3), some (.int x4), some (.int x5), some (.int x6), none] [] h 0 0 (iQ Q) := by
  intro n
  induction n with
  | zero => intro x1 x2 x3 x4 x5 x6 h H; exact H.elim
  | succ n k38 =>
    intro x1 x2 x3 x4 x5 x6 h H
    refine A_iload d_MO_weight_38 rfl ?_
    refine A_aload_n d_MO_weight_40 rfl ?_
    refine A_get (v := .int (h.1 59 0)) d_MO_weight_41 (fo_MO_90_12 rfl) (vA_s (by decide)) rfl rfl ?_
    refine A_icmp_ge 114 d_MO_weight_44 (by decide) (fun z => ?_) (fun z => ?_)
    · have H := H.1 z
      refine A_iload_n d_MO_weight_114 rfl ?_
      refine A_if_ne 123 d_MO_weight_115 (by decide) (fun z => ?_) (fun z => ?_)
      · have H := H.1 z
        refine A_iload d_MO_weight_123 rfl ?_
        exact A_iret d_MO_weight_125 rfl rfl H
      · have H := H.2 z
        refine A_iload d_MO_weight_118 rfl ?_
        refine A_goto 125 d_MO_weight_120 (by decide) ?_
        exact A_iret d_MO_weight_125 rfl rfl H
    · have H := H.2 z
      refine A_aload_n d_MO_weight_47 rfl ?_
      refine A_get (v := .ref 64) d_MO_weight_48 (fo_MO_22_12 rfl) (vA_s (by decide)) rfl rfl ?_
      refine A_iload d_MO_weight_51 rfl ?_
      refine A_dup2 rfl rfl d_MO_weight_53 ?_
      obtain ⟨c1, H⟩ := H
      refine A_iald (n := 7) d_MO_weight_54 (vA_s (by decide)) rfl c1 ?_
      refine A_iload_n d_MO_weight_55 rfl ?_
      refine A_iadd d_MO_weight_56 ?_
      refine A_iast (n := 7) d_MO_weight_57 (vA_s (by decide)) rfl c1 ?_
      refine A_aload_n d_MO_weight_58 rfl ?_
      refine A_iload_n d_MO_weight_59 rfl ?_
      refine A_cI [.ref 59, .int x2] [] (ct_MO_253 rfl) d_MO_weight_60 rfl rfl (by decide) (Nat.le_of_ble_eq_true rfl) (rcA_o (c := 12) rfl (vA_s (by decide)) rfl (by decide) rfl) (ok_MO_downs (d := d) H) (fun r3 h2 H => ?_)
      refine A_istore [some (.ref 59), some (.int x1), some (.int x2), some (.int x3), some (.int x4), some (.int x5), some (.int x6), some (.int r3)] d_MO_weight_63 (by decide) rfl rfl ?_
      refine A_aload_n d_MO_weight_65 rfl ?_
      refine A_get (v := .ref 64) d_MO_weight_66 (fo_MO_22_12 rfl) (vA_s (by decide)) rfl rfl ?_
      refine A_iload d_MO_weight_69 rfl ?_
      refine A_dup2 rfl rfl d_MO_weight_71 ?_
      obtain ⟨c4, H⟩ := H
      refine A_iald (n := 7) d_MO_weight_72 (vA_s (by decide)) rfl c4 ?_
      refine A_iload_n d_MO_weight_73 rfl ?_
      refine A_isub d_MO_weight_74 ?_
      refine A_iast (n := 7) d_MO_weight_75 (vA_s (by decide)) rfl c4 ?_
      refine A_iload d_MO_weight_76 rfl ?_
      refine A_iload d_MO_weight_78 rfl ?_
      refine A_icmp_le 88 d_MO_weight_80 (by decide) (fun z => ?_) (fun z => ?_)
      · have H := H.1 z
        refine A_iload d_MO_weight_88 rfl ?_
        refine A_sub (L' := [some (.ref 59), some (.int x1), some (.int x2), some (.int x3), none, some (.int x5), some (.int x6), some (.int r3)]) ⟨rfl, rfl, rfl, rfl, rfl, rfl, rfl, trivial⟩ ?_
        exact r_MO_weight_90  k38 _ _ _ _ _ _ _ _ H
      · have H := H.2 z
        refine A_iload d_MO_weight_83 rfl ?_
        refine A_goto 90 d_MO_weight_85 (by decide) ?_
        refine A_sub (L' := [some (.ref 59), some (.int x1), some (.int x2), some (.int x3), none, some (.int x5), some (.int x6), some (.int r3)]) ⟨rfl, rfl, rfl, rfl, rfl, rfl, rfl, trivial⟩ ?_
        exact r_MO_weight_90  k38 _ _ _ _ _ _ _ _ H
set_option maxRecDepth 20000 in
theorem r_MO_weight_0 {G : GG} {d : Nat} {Q : Int32 → AH → Prop} (x1 : Int32) (x2 : Int32) (x3 : Int32) (h : AH) (H : p_MO_weight Q x1 x2 x3 h) : Att G T1 m_MO_weight (d + 9) 0 [some (.ref 59), some (.int x1), some (.int x2), some (.int x3), none, none, none, none] [] h 0 0 (iQ Q) := by
  refine A_iload_n d_MO_weight_0 rfl ?_
  refine A_iconst 0 (by decide) d_MO_weight_1 ?_
  refine A_bipush 20 (by decide) d_MO_weight_2 ?_
  refine A_cI [.int x1, .int 0, .int 20] [] (ct_MO_93 rfl) d_MO_weight_4 rfl rfl (by decide) (Nat.le_of_ble_eq_true rfl) trivial (ok_MO_in (d := d + 8) H) (fun r2 h1 H => ?_)
  refine A_if_eq 26 d_MO_weight_7 (by decide) (fun z => ?_) (fun z => ?_)
  · have H := H.1 z
    refine A_bipush (-2) (by decide) d_MO_weight_26 ?_
    exact A_iret d_MO_weight_28 rfl rfl H
  · have H := H.2 z
    refine A_iload_n d_MO_weight_10 rfl ?_
    refine A_cI [.int x2] [] (ct_MO_185 rfl) d_MO_weight_11 rfl rfl (by decide) (Nat.le_of_ble_eq_true rfl) trivial (ok_MO_isMany (d := d + 7) H) (fun r4 h3 H => ?_)
    refine A_if_eq 26 d_MO_weight_14 (by decide) (fun z => ?_) (fun z => ?_)
    · have H := H.1 z
      refine A_bipush (-2) (by decide) d_MO_weight_26 ?_
      exact A_iret d_MO_weight_28 rfl rfl H
    · have H := H.2 z
      refine A_iload_n d_MO_weight_17 rfl ?_
      refine A_iconst 0 (by decide) d_MO_weight_18 ?_
      refine A_iconst 1 (by decide) d_MO_weight_19 ?_
      refine A_cI [.int x3, .int 0, .int 1] [] (ct_MO_93 rfl) d_MO_weight_20 rfl rfl (by decide) (Nat.le_of_ble_eq_true rfl) trivial (ok_MO_in (d := d + 8) H) (fun r6 h5 H => ?_)
      refine A_if_ne 29 d_MO_weight_23 (by decide) (fun z => ?_) (fun z => ?_)
      · have H := H.1 z
        refine A_iconst (-1) (by decide) d_MO_weight_29 ?_
        refine A_istore [some (.ref 59), some (.int x1), some (.int x2), some (.int x3), some (.int (-1)), none, none, none] d_MO_weight_30 (by decide) rfl rfl ?_
        refine A_iconst (-1) (by decide) d_MO_weight_32 ?_
        refine A_istore [some (.ref 59), some (.int x1), some (.int x2), some (.int x3), some (.int (-1)), some (.int (-1)), none, none] d_MO_weight_33 (by decide) rfl rfl ?_
        refine A_iconst 0 (by decide) d_MO_weight_35 ?_
        refine A_istore [some (.ref 59), some (.int x1), some (.int x2), some (.int x3), some (.int (-1)), some (.int (-1)), some (.int 0), none] d_MO_weight_36 (by decide) rfl rfl ?_
        obtain ⟨n9, H⟩ := H
        exact r_MO_weight_38   n9 _ _ _ _ _ _ _ H
      · have H := H.2 z
        refine A_bipush (-2) (by decide) d_MO_weight_26 ?_
        exact A_iret d_MO_weight_28 rfl rfl H
set_option maxRecDepth 20000 in
theorem ok_MO_weight {G : GG} {d : Nat} {Q : Int32 → AH → Prop} {x1 : Int32} {x2 : Int32} {x3 : Int32} {h : AH} (H : p_MO_weight Q x1 x2 x3 h) : WP G T1 m_MO_weight (d + 9) [.ref 59, .int x1, .int x2, .int x3] h 0 0 (iQ Q) := by
  exact WP.enter 4 (by decide) rfl rfl (r_MO_weight_0 x1 x2 x3 h H)
theorem d_MO_over_0 : decode prog_14_method_55_code 0 = .ok (.iload_n 1, 1) := by decide +kernel
theorem d_MO_over_1 : decode prog_14_method_55_code 1 = .ok (.invokestatic 185, 3) := by decide +kernel
theorem d_MO_over_4 : decode prog_14_method_55_code 4 = .ok (.ifCond .eq 12, 3) := by decide +kernel
theorem d_MO_over_7 : decode prog_14_method_55_code 7 = .ok (.iload_n 2, 1) := by decide +kernel
theorem d_MO_over_8 : decode prog_14_method_55_code 8 = .ok (.iconst 0, 1) := by decide +kernel
theorem d_MO_over_9 : decode prog_14_method_55_code 9 = .ok (.iconst 1, 1) := by decide +kernel
theorem d_MO_over_10 : decode prog_14_method_55_code 10 = .ok (.invokestatic 93, 3) := by decide +kernel
theorem d_MO_over_13 : decode prog_14_method_55_code 13 = .ok (.ifCond .ne 6, 3) := by decide +kernel
theorem d_MO_over_16 : decode prog_14_method_55_code 16 = .ok (.bipush (-2), 2) := by decide +kernel
theorem d_MO_over_18 : decode prog_14_method_55_code 18 = .ok (.ireturn, 1) := by decide +kernel
theorem d_MO_over_19 : decode prog_14_method_55_code 19 = .ok (.iconst (-1), 1) := by decide +kernel
theorem d_MO_over_20 : decode prog_14_method_55_code 20 = .ok (.istore_n 3, 1) := by decide +kernel
theorem d_MO_over_21 : decode prog_14_method_55_code 21 = .ok (.aload_n 0, 1) := by decide +kernel
theorem d_MO_over_22 : decode prog_14_method_55_code 22 = .ok (.iload_n 1, 1) := by decide +kernel
theorem d_MO_over_23 : decode prog_14_method_55_code 23 = .ok (.invokevirtual 253, 3) := by decide +kernel
theorem d_MO_over_26 : decode prog_14_method_55_code 26 = .ok (.istore 4, 2) := by decide +kernel
theorem d_MO_over_28 : decode prog_14_method_55_code 28 = .ok (.iconst 0, 1) := by decide +kernel
theorem d_MO_over_29 : decode prog_14_method_55_code 29 = .ok (.istore 5, 2) := by decide +kernel
theorem d_MO_over_31 : decode prog_14_method_55_code 31 = .ok (.iload 5, 2) := by decide +kernel
theorem d_MO_over_33 : decode prog_14_method_55_code 33 = .ok (.aload_n 0, 1) := by decide +kernel
theorem d_MO_over_34 : decode prog_14_method_55_code 34 = .ok (.getfield 90, 3) := by decide +kernel
theorem d_MO_over_37 : decode prog_14_method_55_code 37 = .ok (.if_icmp .ge 131, 3) := by decide +kernel
theorem d_MO_over_40 : decode prog_14_method_55_code 40 = .ok (.iconst 0, 1) := by decide +kernel
theorem d_MO_over_41 : decode prog_14_method_55_code 41 = .ok (.istore 6, 2) := by decide +kernel
theorem d_MO_over_43 : decode prog_14_method_55_code 43 = .ok (.iload 6, 2) := by decide +kernel
theorem d_MO_over_45 : decode prog_14_method_55_code 45 = .ok (.aload_n 0, 1) := by decide +kernel
theorem d_MO_over_46 : decode prog_14_method_55_code 46 = .ok (.getfield 90, 3) := by decide +kernel
theorem d_MO_over_49 : decode prog_14_method_55_code 49 = .ok (.if_icmp .ge 113, 3) := by decide +kernel
theorem d_MO_over_52 : decode prog_14_method_55_code 52 = .ok (.iload 5, 2) := by decide +kernel
theorem d_MO_over_54 : decode prog_14_method_55_code 54 = .ok (.iload 6, 2) := by decide +kernel
theorem d_MO_over_56 : decode prog_14_method_55_code 56 = .ok (.if_icmp .eq 100, 3) := by decide +kernel
theorem d_MO_over_59 : decode prog_14_method_55_code 59 = .ok (.aload_n 0, 1) := by decide +kernel
theorem d_MO_over_60 : decode prog_14_method_55_code 60 = .ok (.getfield 22, 3) := by decide +kernel
theorem d_MO_over_63 : decode prog_14_method_55_code 63 = .ok (.iload 5, 2) := by decide +kernel
theorem d_MO_over_65 : decode prog_14_method_55_code 65 = .ok (.iaload, 1) := by decide +kernel
theorem d_MO_over_66 : decode prog_14_method_55_code 66 = .ok (.ifCond .le 90, 3) := by decide +kernel
theorem d_MO_over_69 : decode prog_14_method_55_code 69 = .ok (.aload_n 0, 1) := by decide +kernel
theorem d_MO_over_70 : decode prog_14_method_55_code 70 = .ok (.getfield 22, 3) := by decide +kernel
theorem d_MO_over_73 : decode prog_14_method_55_code 73 = .ok (.iload 5, 2) := by decide +kernel
theorem d_MO_over_75 : decode prog_14_method_55_code 75 = .ok (.dup2, 1) := by decide +kernel
theorem d_MO_over_76 : decode prog_14_method_55_code 76 = .ok (.iaload, 1) := by decide +kernel
theorem d_MO_over_77 : decode prog_14_method_55_code 77 = .ok (.iconst 1, 1) := by decide +kernel
theorem d_MO_over_78 : decode prog_14_method_55_code 78 = .ok (.isub, 1) := by decide +kernel
theorem d_MO_over_79 : decode prog_14_method_55_code 79 = .ok (.iastore, 1) := by decide +kernel
theorem d_MO_over_80 : decode prog_14_method_55_code 80 = .ok (.aload_n 0, 1) := by decide +kernel
theorem d_MO_over_81 : decode prog_14_method_55_code 81 = .ok (.getfield 22, 3) := by decide +kernel
theorem d_MO_over_84 : decode prog_14_method_55_code 84 = .ok (.iload 6, 2) := by decide +kernel
theorem d_MO_over_86 : decode prog_14_method_55_code 86 = .ok (.dup2, 1) := by decide +kernel
theorem d_MO_over_87 : decode prog_14_method_55_code 87 = .ok (.iaload, 1) := by decide +kernel
theorem d_MO_over_88 : decode prog_14_method_55_code 88 = .ok (.iconst 1, 1) := by decide +kernel
theorem d_MO_over_89 : decode prog_14_method_55_code 89 = .ok (.iadd, 1) := by decide +kernel
theorem d_MO_over_90 : decode prog_14_method_55_code 90 = .ok (.iastore, 1) := by decide +kernel
theorem d_MO_over_91 : decode prog_14_method_55_code 91 = .ok (.aload_n 0, 1) := by decide +kernel
theorem d_MO_over_92 : decode prog_14_method_55_code 92 = .ok (.iload_n 1, 1) := by decide +kernel
theorem d_MO_over_93 : decode prog_14_method_55_code 93 = .ok (.invokevirtual 253, 3) := by decide +kernel
theorem d_MO_over_96 : decode prog_14_method_55_code 96 = .ok (.istore 7, 2) := by decide +kernel
theorem d_MO_over_98 : decode prog_14_method_55_code 98 = .ok (.aload_n 0, 1) := by decide +kernel
theorem d_MO_over_99 : decode prog_14_method_55_code 99 = .ok (.getfield 22, 3) := by decide +kernel
theorem d_MO_over_102 : decode prog_14_method_55_code 102 = .ok (.iload 5, 2) := by decide +kernel
theorem d_MO_over_104 : decode prog_14_method_55_code 104 = .ok (.dup2, 1) := by decide +kernel
theorem d_MO_over_105 : decode prog_14_method_55_code 105 = .ok (.iaload, 1) := by decide +kernel
theorem d_MO_over_106 : decode prog_14_method_55_code 106 = .ok (.iconst 1, 1) := by decide +kernel
theorem d_MO_over_107 : decode prog_14_method_55_code 107 = .ok (.iadd, 1) := by decide +kernel
theorem d_MO_over_108 : decode prog_14_method_55_code 108 = .ok (.iastore, 1) := by decide +kernel
theorem d_MO_over_109 : decode prog_14_method_55_code 109 = .ok (.aload_n 0, 1) := by decide +kernel
theorem d_MO_over_110 : decode prog_14_method_55_code 110 = .ok (.getfield 22, 3) := by decide +kernel
theorem d_MO_over_113 : decode prog_14_method_55_code 113 = .ok (.iload 6, 2) := by decide +kernel
theorem d_MO_over_115 : decode prog_14_method_55_code 115 = .ok (.dup2, 1) := by decide +kernel
theorem d_MO_over_116 : decode prog_14_method_55_code 116 = .ok (.iaload, 1) := by decide +kernel
theorem d_MO_over_117 : decode prog_14_method_55_code 117 = .ok (.iconst 1, 1) := by decide +kernel
theorem d_MO_over_118 : decode prog_14_method_55_code 118 = .ok (.isub, 1) := by decide +kernel
theorem d_MO_over_119 : decode prog_14_method_55_code 119 = .ok (.iastore, 1) := by decide +kernel
theorem d_MO_over_120 : decode prog_14_method_55_code 120 = .ok (.iload 7, 2) := by decide +kernel
theorem d_MO_over_122 : decode prog_14_method_55_code 122 = .ok (.iload 4, 2) := by decide +kernel
theorem d_MO_over_124 : decode prog_14_method_55_code 124 = .ok (.if_icmp .le 14, 3) := by decide +kernel
theorem d_MO_over_127 : decode prog_14_method_55_code 127 = .ok (.bipush 10, 2) := by decide +kernel
theorem d_MO_over_129 : decode prog_14_method_55_code 129 = .ok (.iload 5, 2) := by decide +kernel
theorem d_MO_over_131 : decode prog_14_method_55_code 131 = .ok (.imul, 1) := by decide +kernel
theorem d_MO_over_132 : decode prog_14_method_55_code 132 = .ok (.iload 6, 2) := by decide +kernel
theorem d_MO_over_134 : decode prog_14_method_55_code 134 = .ok (.iadd, 1) := by decide +kernel
theorem d_MO_over_135 : decode prog_14_method_55_code 135 = .ok (.goto 4, 3) := by decide +kernel
theorem d_MO_over_138 : decode prog_14_method_55_code 138 = .ok (.iload_n 3, 1) := by decide +kernel
theorem d_MO_over_139 : decode prog_14_method_55_code 139 = .ok (.istore_n 3, 1) := by decide +kernel
theorem d_MO_over_140 : decode prog_14_method_55_code 140 = .ok (.iload 7, 2) := by decide +kernel
theorem d_MO_over_142 : decode prog_14_method_55_code 142 = .ok (.iload 4, 2) := by decide +kernel
theorem d_MO_over_144 : decode prog_14_method_55_code 144 = .ok (.if_icmp .le 8, 3) := by decide +kernel
theorem d_MO_over_147 : decode prog_14_method_55_code 147 = .ok (.iload 7, 2) := by decide +kernel
theorem d_MO_over_149 : decode prog_14_method_55_code 149 = .ok (.goto 5, 3) := by decide +kernel
theorem d_MO_over_152 : decode prog_14_method_55_code 152 = .ok (.iload 4, 2) := by decide +kernel
theorem d_MO_over_154 : decode prog_14_method_55_code 154 = .ok (.istore 4, 2) := by decide +kernel
theorem d_MO_over_156 : decode prog_14_method_55_code 156 = .ok (.iinc 6 1, 3) := by decide +kernel
theorem d_MO_over_159 : decode prog_14_method_55_code 159 = .ok (.goto (-116), 3) := by decide +kernel
theorem d_MO_over_162 : decode prog_14_method_55_code 162 = .ok (.iinc 5 1, 3) := by decide +kernel
theorem d_MO_over_165 : decode prog_14_method_55_code 165 = .ok (.goto (-134), 3) := by decide +kernel
theorem d_MO_over_168 : decode prog_14_method_55_code 168 = .ok (.iload_n 2, 1) := by decide +kernel
theorem d_MO_over_169 : decode prog_14_method_55_code 169 = .ok (.ifCond .ne 7, 3) := by decide +kernel
theorem d_MO_over_172 : decode prog_14_method_55_code 172 = .ok (.iload_n 3, 1) := by decide +kernel
theorem d_MO_over_173 : decode prog_14_method_55_code 173 = .ok (.goto 5, 3) := by decide +kernel
theorem d_MO_over_176 : decode prog_14_method_55_code 176 = .ok (.iload 4, 2) := by decide +kernel
theorem d_MO_over_178 : decode prog_14_method_55_code 178 = .ok (.ireturn, 1) := by decide +kernel
def p_MO_over_156 (Q : Int32 → AH → Prop) (K31 : Int32 → Int32 → Int32 → Int32 → Int32 → AH → Prop) (K43 : Int32 → Int32 → Int32 → Int32 → Int32 → Int32 → AH → Prop) (x1 : Int32) (x2 : Int32) (x3 : Int32) (x4 : Int32) (x5 : Int32) (x6 : Int32) (h : AH) : Prop := K43 x1 x2 x3 x4 x5 (x6 + 1) h
def p_MO_over_154 (Q : Int32 → AH → Prop) (K31 : Int32 → Int32 → Int32 → Int32 → Int32 → AH → Prop) (K43 : Int32 → Int32 → Int32 → Int32 → Int32 → Int32 → AH → Prop) (x1 : Int32) (x2 : Int32) (x3 : Int32) (x5 : Int32) (x6 : Int32) (s0 : Int32) (h : AH) : Prop := p_MO_over_156 Q  K31 K43 x1 x2 x3 s0 x5 x6 h
def p_MO_over_139 (Q : Int32 → AH → Prop) (K31 : Int32 → Int32 → Int32 → Int32 → Int32 → AH → Prop) (K43 : Int32 → Int32 → Int32 → Int32 → Int32 → Int32 → AH → Prop) (x1 : Int32) (x2 : Int32) (x4 : Int32) (x5 : Int32) (x6 : Int32) (x7 : Int32) (s0 : Int32) (h : AH) : Prop := ((x7 ≤ x4 → p_MO_over_154 Q  K31 K43 x1 x2 s0 x5 x6 x4 h) ∧ (¬ x7 ≤ x4 → p_MO_over_154 Q  K31 K43 x1 x2 s0 x5 x6 x7 h))
def p_MO_over_43 (Q : Int32 → AH → Prop) (K31 : Int32 → Int32 → Int32 → Int32 → Int32 → AH → Prop) : Nat → Int32 → Int32 → Int32 → Int32 → Int32 → Int32 → AH → Prop
  | 0 => fun _ _ _ _ _ _ _ => False
  | n + 1 => fun x1 x2 x3 x4 x5 x6 h => let K43 := p_MO_over_43 Q K31 n; (((h.1 59 0) ≤ x6 → K31 x1 x2 x3 x4 (x5 + 1) h) ∧ (¬ (h.1 59 0) ≤ x6 → ((x5 = x6 → p_MO_over_156 Q  K31 K43 x1 x2 x3 x4 x5 x6 h) ∧ (¬ x5 = x6 → inb x5 7 ∧ (((h.1 64 x5) ≤ 0 → p_MO_over_156 Q  K31 K43 x1 x2 x3 x4 x5 x6 h) ∧ (¬ (h.1 64 x5) ≤ 0 → inb x6 7 ∧ p_MO_downs (fun r4 h3 => inb x5 7 ∧ inb x6 7 ∧ ((r4 ≤ x4 → p_MO_over_139 Q  K31 K43 x1 x2 x4 x5 x6 r4 x3 (wI (wI h3 64 x5 ((h3.1 64 x5) + 1)) 64 x6 (((wI h3 64 x5 ((h3.1 64 x5) + 1)).1 64 x6) - 1))) ∧ (¬ r4 ≤ x4 → p_MO_over_139 Q  K31 K43 x1 x2 x4 x5 x6 r4 ((10 * x5) + x6) (wI (wI h3 64 x5 ((h3.1 64 x5) + 1)) 64 x6 (((wI h3 64 x5 ((h3.1 64 x5) + 1)).1 64 x6) - 1))))) x1 (wI (wI h 64 x5 ((h.1 64 x5) - 1)) 64 x6 (((wI h 64 x5 ((h.1 64 x5) - 1)).1 64 x6) + 1))))))))
def p_MO_over_31 (Q : Int32 → AH → Prop) : Nat → Int32 → Int32 → Int32 → Int32 → Int32 → AH → Prop
  | 0 => fun _ _ _ _ _ _ => False
  | n + 1 => fun x1 x2 x3 x4 x5 h => let K31 := p_MO_over_31 Q n; (((h.1 59 0) ≤ x5 → ((¬ x2 = 0 → Q x4 h) ∧ (x2 = 0 → Q x3 h))) ∧ (¬ (h.1 59 0) ≤ x5 → ∃ n, p_MO_over_43 Q  K31 n x1 x2 x3 x4 x5 0 h))
def p_MO_over (Q : Int32 → AH → Prop) (x1 : Int32) (x2 : Int32) (h : AH) : Prop := p_MO_isMany (fun r2 h1 => ((r2 = 0 → Q (-2) h1) ∧ (¬ r2 = 0 → p_MO_in (fun r4 h3 => ((¬ r4 = 0 → p_MO_downs (fun r6 h5 => ∃ n, p_MO_over_31 Q   n x1 x2 (-1) r6 0 h5) x1 h3) ∧ (r4 = 0 → Q (-2) h3))) x2 0 1 h1))) x1 h
set_option maxRecDepth 20000 in
theorem r_MO_over_156 {G : GG} {d : Nat} {Q : Int32 → AH → Prop} {K31 : Int32 → Int32 → Int32 → Int32 → Int32 → AH → Prop} {K43 : Int32 → Int32 → Int32 → Int32 → Int32 → Int32 → AH → Prop} (k31 : ∀ x1 x2 x3 x4 x5 h, K31 x1 x2 x3 x4 x5 h → Att G T1 m_MO_over (d + 9) 31 [some (.ref 59), some (.int x1), some (.int x2), some (.int x3), some (.int x4), some (.int x5), none, none] [] h 0 0 (iQ Q)) (k43 : ∀ x1 x2 x3 x4 x5 x6 h, K43 x1 x2 x3 x4 x5 x6 h → Att G T1 m_MO_over (d + 9) 43 [some (.ref 59), some (.int x1), some (.int x2), some (.int x3), some (.int x4), some (.int x5), some (.int x6), none] [] h 0 0 (iQ Q)) (x1 : Int32) (x2 : Int32) (x3 : Int32) (x4 : Int32) (x5 : Int32) (x6 : Int32) (h : AH) (H : p_MO_over_156 Q K31 K43 x1 x2 x3 x4 x5 x6 h) : Att G T1 m_MO_over (d + 9) 156 [some (.ref 59), some (.int x1), some (.int x2), some (.int x3), some (.int x4), some (.int x5), some (.int x6), none] [] h 0 0 (iQ Q) := by
  refine A_iinc 1 [some (.ref 59), some (.int x1), some (.int x2), some (.int x3), some (.int x4), some (.int x5), some (.int (x6 + 1)), none] d_MO_over_156 rfl (by decide) (by decide) rfl rfl ?_
  refine A_goto 43 d_MO_over_159 (by decide) ?_
  exact k43 _ _ _ _ _ _ _ H
set_option maxRecDepth 20000 in
theorem r_MO_over_154 {G : GG} {d : Nat} {Q : Int32 → AH → Prop} {K31 : Int32 → Int32 → Int32 → Int32 → Int32 → AH → Prop} {K43 : Int32 → Int32 → Int32 → Int32 → Int32 → Int32 → AH → Prop} (k31 : ∀ x1 x2 x3 x4 x5 h, K31 x1 x2 x3 x4 x5 h → Att G T1 m_MO_over (d + 9) 31 [some (.ref 59), some (.int x1), some (.int x2), some (.int x3), some (.int x4), some (.int x5), none, none] [] h 0 0 (iQ Q)) (k43 : ∀ x1 x2 x3 x4 x5 x6 h, K43 x1 x2 x3 x4 x5 x6 h → Att G T1 m_MO_over (d + 9) 43 [some (.ref 59), some (.int x1), some (.int x2), some (.int x3), some (.int x4), some (.int x5), some (.int x6), none] [] h 0 0 (iQ Q)) (x1 : Int32) (x2 : Int32) (x3 : Int32) (x5 : Int32) (x6 : Int32) (s0 : Int32) (h : AH) (H : p_MO_over_154 Q K31 K43 x1 x2 x3 x5 x6 s0 h) : Att G T1 m_MO_over (d + 9) 154 [some (.ref 59), some (.int x1), some (.int x2), some (.int x3), none, some (.int x5), some (.int x6), none] [.int s0] h 0 0 (iQ Q) := by
  refine A_istore [some (.ref 59), some (.int x1), some (.int x2), some (.int x3), some (.int s0), some (.int x5), some (.int x6), none] d_MO_over_154 (by decide) rfl rfl ?_
  exact r_MO_over_156  k31 k43 _ _ _ _ _ _ _ H
set_option maxRecDepth 20000 in
theorem r_MO_over_139 {G : GG} {d : Nat} {Q : Int32 → AH → Prop} {K31 : Int32 → Int32 → Int32 → Int32 → Int32 → AH → Prop} {K43 : Int32 → Int32 → Int32 → Int32 → Int32 → Int32 → AH → Prop} (k31 : ∀ x1 x2 x3 x4 x5 h, K31 x1 x2 x3 x4 x5 h → Att G T1 m_MO_over (d + 9) 31 [some (.ref 59), some (.int x1), some (.int x2), some (.int x3), some (.int x4), some (.int x5), none, none] [] h 0 0 (iQ Q)) (k43 : ∀ x1 x2 x3 x4 x5 x6 h, K43 x1 x2 x3 x4 x5 x6 h → Att G T1 m_MO_over (d + 9) 43 [some (.ref 59), some (.int x1), some (.int x2), some (.int x3), some (.int x4), some (.int x5), some (.int x6), none] [] h 0 0 (iQ Q)) (x1 : Int32) (x2 : Int32) (x4 : Int32) (x5 : Int32) (x6 : Int32) (x7 : Int32) (s0 : Int32) (h : AH) (H : p_MO_over_139 Q K31 K43 x1 x2 x4 x5 x6 x7 s0 h) : Att G T1 m_MO_over (d + 9) 139 [some (.ref 59), some (.int x1), some (.int x2), none, some (.int x4), some (.int x5), some (.int x6), some (.int x7)] [.int s0] h 0 0 (iQ Q) := by
  refine A_istore_n [some (.ref 59), some (.int x1), some (.int x2), some (.int s0), some (.int x4), some (.int x5), some (.int x6), some (.int x7)] d_MO_over_139 (by decide) rfl rfl ?_
  refine A_iload d_MO_over_140 rfl ?_
  refine A_iload d_MO_over_142 rfl ?_
  refine A_icmp_le 152 d_MO_over_144 (by decide) (fun z => ?_) (fun z => ?_)
  · have H := H.1 z
    refine A_iload d_MO_over_152 rfl ?_
    refine A_sub (L' := [some (.ref 59), some (.int x1), some (.int x2), some (.int s0), none, some (.int x5), some (.int x6), none]) ⟨rfl, rfl, rfl, rfl, rfl, rfl, trivial⟩ ?_
    exact r_MO_over_154  k31 k43 _ _ _ _ _ _ _ H
  · have H := H.2 z
    refine A_iload d_MO_over_147 rfl ?_
    refine A_goto 154 d_MO_over_149 (by decide) ?_
    refine A_sub (L' := [some (.ref 59), some (.int x1), some (.int x2), some (.int s0), none, some (.int x5), some (.int x6), none]) ⟨rfl, rfl, rfl, rfl, rfl, rfl, trivial⟩ ?_
    exact r_MO_over_154  k31 k43 _ _ _ _ _ _ _ H
set_option maxRecDepth 20000 in
theorem r_MO_over_43 {G : GG} {d : Nat} {Q : Int32 → AH → Prop} {K31 : Int32 → Int32 → Int32 → Int32 → Int32 → AH → Prop} (k31 : ∀ x1 x2 x3 x4 x5 h, K31 x1 x2 x3 x4 x5 h → Att G T1 m_MO_over (d + 9) 31 [some (.ref 59), some (.int x1), some (.int x2), some (.int x3), some (.int x4), some (.int x5), none, none] [] h 0 0 (iQ Q)) : ∀ (n : Nat) (x1 : Int32) (x2 : Int32) (x3 : Int32) (x4 : Int32) (x5 : Int32) (x6 : Int32) (h : AH), p_MO_over_43 Q K31 n x1 x2 x3 x4 x5 x6 h → Att G T1 m_MO_over (d + 9) 43 [some (.ref 59), some (.int x1), some (.int x2), some (.int x3), some (.int x4), some (.int x5), some (.int x6), none] [] h 0 0 (iQ Q) := by
  intro n
  induction n with
  | zero => intro x1 x2 x3 x4 x5 x6 h H; exact H.elim
  | succ n k43 =>
    intro x1 x2 x3 x4 x5 x6 h H
    refine A_iload d_MO_over_43 rfl ?_
    refine A_aload_n d_MO_over_45 rfl ?_
    refine A_get (v := .int (h.1 59 0)) d_MO_over_46 (fo_MO_90_12 rfl) (vA_s (by decide)) rfl rfl ?_
    refine A_icmp_ge 162 d_MO_over_49 (by decide) (fun z => ?_) (fun z => ?_)
    · have H := H.1 z
      refine A_iinc 1 [some (.ref 59), some (.int x1), some (.int x2), some (.int x3), some (.int x4), some (.int (x5 + 1)), some (.int x6), none] d_MO_over_162 rfl (by decide) (by decide) rfl rfl ?_
      refine A_goto 31 d_MO_over_165 (by decide) ?_
      refine A_sub (L' := [some (.ref 59), some (.int x1), some (.int x2), some (.int x3), some (.int x4), some (.int (x5 + 1)), none, none]) ⟨rfl, rfl, rfl, rfl, rfl, rfl, trivial⟩ ?_
      exact k31 _ _ _ _ _ _ H
    · have H := H.2 z
      refine A_iload d_MO_over_52 rfl ?_
      refine A_iload d_MO_over_54 rfl ?_
      refine A_icmp_eq 156 d_MO_over_56 (by decide) (fun z => ?_) (fun z => ?_)
      · have H := H.1 z
        exact r_MO_over_156  k31 k43 _ _ _ _ _ _ _ H
      · have H := H.2 z
        refine A_aload_n d_MO_over_59 rfl ?_
        refine A_get (v := .ref 64) d_MO_over_60 (fo_MO_22_12 rfl) (vA_s (by decide)) rfl rfl ?_
        refine A_iload d_MO_over_63 rfl ?_
        obtain ⟨c1, H⟩ := H
        refine A_iald (n := 7) d_MO_over_65 (vA_s (by decide)) rfl c1 ?_
        refine A_if_le 156 d_MO_over_66 (by decide) (fun z => ?_) (fun z => ?_)
        · have H := H.1 z
          exact r_MO_over_156  k31 k43 _ _ _ _ _ _ _ H
        · have H := H.2 z
          refine A_aload_n d_MO_over_69 rfl ?_
          refine A_get (v := .ref 64) d_MO_over_70 (fo_MO_22_12 rfl) (vA_s (by decide)) rfl rfl ?_
          refine A_iload d_MO_over_73 rfl ?_
          refine A_dup2 rfl rfl d_MO_over_75 ?_
          refine A_iald (n := 7) d_MO_over_76 (vA_s (by decide)) rfl c1 ?_
          refine A_iconst 1 (by decide) d_MO_over_77 ?_
          refine A_isub d_MO_over_78 ?_
          refine A_iast (n := 7) d_MO_over_79 (vA_s (by decide)) rfl c1 ?_
          refine A_aload_n d_MO_over_80 rfl ?_
          refine A_get (v := .ref 64) d_MO_over_81 (fo_MO_22_12 rfl) (vA_s (by decide)) rfl rfl ?_
          refine A_iload d_MO_over_84 rfl ?_
          refine A_dup2 rfl rfl d_MO_over_86 ?_
          obtain ⟨c2, H⟩ := H
          refine A_iald (n := 7) d_MO_over_87 (vA_s (by decide)) rfl c2 ?_
          refine A_iconst 1 (by decide) d_MO_over_88 ?_
          refine A_iadd d_MO_over_89 ?_
          refine A_iast (n := 7) d_MO_over_90 (vA_s (by decide)) rfl c2 ?_
          refine A_aload_n d_MO_over_91 rfl ?_
          refine A_iload_n d_MO_over_92 rfl ?_
          refine A_cI [.ref 59, .int x1] [] (ct_MO_253 rfl) d_MO_over_93 rfl rfl (by decide) (Nat.le_of_ble_eq_true rfl) (rcA_o (c := 12) rfl (vA_s (by decide)) rfl (by decide) rfl) (ok_MO_downs (d := d) H) (fun r4 h3 H => ?_)
          refine A_istore [some (.ref 59), some (.int x1), some (.int x2), some (.int x3), some (.int x4), some (.int x5), some (.int x6), some (.int r4)] d_MO_over_96 (by decide) rfl rfl ?_
          refine A_aload_n d_MO_over_98 rfl ?_
          refine A_get (v := .ref 64) d_MO_over_99 (fo_MO_22_12 rfl) (vA_s (by decide)) rfl rfl ?_
          refine A_iload d_MO_over_102 rfl ?_
          refine A_dup2 rfl rfl d_MO_over_104 ?_
          obtain ⟨c5, H⟩ := H
          refine A_iald (n := 7) d_MO_over_105 (vA_s (by decide)) rfl c5 ?_
          refine A_iconst 1 (by decide) d_MO_over_106 ?_
          refine A_iadd d_MO_over_107 ?_
          refine A_iast (n := 7) d_MO_over_108 (vA_s (by decide)) rfl c5 ?_
          refine A_aload_n d_MO_over_109 rfl ?_
          refine A_get (v := .ref 64) d_MO_over_110 (fo_MO_22_12 rfl) (vA_s (by decide)) rfl rfl ?_
          refine A_iload d_MO_over_113 rfl ?_
          refine A_dup2 rfl rfl d_MO_over_115 ?_
          obtain ⟨c6, H⟩ := H
          refine A_iald (n := 7) d_MO_over_116 (vA_s (by decide)) rfl c6 ?_
          refine A_iconst 1 (by decide) d_MO_over_117 ?_
          refine A_isub d_MO_over_118 ?_
          refine A_iast (n := 7) d_MO_over_119 (vA_s (by decide)) rfl c6 ?_
          refine A_iload d_MO_over_120 rfl ?_
          refine A_iload d_MO_over_122 rfl ?_
          refine A_icmp_le 138 d_MO_over_124 (by decide) (fun z => ?_) (fun z => ?_)
          · have H := H.1 z
            refine A_iload_n d_MO_over_138 rfl ?_
            refine A_sub (L' := [some (.ref 59), some (.int x1), some (.int x2), none, some (.int x4), some (.int x5), some (.int x6), some (.int r4)]) ⟨rfl, rfl, rfl, rfl, rfl, rfl, rfl, trivial⟩ ?_
            exact r_MO_over_139  k31 k43 _ _ _ _ _ _ _ _ H
          · have H := H.2 z
            refine A_bipush 10 (by decide) d_MO_over_127 ?_
            refine A_iload d_MO_over_129 rfl ?_
            refine A_imul d_MO_over_131 ?_
            refine A_iload d_MO_over_132 rfl ?_
            refine A_iadd d_MO_over_134 ?_
            refine A_goto 139 d_MO_over_135 (by decide) ?_
            refine A_sub (L' := [some (.ref 59), some (.int x1), some (.int x2), none, some (.int x4), some (.int x5), some (.int x6), some (.int r4)]) ⟨rfl, rfl, rfl, rfl, rfl, rfl, rfl, trivial⟩ ?_
            exact r_MO_over_139  k31 k43 _ _ _ _ _ _ _ _ H
set_option maxRecDepth 20000 in
theorem r_MO_over_31 {G : GG} {d : Nat} {Q : Int32 → AH → Prop} : ∀ (n : Nat) (x1 : Int32) (x2 : Int32) (x3 : Int32) (x4 : Int32) (x5 : Int32) (h : AH), p_MO_over_31 Q n x1 x2 x3 x4 x5 h → Att G T1 m_MO_over (d + 9) 31 [some (.ref 59), some (.int x1), some (.int x2), some (.int x3), some (.int x4), some (.int x5), none, none] [] h 0 0 (iQ Q) := by
  intro n
  induction n with
  | zero => intro x1 x2 x3 x4 x5 h H; exact H.elim
  | succ n k31 =>
    intro x1 x2 x3 x4 x5 h H
    refine A_iload d_MO_over_31 rfl ?_
    refine A_aload_n d_MO_over_33 rfl ?_
    refine A_get (v := .int (h.1 59 0)) d_MO_over_34 (fo_MO_90_12 rfl) (vA_s (by decide)) rfl rfl ?_
    refine A_icmp_ge 168 d_MO_over_37 (by decide) (fun z => ?_) (fun z => ?_)
    · have H := H.1 z
      refine A_iload_n d_MO_over_168 rfl ?_
      refine A_if_ne 176 d_MO_over_169 (by decide) (fun z => ?_) (fun z => ?_)
      · have H := H.1 z
        refine A_iload d_MO_over_176 rfl ?_
        exact A_iret d_MO_over_178 rfl rfl H
      · have H := H.2 z
        refine A_iload_n d_MO_over_172 rfl ?_
        refine A_goto 178 d_MO_over_173 (by decide) ?_
        exact A_iret d_MO_over_178 rfl rfl H
    · have H := H.2 z
      refine A_iconst 0 (by decide) d_MO_over_40 ?_
      refine A_istore [some (.ref 59), some (.int x1), some (.int x2), some (.int x3), some (.int x4), some (.int x5), some (.int 0), none] d_MO_over_41 (by decide) rfl rfl ?_
      obtain ⟨n9, H⟩ := H
      exact r_MO_over_43  k31 n9 _ _ _ _ _ _ _ H
set_option maxRecDepth 20000 in
theorem r_MO_over_0 {G : GG} {d : Nat} {Q : Int32 → AH → Prop} (x1 : Int32) (x2 : Int32) (h : AH) (H : p_MO_over Q x1 x2 h) : Att G T1 m_MO_over (d + 9) 0 [some (.ref 59), some (.int x1), some (.int x2), none, none, none, none, none] [] h 0 0 (iQ Q) := by
  refine A_iload_n d_MO_over_0 rfl ?_
  refine A_cI [.int x1] [] (ct_MO_185 rfl) d_MO_over_1 rfl rfl (by decide) (Nat.le_of_ble_eq_true rfl) trivial (ok_MO_isMany (d := d + 7) H) (fun r2 h1 H => ?_)
  refine A_if_eq 16 d_MO_over_4 (by decide) (fun z => ?_) (fun z => ?_)
  · have H := H.1 z
    refine A_bipush (-2) (by decide) d_MO_over_16 ?_
    exact A_iret d_MO_over_18 rfl rfl H
  · have H := H.2 z
    refine A_iload_n d_MO_over_7 rfl ?_
    refine A_iconst 0 (by decide) d_MO_over_8 ?_
    refine A_iconst 1 (by decide) d_MO_over_9 ?_
    refine A_cI [.int x2, .int 0, .int 1] [] (ct_MO_93 rfl) d_MO_over_10 rfl rfl (by decide) (Nat.le_of_ble_eq_true rfl) trivial (ok_MO_in (d := d + 8) H) (fun r4 h3 H => ?_)
    refine A_if_ne 19 d_MO_over_13 (by decide) (fun z => ?_) (fun z => ?_)
    · have H := H.1 z
      refine A_iconst (-1) (by decide) d_MO_over_19 ?_
      refine A_istore_n [some (.ref 59), some (.int x1), some (.int x2), some (.int (-1)), none, none, none, none] d_MO_over_20 (by decide) rfl rfl ?_
      refine A_aload_n d_MO_over_21 rfl ?_
      refine A_iload_n d_MO_over_22 rfl ?_
      refine A_cI [.ref 59, .int x1] [] (ct_MO_253 rfl) d_MO_over_23 rfl rfl (by decide) (Nat.le_of_ble_eq_true rfl) (rcA_o (c := 12) rfl (vA_s (by decide)) rfl (by decide) rfl) (ok_MO_downs (d := d) H) (fun r6 h5 H => ?_)
      refine A_istore [some (.ref 59), some (.int x1), some (.int x2), some (.int (-1)), some (.int r6), none, none, none] d_MO_over_26 (by decide) rfl rfl ?_
      refine A_iconst 0 (by decide) d_MO_over_28 ?_
      refine A_istore [some (.ref 59), some (.int x1), some (.int x2), some (.int (-1)), some (.int r6), some (.int 0), none, none] d_MO_over_29 (by decide) rfl rfl ?_
      obtain ⟨n9, H⟩ := H
      exact r_MO_over_31   n9 _ _ _ _ _ _ H
    · have H := H.2 z
      refine A_bipush (-2) (by decide) d_MO_over_16 ?_
      exact A_iret d_MO_over_18 rfl rfl H
set_option maxRecDepth 20000 in
theorem ok_MO_over {G : GG} {d : Nat} {Q : Int32 → AH → Prop} {x1 : Int32} {x2 : Int32} {h : AH} (H : p_MO_over Q x1 x2 h) : WP G T1 m_MO_over (d + 9) [.ref 59, .int x1, .int x2] h 0 0 (iQ Q) := by
  exact WP.enter 5 (by decide) rfl rfl (r_MO_over_0 x1 x2 h H)
theorem d_MO_link_0 : decode prog_14_method_58_code 0 = .ok (.iload_n 1, 1) := by decide +kernel
theorem d_MO_link_1 : decode prog_14_method_58_code 1 = .ok (.invokestatic 185, 3) := by decide +kernel
theorem d_MO_link_4 : decode prog_14_method_58_code 4 = .ok (.ifCond .eq 12, 3) := by decide +kernel
theorem d_MO_link_7 : decode prog_14_method_58_code 7 = .ok (.iload_n 2, 1) := by decide +kernel
theorem d_MO_link_8 : decode prog_14_method_58_code 8 = .ok (.iconst 0, 1) := by decide +kernel
theorem d_MO_link_9 : decode prog_14_method_58_code 9 = .ok (.iconst 1, 1) := by decide +kernel
theorem d_MO_link_10 : decode prog_14_method_58_code 10 = .ok (.invokestatic 93, 3) := by decide +kernel
theorem d_MO_link_13 : decode prog_14_method_58_code 13 = .ok (.ifCond .ne 6, 3) := by decide +kernel
theorem d_MO_link_16 : decode prog_14_method_58_code 16 = .ok (.bipush (-2), 2) := by decide +kernel
theorem d_MO_link_18 : decode prog_14_method_58_code 18 = .ok (.ireturn, 1) := by decide +kernel
theorem d_MO_link_19 : decode prog_14_method_58_code 19 = .ok (.iconst (-1), 1) := by decide +kernel
theorem d_MO_link_20 : decode prog_14_method_58_code 20 = .ok (.istore_n 3, 1) := by decide +kernel
theorem d_MO_link_21 : decode prog_14_method_58_code 21 = .ok (.aload_n 0, 1) := by decide +kernel
theorem d_MO_link_22 : decode prog_14_method_58_code 22 = .ok (.iload_n 1, 1) := by decide +kernel
theorem d_MO_link_23 : decode prog_14_method_58_code 23 = .ok (.invokevirtual 253, 3) := by decide +kernel
theorem d_MO_link_26 : decode prog_14_method_58_code 26 = .ok (.istore 4, 2) := by decide +kernel
theorem d_MO_link_28 : decode prog_14_method_58_code 28 = .ok (.aload_n 0, 1) := by decide +kernel
theorem d_MO_link_29 : decode prog_14_method_58_code 29 = .ok (.invokevirtual 256, 3) := by decide +kernel
theorem d_MO_link_32 : decode prog_14_method_58_code 32 = .ok (.iconst 0, 1) := by decide +kernel
theorem d_MO_link_33 : decode prog_14_method_58_code 33 = .ok (.istore 5, 2) := by decide +kernel
theorem d_MO_link_35 : decode prog_14_method_58_code 35 = .ok (.iload 5, 2) := by decide +kernel
theorem d_MO_link_37 : decode prog_14_method_58_code 37 = .ok (.aload_n 0, 1) := by decide +kernel
theorem d_MO_link_38 : decode prog_14_method_58_code 38 = .ok (.getfield 90, 3) := by decide +kernel
theorem d_MO_link_41 : decode prog_14_method_58_code 41 = .ok (.if_icmp .ge 85, 3) := by decide +kernel
theorem d_MO_link_44 : decode prog_14_method_58_code 44 = .ok (.iload 5, 2) := by decide +kernel
theorem d_MO_link_46 : decode prog_14_method_58_code 46 = .ok (.iconst 1, 1) := by decide +kernel
theorem d_MO_link_47 : decode prog_14_method_58_code 47 = .ok (.iadd, 1) := by decide +kernel
theorem d_MO_link_48 : decode prog_14_method_58_code 48 = .ok (.istore 6, 2) := by decide +kernel
theorem d_MO_link_50 : decode prog_14_method_58_code 50 = .ok (.iload 6, 2) := by decide +kernel
theorem d_MO_link_52 : decode prog_14_method_58_code 52 = .ok (.aload_n 0, 1) := by decide +kernel
theorem d_MO_link_53 : decode prog_14_method_58_code 53 = .ok (.getfield 90, 3) := by decide +kernel
theorem d_MO_link_56 : decode prog_14_method_58_code 56 = .ok (.if_icmp .ge 64, 3) := by decide +kernel
theorem d_MO_link_59 : decode prog_14_method_58_code 59 = .ok (.aload_n 0, 1) := by decide +kernel
theorem d_MO_link_60 : decode prog_14_method_58_code 60 = .ok (.iload 5, 2) := by decide +kernel
theorem d_MO_link_62 : decode prog_14_method_58_code 62 = .ok (.iload 6, 2) := by decide +kernel
theorem d_MO_link_64 : decode prog_14_method_58_code 64 = .ok (.invokevirtual 195, 3) := by decide +kernel
theorem d_MO_link_67 : decode prog_14_method_58_code 67 = .ok (.aload_n 0, 1) := by decide +kernel
theorem d_MO_link_68 : decode prog_14_method_58_code 68 = .ok (.iload_n 1, 1) := by decide +kernel
theorem d_MO_link_69 : decode prog_14_method_58_code 69 = .ok (.invokevirtual 253, 3) := by decide +kernel
theorem d_MO_link_72 : decode prog_14_method_58_code 72 = .ok (.istore 7, 2) := by decide +kernel
theorem d_MO_link_74 : decode prog_14_method_58_code 74 = .ok (.aload_n 0, 1) := by decide +kernel
theorem d_MO_link_75 : decode prog_14_method_58_code 75 = .ok (.invokevirtual 259, 3) := by decide +kernel
theorem d_MO_link_78 : decode prog_14_method_58_code 78 = .ok (.iload 7, 2) := by decide +kernel
theorem d_MO_link_80 : decode prog_14_method_58_code 80 = .ok (.iload 4, 2) := by decide +kernel
theorem d_MO_link_82 : decode prog_14_method_58_code 82 = .ok (.if_icmp .le 14, 3) := by decide +kernel
theorem d_MO_link_85 : decode prog_14_method_58_code 85 = .ok (.bipush 10, 2) := by decide +kernel
theorem d_MO_link_87 : decode prog_14_method_58_code 87 = .ok (.iload 5, 2) := by decide +kernel
theorem d_MO_link_89 : decode prog_14_method_58_code 89 = .ok (.imul, 1) := by decide +kernel
theorem d_MO_link_90 : decode prog_14_method_58_code 90 = .ok (.iload 6, 2) := by decide +kernel
theorem d_MO_link_92 : decode prog_14_method_58_code 92 = .ok (.iadd, 1) := by decide +kernel
theorem d_MO_link_93 : decode prog_14_method_58_code 93 = .ok (.goto 4, 3) := by decide +kernel
theorem d_MO_link_96 : decode prog_14_method_58_code 96 = .ok (.iload_n 3, 1) := by decide +kernel
theorem d_MO_link_97 : decode prog_14_method_58_code 97 = .ok (.istore_n 3, 1) := by decide +kernel
theorem d_MO_link_98 : decode prog_14_method_58_code 98 = .ok (.iload 7, 2) := by decide +kernel
theorem d_MO_link_100 : decode prog_14_method_58_code 100 = .ok (.iload 4, 2) := by decide +kernel
theorem d_MO_link_102 : decode prog_14_method_58_code 102 = .ok (.if_icmp .le 8, 3) := by decide +kernel
theorem d_MO_link_105 : decode prog_14_method_58_code 105 = .ok (.iload 7, 2) := by decide +kernel
theorem d_MO_link_107 : decode prog_14_method_58_code 107 = .ok (.goto 5, 3) := by decide +kernel
theorem d_MO_link_110 : decode prog_14_method_58_code 110 = .ok (.iload 4, 2) := by decide +kernel
theorem d_MO_link_112 : decode prog_14_method_58_code 112 = .ok (.istore 4, 2) := by decide +kernel
theorem d_MO_link_114 : decode prog_14_method_58_code 114 = .ok (.iinc 6 1, 3) := by decide +kernel
theorem d_MO_link_117 : decode prog_14_method_58_code 117 = .ok (.goto (-67), 3) := by decide +kernel
theorem d_MO_link_120 : decode prog_14_method_58_code 120 = .ok (.iinc 5 1, 3) := by decide +kernel
theorem d_MO_link_123 : decode prog_14_method_58_code 123 = .ok (.goto (-88), 3) := by decide +kernel
theorem d_MO_link_126 : decode prog_14_method_58_code 126 = .ok (.iload_n 2, 1) := by decide +kernel
theorem d_MO_link_127 : decode prog_14_method_58_code 127 = .ok (.ifCond .ne 7, 3) := by decide +kernel
theorem d_MO_link_130 : decode prog_14_method_58_code 130 = .ok (.iload_n 3, 1) := by decide +kernel
theorem d_MO_link_131 : decode prog_14_method_58_code 131 = .ok (.goto 5, 3) := by decide +kernel
theorem d_MO_link_134 : decode prog_14_method_58_code 134 = .ok (.iload 4, 2) := by decide +kernel
theorem d_MO_link_136 : decode prog_14_method_58_code 136 = .ok (.ireturn, 1) := by decide +kernel
def p_MO_link_112 (Q : Int32 → AH → Prop) (K35 : Int32 → Int32 → Int32 → Int32 → Int32 → AH → Prop) (K50 : Int32 → Int32 → Int32 → Int32 → Int32 → Int32 → AH → Prop) (x1 : Int32) (x2 : Int32) (x3 : Int32) (x5 : Int32) (x6 : Int32) (s0 : Int32) (h : AH) : Prop := K50 x1 x2 x3 s0 x5 (x6 + 1) h
def p_MO_link_97 (Q : Int32 → AH → Prop) (K35 : Int32 → Int32 → Int32 → Int32 → Int32 → AH → Prop) (K50 : Int32 → Int32 → Int32 → Int32 → Int32 → Int32 → AH → Prop) (x1 : Int32) (x2 : Int32) (x4 : Int32) (x5 : Int32) (x6 : Int32) (x7 : Int32) (s0 : Int32) (h : AH) : Prop := ((x7 ≤ x4 → p_MO_link_112 Q  K35 K50 x1 x2 s0 x5 x6 x4 h) ∧ (¬ x7 ≤ x4 → p_MO_link_112 Q  K35 K50 x1 x2 s0 x5 x6 x7 h))
def p_MO_link_50 (Q : Int32 → AH → Prop) (K35 : Int32 → Int32 → Int32 → Int32 → Int32 → AH → Prop) : Nat → Int32 → Int32 → Int32 → Int32 → Int32 → Int32 → AH → Prop
  | 0 => fun _ _ _ _ _ _ _ => False
  | n + 1 => fun x1 x2 x3 x4 x5 x6 h => let K50 := p_MO_link_50 Q K35 n; (((h.1 59 0) ≤ x6 → K35 x1 x2 x3 x4 (x5 + 1) h) ∧ (¬ (h.1 59 0) ≤ x6 → p_MO_links (fun h1 => p_MO_downs (fun r3 h2 => p_MO_laysBack (fun h4 => ((r3 ≤ x4 → p_MO_link_97 Q  K35 K50 x1 x2 x4 x5 x6 r3 x3 h4) ∧ (¬ r3 ≤ x4 → p_MO_link_97 Q  K35 K50 x1 x2 x4 x5 x6 r3 ((10 * x5) + x6) h4))) h2) x1 h1) x5 x6 h))
def p_MO_link_35 (Q : Int32 → AH → Prop) : Nat → Int32 → Int32 → Int32 → Int32 → Int32 → AH → Prop
  | 0 => fun _ _ _ _ _ _ => False
  | n + 1 => fun x1 x2 x3 x4 x5 h => let K35 := p_MO_link_35 Q n; (((h.1 59 0) ≤ x5 → ((¬ x2 = 0 → Q x4 h) ∧ (x2 = 0 → Q x3 h))) ∧ (¬ (h.1 59 0) ≤ x5 → ∃ n, p_MO_link_50 Q  K35 n x1 x2 x3 x4 x5 (x5 + 1) h))
def p_MO_link (Q : Int32 → AH → Prop) (x1 : Int32) (x2 : Int32) (h : AH) : Prop := p_MO_isMany (fun r2 h1 => ((r2 = 0 → Q (-2) h1) ∧ (¬ r2 = 0 → p_MO_in (fun r4 h3 => ((¬ r4 = 0 → p_MO_downs (fun r6 h5 => p_MO_keeps (fun h7 => ∃ n, p_MO_link_35 Q   n x1 x2 (-1) r6 0 h7) h5) x1 h3) ∧ (r4 = 0 → Q (-2) h3))) x2 0 1 h1))) x1 h
set_option maxRecDepth 20000 in
theorem r_MO_link_112 {G : GG} {d : Nat} {Q : Int32 → AH → Prop} {K35 : Int32 → Int32 → Int32 → Int32 → Int32 → AH → Prop} {K50 : Int32 → Int32 → Int32 → Int32 → Int32 → Int32 → AH → Prop} (k35 : ∀ x1 x2 x3 x4 x5 h, K35 x1 x2 x3 x4 x5 h → Att G T1 m_MO_link (d + 9) 35 [some (.ref 59), some (.int x1), some (.int x2), some (.int x3), some (.int x4), some (.int x5), none, none] [] h 0 0 (iQ Q)) (k50 : ∀ x1 x2 x3 x4 x5 x6 h, K50 x1 x2 x3 x4 x5 x6 h → Att G T1 m_MO_link (d + 9) 50 [some (.ref 59), some (.int x1), some (.int x2), some (.int x3), some (.int x4), some (.int x5), some (.int x6), none] [] h 0 0 (iQ Q)) (x1 : Int32) (x2 : Int32) (x3 : Int32) (x5 : Int32) (x6 : Int32) (s0 : Int32) (h : AH) (H : p_MO_link_112 Q K35 K50 x1 x2 x3 x5 x6 s0 h) : Att G T1 m_MO_link (d + 9) 112 [some (.ref 59), some (.int x1), some (.int x2), some (.int x3), none, some (.int x5), some (.int x6), none] [.int s0] h 0 0 (iQ Q) := by
  refine A_istore [some (.ref 59), some (.int x1), some (.int x2), some (.int x3), some (.int s0), some (.int x5), some (.int x6), none] d_MO_link_112 (by decide) rfl rfl ?_
  refine A_iinc 1 [some (.ref 59), some (.int x1), some (.int x2), some (.int x3), some (.int s0), some (.int x5), some (.int (x6 + 1)), none] d_MO_link_114 rfl (by decide) (by decide) rfl rfl ?_
  refine A_goto 50 d_MO_link_117 (by decide) ?_
  exact k50 _ _ _ _ _ _ _ H
set_option maxRecDepth 20000 in
theorem r_MO_link_97 {G : GG} {d : Nat} {Q : Int32 → AH → Prop} {K35 : Int32 → Int32 → Int32 → Int32 → Int32 → AH → Prop} {K50 : Int32 → Int32 → Int32 → Int32 → Int32 → Int32 → AH → Prop} (k35 : ∀ x1 x2 x3 x4 x5 h, K35 x1 x2 x3 x4 x5 h → Att G T1 m_MO_link (d + 9) 35 [some (.ref 59), some (.int x1), some (.int x2), some (.int x3), some (.int x4), some (.int x5), none, none] [] h 0 0 (iQ Q)) (k50 : ∀ x1 x2 x3 x4 x5 x6 h, K50 x1 x2 x3 x4 x5 x6 h → Att G T1 m_MO_link (d + 9) 50 [some (.ref 59), some (.int x1), some (.int x2), some (.int x3), some (.int x4), some (.int x5), some (.int x6), none] [] h 0 0 (iQ Q)) (x1 : Int32) (x2 : Int32) (x4 : Int32) (x5 : Int32) (x6 : Int32) (x7 : Int32) (s0 : Int32) (h : AH) (H : p_MO_link_97 Q K35 K50 x1 x2 x4 x5 x6 x7 s0 h) : Att G T1 m_MO_link (d + 9) 97 [some (.ref 59), some (.int x1), some (.int x2), none, some (.int x4), some (.int x5), some (.int x6), some (.int x7)] [.int s0] h 0 0 (iQ Q) := by
  refine A_istore_n [some (.ref 59), some (.int x1), some (.int x2), some (.int s0), some (.int x4), some (.int x5), some (.int x6), some (.int x7)] d_MO_link_97 (by decide) rfl rfl ?_
  refine A_iload d_MO_link_98 rfl ?_
  refine A_iload d_MO_link_100 rfl ?_
  refine A_icmp_le 110 d_MO_link_102 (by decide) (fun z => ?_) (fun z => ?_)
  · have H := H.1 z
    refine A_iload d_MO_link_110 rfl ?_
    refine A_sub (L' := [some (.ref 59), some (.int x1), some (.int x2), some (.int s0), none, some (.int x5), some (.int x6), none]) ⟨rfl, rfl, rfl, rfl, rfl, rfl, trivial⟩ ?_
    exact r_MO_link_112  k35 k50 _ _ _ _ _ _ _ H
  · have H := H.2 z
    refine A_iload d_MO_link_105 rfl ?_
    refine A_goto 112 d_MO_link_107 (by decide) ?_
    refine A_sub (L' := [some (.ref 59), some (.int x1), some (.int x2), some (.int s0), none, some (.int x5), some (.int x6), none]) ⟨rfl, rfl, rfl, rfl, rfl, rfl, trivial⟩ ?_
    exact r_MO_link_112  k35 k50 _ _ _ _ _ _ _ H
set_option maxRecDepth 20000 in
theorem r_MO_link_50 {G : GG} {d : Nat} {Q : Int32 → AH → Prop} {K35 : Int32 → Int32 → Int32 → Int32 → Int32 → AH → Prop} (k35 : ∀ x1 x2 x3 x4 x5 h, K35 x1 x2 x3 x4 x5 h → Att G T1 m_MO_link (d + 9) 35 [some (.ref 59), some (.int x1), some (.int x2), some (.int x3), some (.int x4), some (.int x5), none, none] [] h 0 0 (iQ Q)) : ∀ (n : Nat) (x1 : Int32) (x2 : Int32) (x3 : Int32) (x4 : Int32) (x5 : Int32) (x6 : Int32) (h : AH), p_MO_link_50 Q K35 n x1 x2 x3 x4 x5 x6 h → Att G T1 m_MO_link (d + 9) 50 [some (.ref 59), some (.int x1), some (.int x2), some (.int x3), some (.int x4), some (.int x5), some (.int x6), none] [] h 0 0 (iQ Q) := by
  intro n
  induction n with
  | zero => intro x1 x2 x3 x4 x5 x6 h H; exact H.elim
  | succ n k50 =>
    intro x1 x2 x3 x4 x5 x6 h H
    refine A_iload d_MO_link_50 rfl ?_
    refine A_aload_n d_MO_link_52 rfl ?_
    refine A_get (v := .int (h.1 59 0)) d_MO_link_53 (fo_MO_90_12 rfl) (vA_s (by decide)) rfl rfl ?_
    refine A_icmp_ge 120 d_MO_link_56 (by decide) (fun z => ?_) (fun z => ?_)
    · have H := H.1 z
      refine A_iinc 1 [some (.ref 59), some (.int x1), some (.int x2), some (.int x3), some (.int x4), some (.int (x5 + 1)), some (.int x6), none] d_MO_link_120 rfl (by decide) (by decide) rfl rfl ?_
      refine A_goto 35 d_MO_link_123 (by decide) ?_
      refine A_sub (L' := [some (.ref 59), some (.int x1), some (.int x2), some (.int x3), some (.int x4), some (.int (x5 + 1)), none, none]) ⟨rfl, rfl, rfl, rfl, rfl, rfl, trivial⟩ ?_
      exact k35 _ _ _ _ _ _ H
    · have H := H.2 z
      refine A_aload_n d_MO_link_59 rfl ?_
      refine A_iload d_MO_link_60 rfl ?_
      refine A_iload d_MO_link_62 rfl ?_
      refine A_cV [.ref 59, .int x5, .int x6] [] (ct_MO_195 rfl) d_MO_link_64 rfl rfl (by decide) (Nat.le_of_ble_eq_true rfl) (rcA_o (c := 12) rfl (vA_s (by decide)) rfl (by decide) rfl) (ok_MO_links (d := d + 7) H) (fun h1 H => ?_)
      refine A_aload_n d_MO_link_67 rfl ?_
      refine A_iload_n d_MO_link_68 rfl ?_
      refine A_cI [.ref 59, .int x1] [] (ct_MO_253 rfl) d_MO_link_69 rfl rfl (by decide) (Nat.le_of_ble_eq_true rfl) (rcA_o (c := 12) rfl (vA_s (by decide)) rfl (by decide) rfl) (ok_MO_downs (d := d) H) (fun r3 h2 H => ?_)
      refine A_istore [some (.ref 59), some (.int x1), some (.int x2), some (.int x3), some (.int x4), some (.int x5), some (.int x6), some (.int r3)] d_MO_link_72 (by decide) rfl rfl ?_
      refine A_aload_n d_MO_link_74 rfl ?_
      refine A_cV [.ref 59] [] (ct_MO_259 rfl) d_MO_link_75 rfl rfl (by decide) (Nat.le_of_ble_eq_true rfl) (rcA_o (c := 12) rfl (vA_s (by decide)) rfl (by decide) rfl) (ok_MO_laysBack (d := d + 8) H) (fun h4 H => ?_)
      refine A_iload d_MO_link_78 rfl ?_
      refine A_iload d_MO_link_80 rfl ?_
      refine A_icmp_le 96 d_MO_link_82 (by decide) (fun z => ?_) (fun z => ?_)
      · have H := H.1 z
        refine A_iload_n d_MO_link_96 rfl ?_
        refine A_sub (L' := [some (.ref 59), some (.int x1), some (.int x2), none, some (.int x4), some (.int x5), some (.int x6), some (.int r3)]) ⟨rfl, rfl, rfl, rfl, rfl, rfl, rfl, trivial⟩ ?_
        exact r_MO_link_97  k35 k50 _ _ _ _ _ _ _ _ H
      · have H := H.2 z
        refine A_bipush 10 (by decide) d_MO_link_85 ?_
        refine A_iload d_MO_link_87 rfl ?_
        refine A_imul d_MO_link_89 ?_
        refine A_iload d_MO_link_90 rfl ?_
        refine A_iadd d_MO_link_92 ?_
        refine A_goto 97 d_MO_link_93 (by decide) ?_
        refine A_sub (L' := [some (.ref 59), some (.int x1), some (.int x2), none, some (.int x4), some (.int x5), some (.int x6), some (.int r3)]) ⟨rfl, rfl, rfl, rfl, rfl, rfl, rfl, trivial⟩ ?_
        exact r_MO_link_97  k35 k50 _ _ _ _ _ _ _ _ H
set_option maxRecDepth 20000 in
theorem r_MO_link_35 {G : GG} {d : Nat} {Q : Int32 → AH → Prop} : ∀ (n : Nat) (x1 : Int32) (x2 : Int32) (x3 : Int32) (x4 : Int32) (x5 : Int32) (h : AH), p_MO_link_35 Q n x1 x2 x3 x4 x5 h → Att G T1 m_MO_link (d + 9) 35 [some (.ref 59), some (.int x1), some (.int x2), some (.int x3), some (.int x4), some (.int x5), none, none] [] h 0 0 (iQ Q) := by
  intro n
  induction n with
  | zero => intro x1 x2 x3 x4 x5 h H; exact H.elim
  | succ n k35 =>
    intro x1 x2 x3 x4 x5 h H
    refine A_iload d_MO_link_35 rfl ?_
    refine A_aload_n d_MO_link_37 rfl ?_
    refine A_get (v := .int (h.1 59 0)) d_MO_link_38 (fo_MO_90_12 rfl) (vA_s (by decide)) rfl rfl ?_
    refine A_icmp_ge 126 d_MO_link_41 (by decide) (fun z => ?_) (fun z => ?_)
    · have H := H.1 z
      refine A_iload_n d_MO_link_126 rfl ?_
      refine A_if_ne 134 d_MO_link_127 (by decide) (fun z => ?_) (fun z => ?_)
      · have H := H.1 z
        refine A_iload d_MO_link_134 rfl ?_
        exact A_iret d_MO_link_136 rfl rfl H
      · have H := H.2 z
        refine A_iload_n d_MO_link_130 rfl ?_
        refine A_goto 136 d_MO_link_131 (by decide) ?_
        exact A_iret d_MO_link_136 rfl rfl H
    · have H := H.2 z
      refine A_iload d_MO_link_44 rfl ?_
      refine A_iconst 1 (by decide) d_MO_link_46 ?_
      refine A_iadd d_MO_link_47 ?_
      refine A_istore [some (.ref 59), some (.int x1), some (.int x2), some (.int x3), some (.int x4), some (.int x5), some (.int (x5 + 1)), none] d_MO_link_48 (by decide) rfl rfl ?_
      obtain ⟨n9, H⟩ := H
      exact r_MO_link_50  k35 n9 _ _ _ _ _ _ _ H
set_option maxRecDepth 20000 in
theorem r_MO_link_0 {G : GG} {d : Nat} {Q : Int32 → AH → Prop} (x1 : Int32) (x2 : Int32) (h : AH) (H : p_MO_link Q x1 x2 h) : Att G T1 m_MO_link (d + 9) 0 [some (.ref 59), some (.int x1), some (.int x2), none, none, none, none, none] [] h 0 0 (iQ Q) := by
  refine A_iload_n d_MO_link_0 rfl ?_
  refine A_cI [.int x1] [] (ct_MO_185 rfl) d_MO_link_1 rfl rfl (by decide) (Nat.le_of_ble_eq_true rfl) trivial (ok_MO_isMany (d := d + 7) H) (fun r2 h1 H => ?_)
  refine A_if_eq 16 d_MO_link_4 (by decide) (fun z => ?_) (fun z => ?_)
  · have H := H.1 z
    refine A_bipush (-2) (by decide) d_MO_link_16 ?_
    exact A_iret d_MO_link_18 rfl rfl H
  · have H := H.2 z
    refine A_iload_n d_MO_link_7 rfl ?_
    refine A_iconst 0 (by decide) d_MO_link_8 ?_
    refine A_iconst 1 (by decide) d_MO_link_9 ?_
    refine A_cI [.int x2, .int 0, .int 1] [] (ct_MO_93 rfl) d_MO_link_10 rfl rfl (by decide) (Nat.le_of_ble_eq_true rfl) trivial (ok_MO_in (d := d + 8) H) (fun r4 h3 H => ?_)
    refine A_if_ne 19 d_MO_link_13 (by decide) (fun z => ?_) (fun z => ?_)
    · have H := H.1 z
      refine A_iconst (-1) (by decide) d_MO_link_19 ?_
      refine A_istore_n [some (.ref 59), some (.int x1), some (.int x2), some (.int (-1)), none, none, none, none] d_MO_link_20 (by decide) rfl rfl ?_
      refine A_aload_n d_MO_link_21 rfl ?_
      refine A_iload_n d_MO_link_22 rfl ?_
      refine A_cI [.ref 59, .int x1] [] (ct_MO_253 rfl) d_MO_link_23 rfl rfl (by decide) (Nat.le_of_ble_eq_true rfl) (rcA_o (c := 12) rfl (vA_s (by decide)) rfl (by decide) rfl) (ok_MO_downs (d := d) H) (fun r6 h5 H => ?_)
      refine A_istore [some (.ref 59), some (.int x1), some (.int x2), some (.int (-1)), some (.int r6), none, none, none] d_MO_link_26 (by decide) rfl rfl ?_
      refine A_aload_n d_MO_link_28 rfl ?_
      refine A_cV [.ref 59] [] (ct_MO_256 rfl) d_MO_link_29 rfl rfl (by decide) (Nat.le_of_ble_eq_true rfl) (rcA_o (c := 12) rfl (vA_s (by decide)) rfl (by decide) rfl) (ok_MO_keeps (d := d + 8) H) (fun h7 H => ?_)
      refine A_iconst 0 (by decide) d_MO_link_32 ?_
      refine A_istore [some (.ref 59), some (.int x1), some (.int x2), some (.int (-1)), some (.int r6), some (.int 0), none, none] d_MO_link_33 (by decide) rfl rfl ?_
      obtain ⟨n9, H⟩ := H
      exact r_MO_link_35   n9 _ _ _ _ _ _ H
    · have H := H.2 z
      refine A_bipush (-2) (by decide) d_MO_link_16 ?_
      exact A_iret d_MO_link_18 rfl rfl H
set_option maxRecDepth 20000 in
theorem ok_MO_link {G : GG} {d : Nat} {Q : Int32 → AH → Prop} {x1 : Int32} {x2 : Int32} {h : AH} (H : p_MO_link Q x1 x2 h) : WP G T1 m_MO_link (d + 9) [.ref 59, .int x1, .int x2] h 0 0 (iQ Q) := by
  exact WP.enter 5 (by decide) rfl rfl (r_MO_link_0 x1 x2 h H)
