theorem d_Dusk_firstDown_0 : decode prog_4_method_4_code 0 = .ok (.iconst 0, 1) := by decide +kernel
theorem d_Dusk_firstDown_1 : decode prog_4_method_4_code 1 = .ok (.istore_n 2, 1) := by decide +kernel
theorem d_Dusk_firstDown_2 : decode prog_4_method_4_code 2 = .ok (.iload_n 2, 1) := by decide +kernel
theorem d_Dusk_firstDown_3 : decode prog_4_method_4_code 3 = .ok (.bipush 24, 2) := by decide +kernel
theorem d_Dusk_firstDown_5 : decode prog_4_method_4_code 5 = .ok (.if_icmp .gt 34, 3) := by decide +kernel
theorem d_Dusk_firstDown_8 : decode prog_4_method_4_code 8 = .ok (.aload_n 0, 1) := by decide +kernel
theorem d_Dusk_firstDown_9 : decode prog_4_method_4_code 9 = .ok (.getfield 12, 3) := by decide +kernel
theorem d_Dusk_firstDown_12 : decode prog_4_method_4_code 12 = .ok (.iload_n 1, 1) := by decide +kernel
theorem d_Dusk_firstDown_13 : decode prog_4_method_4_code 13 = .ok (.invokevirtual 57, 3) := by decide +kernel
theorem d_Dusk_firstDown_16 : decode prog_4_method_4_code 16 = .ok (.ifCond .eq 5, 3) := by decide +kernel
theorem d_Dusk_firstDown_19 : decode prog_4_method_4_code 19 = .ok (.iload_n 2, 1) := by decide +kernel
theorem d_Dusk_firstDown_20 : decode prog_4_method_4_code 20 = .ok (.ireturn, 1) := by decide +kernel
theorem d_Dusk_firstDown_21 : decode prog_4_method_4_code 21 = .ok (.iload_n 2, 1) := by decide +kernel
theorem d_Dusk_firstDown_22 : decode prog_4_method_4_code 22 = .ok (.bipush 24, 2) := by decide +kernel
theorem d_Dusk_firstDown_24 : decode prog_4_method_4_code 24 = .ok (.if_icmp .ge 9, 3) := by decide +kernel
theorem d_Dusk_firstDown_27 : decode prog_4_method_4_code 27 = .ok (.aload_n 0, 1) := by decide +kernel
theorem d_Dusk_firstDown_28 : decode prog_4_method_4_code 28 = .ok (.iload_n 2, 1) := by decide +kernel
theorem d_Dusk_firstDown_29 : decode prog_4_method_4_code 29 = .ok (.iconst 0, 1) := by decide +kernel
theorem d_Dusk_firstDown_30 : decode prog_4_method_4_code 30 = .ok (.invokevirtual 53, 3) := by decide +kernel
theorem d_Dusk_firstDown_33 : decode prog_4_method_4_code 33 = .ok (.iinc 2 1, 3) := by decide +kernel
theorem d_Dusk_firstDown_36 : decode prog_4_method_4_code 36 = .ok (.goto (-34), 3) := by decide +kernel
theorem d_Dusk_firstDown_39 : decode prog_4_method_4_code 39 = .ok (.iconst (-1), 1) := by decide +kernel
theorem d_Dusk_firstDown_40 : decode prog_4_method_4_code 40 = .ok (.ireturn, 1) := by decide +kernel
def p_Dusk_firstDown_33 (Q : Int32 → AH → Prop) (K2 : Int32 → Int32 → AH → Prop) (x1 : Int32) (x2 : Int32) (h : AH) : Prop := K2 x1 (x2 + 1) h
def p_Dusk_firstDown_2 (Q : Int32 → AH → Prop) : Nat → Int32 → Int32 → AH → Prop
  | 0 => fun _ _ _ => False
  | n + 1 => fun x1 x2 h => let K2 := p_Dusk_firstDown_2 Q n; ((24 < x2 → Q (-1) h) ∧ (¬ 24 < x2 → p_Town_isDown (fun r2 h1 => ((r2 = 0 → ((24 ≤ x2 → p_Dusk_firstDown_33 Q  K2 x1 x2 h1) ∧ (¬ 24 ≤ x2 → p_Dusk_pass (fun h3 => p_Dusk_firstDown_33 Q  K2 x1 x2 h3) x2 0 h1))) ∧ (¬ r2 = 0 → Q x2 h1))) 14 x1 h))
def p_Dusk_firstDown (Q : Int32 → AH → Prop) (x1 : Int32) (h : AH) : Prop := ∃ n, p_Dusk_firstDown_2 Q   n x1 0 h
set_option maxRecDepth 20000 in
theorem r_Dusk_firstDown_33 {G : GG} {d : Nat} {Q : Int32 → AH → Prop} {K2 : Int32 → Int32 → AH → Prop} (k2 : ∀ x1 x2 h, K2 x1 x2 h → Att G T1 m_Dusk_firstDown (d + 6) 2 [some (.ref 13), some (.int x1), some (.int x2)] [] h 0 0 (iQ Q)) (x1 : Int32) (x2 : Int32) (h : AH) (H : p_Dusk_firstDown_33 Q K2 x1 x2 h) : Att G T1 m_Dusk_firstDown (d + 6) 33 [some (.ref 13), some (.int x1), some (.int x2)] [] h 0 0 (iQ Q) := by
  refine A_iinc 1 [some (.ref 13), some (.int x1), some (.int (x2 + 1))] d_Dusk_firstDown_33 rfl (by decide) (by decide) rfl rfl ?_
  refine A_goto 2 d_Dusk_firstDown_36 (by decide) ?_
  exact k2 _ _ _ H
set_option maxRecDepth 20000 in
theorem r_Dusk_firstDown_2 {G : GG} {d : Nat} {Q : Int32 → AH → Prop} : ∀ (n : Nat) (x1 : Int32) (x2 : Int32) (h : AH), p_Dusk_firstDown_2 Q n x1 x2 h → Att G T1 m_Dusk_firstDown (d + 6) 2 [some (.ref 13), some (.int x1), some (.int x2)] [] h 0 0 (iQ Q) := by
  intro n
  induction n with
  | zero => intro x1 x2 h H; exact H.elim
  | succ n k2 =>
    intro x1 x2 h H
    refine A_iload_n d_Dusk_firstDown_2 rfl ?_
    refine A_bipush 24 (by decide) d_Dusk_firstDown_3 ?_
    refine A_icmp_gt 39 d_Dusk_firstDown_5 (by decide) (fun z => ?_) (fun z => ?_)
    · have H := H.1 z
      refine A_iconst (-1) (by decide) d_Dusk_firstDown_39 ?_
      exact A_iret d_Dusk_firstDown_40 rfl rfl H
    · have H := H.2 z
      refine A_aload_n d_Dusk_firstDown_8 rfl ?_
      refine A_get (v := .ref 14) d_Dusk_firstDown_9 (fo_Dusk_12_2 rfl) (vA_s (by decide)) rfl (by first | rfl | (show Value.int _ = Value.int _; simp [wI, wL, wR, wC, up])) ?_
      refine A_iload_n d_Dusk_firstDown_12 rfl ?_
      refine A_cI [.ref 14, .int x1] [] (ct_Dusk_57 rfl) d_Dusk_firstDown_13 rfl rfl (by decide) (Nat.le_of_ble_eq_true rfl) (rcA_o (c := 10) rfl (vA_s (by decide)) rfl (by decide) rfl) (ok_Town_isDown (d := d + 5) H) (fun r2 h1 H => ?_)
      refine A_if_eq 21 d_Dusk_firstDown_16 (by decide) (fun z => ?_) (fun z => ?_)
      · have H := H.1 z
        refine A_iload_n d_Dusk_firstDown_21 rfl ?_
        refine A_bipush 24 (by decide) d_Dusk_firstDown_22 ?_
        refine A_icmp_ge 33 d_Dusk_firstDown_24 (by decide) (fun z => ?_) (fun z => ?_)
        · have H := H.1 z
          exact r_Dusk_firstDown_33  k2 _ _ _ H
        · have H := H.2 z
          refine A_aload_n d_Dusk_firstDown_27 rfl ?_
          refine A_iload_n d_Dusk_firstDown_28 rfl ?_
          refine A_iconst 0 (by decide) d_Dusk_firstDown_29 ?_
          refine A_cV [.ref 13, .int x2, .int 0] [] (ct_Dusk_53 rfl) d_Dusk_firstDown_30 rfl rfl (by decide) (Nat.le_of_ble_eq_true rfl) (rcA_o (c := 2) rfl (vA_s (by decide)) rfl (by decide) rfl) (ok_Dusk_pass (d := d) H) (fun h3 H => ?_)
          exact r_Dusk_firstDown_33  k2 _ _ _ H
      · have H := H.2 z
        refine A_iload_n d_Dusk_firstDown_19 rfl ?_
        exact A_iret d_Dusk_firstDown_20 rfl rfl H
set_option maxRecDepth 20000 in
theorem r_Dusk_firstDown_0 {G : GG} {d : Nat} {Q : Int32 → AH → Prop} (x1 : Int32) (h : AH) (H : p_Dusk_firstDown Q x1 h) : Att G T1 m_Dusk_firstDown (d + 6) 0 [some (.ref 13), some (.int x1), none] [] h 0 0 (iQ Q) := by
  refine A_iconst 0 (by decide) d_Dusk_firstDown_0 ?_
  refine A_istore_n [some (.ref 13), some (.int x1), some (.int 0)] d_Dusk_firstDown_1 (by decide) rfl rfl ?_
  obtain ⟨n9, H⟩ := H
  exact r_Dusk_firstDown_2   n9 _ _ _ H
set_option maxRecDepth 20000 in
theorem ok_Dusk_firstDown {G : GG} {d : Nat} {Q : Int32 → AH → Prop} {x1 : Int32} {h : AH} (H : p_Dusk_firstDown Q x1 h) : WP G T1 m_Dusk_firstDown (d + 6) [.ref 13, .int x1] h 0 0 (iQ Q) := by
  exact WP.enter 1 (by decide) rfl rfl (r_Dusk_firstDown_0 x1 h H)
theorem d_UF_times_0 : decode prog_1_method_24_code 0 = .ok (.aload_n 0, 1) := by decide +kernel
theorem d_UF_times_1 : decode prog_1_method_24_code 1 = .ok (.iload_n 1, 1) := by decide +kernel
theorem d_UF_times_2 : decode prog_1_method_24_code 2 = .ok (.invokevirtual 198, 3) := by decide +kernel
theorem d_UF_times_5 : decode prog_1_method_24_code 5 = .ok (.istore_n 2, 1) := by decide +kernel
theorem d_UF_times_6 : decode prog_1_method_24_code 6 = .ok (.iload_n 2, 1) := by decide +kernel
theorem d_UF_times_7 : decode prog_1_method_24_code 7 = .ok (.ifCond .eq 5, 3) := by decide +kernel
theorem d_UF_times_10 : decode prog_1_method_24_code 10 = .ok (.iload_n 2, 1) := by decide +kernel
theorem d_UF_times_11 : decode prog_1_method_24_code 11 = .ok (.ireturn, 1) := by decide +kernel
theorem d_UF_times_12 : decode prog_1_method_24_code 12 = .ok (.iconst 0, 1) := by decide +kernel
theorem d_UF_times_13 : decode prog_1_method_24_code 13 = .ok (.istore_n 3, 1) := by decide +kernel
theorem d_UF_times_14 : decode prog_1_method_24_code 14 = .ok (.aload_n 0, 1) := by decide +kernel
theorem d_UF_times_15 : decode prog_1_method_24_code 15 = .ok (.invokevirtual 110, 3) := by decide +kernel
theorem d_UF_times_18 : decode prog_1_method_24_code 18 = .ok (.iconst 0, 1) := by decide +kernel
theorem d_UF_times_19 : decode prog_1_method_24_code 19 = .ok (.istore 4, 2) := by decide +kernel
theorem d_UF_times_21 : decode prog_1_method_24_code 21 = .ok (.iload 4, 2) := by decide +kernel
theorem d_UF_times_23 : decode prog_1_method_24_code 23 = .ok (.bipush 24, 2) := by decide +kernel
theorem d_UF_times_25 : decode prog_1_method_24_code 25 = .ok (.if_icmp .gt 53, 3) := by decide +kernel
theorem d_UF_times_28 : decode prog_1_method_24_code 28 = .ok (.aload_n 0, 1) := by decide +kernel
theorem d_UF_times_29 : decode prog_1_method_24_code 29 = .ok (.getfield 23, 3) := by decide +kernel
theorem d_UF_times_32 : decode prog_1_method_24_code 32 = .ok (.iload_n 1, 1) := by decide +kernel
theorem d_UF_times_33 : decode prog_1_method_24_code 33 = .ok (.aaload, 1) := by decide +kernel
theorem d_UF_times_34 : decode prog_1_method_24_code 34 = .ok (.aload_n 0, 1) := by decide +kernel
theorem d_UF_times_35 : decode prog_1_method_24_code 35 = .ok (.getfield 44, 3) := by decide +kernel
theorem d_UF_times_38 : decode prog_1_method_24_code 38 = .ok (.getfield 149, 3) := by decide +kernel
theorem d_UF_times_41 : decode prog_1_method_24_code 41 = .ok (.invokevirtual 201, 3) := by decide +kernel
theorem d_UF_times_44 : decode prog_1_method_24_code 44 = .ok (.iconst (-1), 1) := by decide +kernel
theorem d_UF_times_45 : decode prog_1_method_24_code 45 = .ok (.if_icmp .ne 10, 3) := by decide +kernel
theorem d_UF_times_48 : decode prog_1_method_24_code 48 = .ok (.iload_n 3, 1) := by decide +kernel
theorem d_UF_times_49 : decode prog_1_method_24_code 49 = .ok (.iconst 1, 1) := by decide +kernel
theorem d_UF_times_50 : decode prog_1_method_24_code 50 = .ok (.iload 4, 2) := by decide +kernel
theorem d_UF_times_52 : decode prog_1_method_24_code 52 = .ok (.ishl, 1) := by decide +kernel
theorem d_UF_times_53 : decode prog_1_method_24_code 53 = .ok (.ior, 1) := by decide +kernel
theorem d_UF_times_54 : decode prog_1_method_24_code 54 = .ok (.istore_n 3, 1) := by decide +kernel
theorem d_UF_times_55 : decode prog_1_method_24_code 55 = .ok (.iload 4, 2) := by decide +kernel
theorem d_UF_times_57 : decode prog_1_method_24_code 57 = .ok (.bipush 24, 2) := by decide +kernel
theorem d_UF_times_59 : decode prog_1_method_24_code 59 = .ok (.if_icmp .ge 13, 3) := by decide +kernel
theorem d_UF_times_62 : decode prog_1_method_24_code 62 = .ok (.aload_n 0, 1) := by decide +kernel
theorem d_UF_times_63 : decode prog_1_method_24_code 63 = .ok (.getfield 44, 3) := by decide +kernel
theorem d_UF_times_66 : decode prog_1_method_24_code 66 = .ok (.iload 4, 2) := by decide +kernel
theorem d_UF_times_68 : decode prog_1_method_24_code 68 = .ok (.iconst 0, 1) := by decide +kernel
theorem d_UF_times_69 : decode prog_1_method_24_code 69 = .ok (.invokevirtual 205, 3) := by decide +kernel
theorem d_UF_times_72 : decode prog_1_method_24_code 72 = .ok (.iinc 4 1, 3) := by decide +kernel
theorem d_UF_times_75 : decode prog_1_method_24_code 75 = .ok (.goto (-54), 3) := by decide +kernel
theorem d_UF_times_78 : decode prog_1_method_24_code 78 = .ok (.iload_n 3, 1) := by decide +kernel
theorem d_UF_times_79 : decode prog_1_method_24_code 79 = .ok (.ireturn, 1) := by decide +kernel
def p_UF_times_72 (Q : Int32 → AH → Prop) (K21 : Int32 → Int32 → Int32 → AH → Prop) (x1 : Int32) (x3 : Int32) (x4 : Int32) (h : AH) : Prop := K21 x1 x3 (x4 + 1) h
def p_UF_times_55 (Q : Int32 → AH → Prop) (K21 : Int32 → Int32 → Int32 → AH → Prop) (x1 : Int32) (x3 : Int32) (x4 : Int32) (h : AH) : Prop := ((24 ≤ x4 → p_UF_times_72 Q  K21 x1 x3 x4 h) ∧ (¬ 24 ≤ x4 → p_Dusk_pass (fun h1 => p_UF_times_72 Q  K21 x1 x3 x4 h1) x4 0 h))
def p_UF_times_21 (Q : Int32 → AH → Prop) : Nat → Int32 → Int32 → Int32 → AH → Prop
  | 0 => fun _ _ _ _ => False
  | n + 1 => fun x1 x3 x4 h => let K21 := p_UF_times_21 Q n; ((24 < x4 → Q x3 h) ∧ (¬ 24 < x4 → inb x1 4 ∧ 0 < rR T1 h 3 x1.toNatClampNeg ∧ vA T1 h (rR T1 h 3 x1.toNatClampNeg - 1) ∧ (rS T1 h (rR T1 h 3 x1.toNatClampNeg - 1)).1 = 8 ∧ p_Sheet_firstOtherwise (fun r6 h5 => ((¬ r6 = (-1) → p_UF_times_55 Q  K21 x1 x3 x4 h5) ∧ (r6 = (-1) → p_UF_times_55 Q  K21 x1 (x3 ||| (1 <<< (x4 &&& 31))) x4 h5))) (rR T1 h 3 x1.toNatClampNeg - 1) 14 h))
def p_UF_times (Q : Int32 → AH → Prop) (x1 : Int32) (h : AH) : Prop := p_UF_tellingRefusal (fun r2 h1 => ((r2 = 0 → p_UF_ready (fun h3 => ∃ n, p_UF_times_21 Q   n x1 0 0 h3) h1) ∧ (¬ r2 = 0 → Q r2 h1))) x1 h
set_option maxRecDepth 20000 in
theorem r_UF_times_72 {G : GG} {d : Nat} {Q : Int32 → AH → Prop} {K21 : Int32 → Int32 → Int32 → AH → Prop} (k21 : ∀ x1 x3 x4 h, K21 x1 x3 x4 h → Att G T1 m_UF_times (d + 6) 21 [some (.ref 0), some (.int x1), none, some (.int x3), some (.int x4)] [] h 0 0 (iQ Q)) (x1 : Int32) (x3 : Int32) (x4 : Int32) (h : AH) (H : p_UF_times_72 Q K21 x1 x3 x4 h) : Att G T1 m_UF_times (d + 6) 72 [some (.ref 0), some (.int x1), none, some (.int x3), some (.int x4)] [] h 0 0 (iQ Q) := by
  refine A_iinc 1 [some (.ref 0), some (.int x1), none, some (.int x3), some (.int (x4 + 1))] d_UF_times_72 rfl (by decide) (by decide) rfl rfl ?_
  refine A_goto 21 d_UF_times_75 (by decide) ?_
  exact k21 _ _ _ _ H
set_option maxRecDepth 20000 in
theorem r_UF_times_55 {G : GG} {d : Nat} {Q : Int32 → AH → Prop} {K21 : Int32 → Int32 → Int32 → AH → Prop} (k21 : ∀ x1 x3 x4 h, K21 x1 x3 x4 h → Att G T1 m_UF_times (d + 6) 21 [some (.ref 0), some (.int x1), none, some (.int x3), some (.int x4)] [] h 0 0 (iQ Q)) (x1 : Int32) (x3 : Int32) (x4 : Int32) (h : AH) (H : p_UF_times_55 Q K21 x1 x3 x4 h) : Att G T1 m_UF_times (d + 6) 55 [some (.ref 0), some (.int x1), none, some (.int x3), some (.int x4)] [] h 0 0 (iQ Q) := by
  refine A_iload d_UF_times_55 rfl ?_
  refine A_bipush 24 (by decide) d_UF_times_57 ?_
  refine A_icmp_ge 72 d_UF_times_59 (by decide) (fun z => ?_) (fun z => ?_)
  · have H := H.1 z
    exact r_UF_times_72  k21 _ _ _ _ H
  · have H := H.2 z
    refine A_aload_n d_UF_times_62 rfl ?_
    refine A_get (v := .ref 13) d_UF_times_63 (fo_UF_44_11 rfl) (vA_s (by decide)) rfl (by first | rfl | (show Value.int _ = Value.int _; simp [wI, wL, wR, wC, up])) ?_
    refine A_iload d_UF_times_66 rfl ?_
    refine A_iconst 0 (by decide) d_UF_times_68 ?_
    refine A_cV [.ref 13, .int x4, .int 0] [] (ct_UF_205 rfl) d_UF_times_69 rfl rfl (by decide) (Nat.le_of_ble_eq_true rfl) (rcA_o (c := 2) rfl (vA_s (by decide)) rfl (by decide) rfl) (ok_Dusk_pass (d := d) H) (fun h1 H => ?_)
    exact r_UF_times_72  k21 _ _ _ _ H
set_option maxRecDepth 20000 in
theorem r_UF_times_21 {G : GG} {d : Nat} {Q : Int32 → AH → Prop} : ∀ (n : Nat) (x1 : Int32) (x3 : Int32) (x4 : Int32) (h : AH), p_UF_times_21 Q n x1 x3 x4 h → Att G T1 m_UF_times (d + 6) 21 [some (.ref 0), some (.int x1), none, some (.int x3), some (.int x4)] [] h 0 0 (iQ Q) := by
  intro n
  induction n with
  | zero => intro x1 x3 x4 h H; exact H.elim
  | succ n k21 =>
    intro x1 x3 x4 h H
    refine A_iload d_UF_times_21 rfl ?_
    refine A_bipush 24 (by decide) d_UF_times_23 ?_
    refine A_icmp_gt 78 d_UF_times_25 (by decide) (fun z => ?_) (fun z => ?_)
    · have H := H.1 z
      refine A_iload_n d_UF_times_78 rfl ?_
      exact A_iret d_UF_times_79 rfl rfl H
    · have H := H.2 z
      refine A_aload_n d_UF_times_28 rfl ?_
      refine A_get (v := .ref 3) d_UF_times_29 (fo_UF_23_11 rfl) (vA_s (by decide)) rfl (by first | rfl | (show Value.int _ = Value.int _; simp [wI, wL, wR, wC, up])) ?_
      refine A_iload_n d_UF_times_32 rfl ?_
      obtain ⟨c1, H⟩ := H
      obtain ⟨c2, H⟩ := H
      refine A_aald (t := 2) (n := 4) d_UF_times_33 (by decide) (vA_s (by decide)) rfl c1 (pos_sub c2) ?_
      refine A_aload_n d_UF_times_34 rfl ?_
      refine A_get (v := .ref 13) d_UF_times_35 (fo_UF_44_11 rfl) (vA_s (by decide)) rfl (by first | rfl | (show Value.int _ = Value.int _; simp [wI, wL, wR, wC, up])) ?_
      refine A_get (v := .ref 14) d_UF_times_38 (fo_UF_149_2 rfl) (vA_s (by decide)) rfl (by first | rfl | (show Value.int _ = Value.int _; simp [wI, wL, wR, wC, up])) ?_
      obtain ⟨c3, H⟩ := H
      obtain ⟨c4, H⟩ := H
      refine A_cI [.ref (rR T1 h 3 x1.toNatClampNeg - 1), .ref 14] [] (ct_UF_201 rfl) d_UF_times_41 rfl rfl (by decide) (Nat.le_of_ble_eq_true rfl) (rcA_o (c := 8) rfl c3 c4 (by decide) rfl) (ok_Sheet_firstOtherwise (d := d + 5) H) (fun r6 h5 H => ?_)
      refine A_iconst (-1) (by decide) d_UF_times_44 ?_
      refine A_icmp_ne 55 d_UF_times_45 (by decide) (fun z => ?_) (fun z => ?_)
      · have H := H.1 z
        exact r_UF_times_55  k21 _ _ _ _ H
      · have H := H.2 z
        refine A_iload_n d_UF_times_48 rfl ?_
        refine A_iconst 1 (by decide) d_UF_times_49 ?_
        refine A_iload d_UF_times_50 rfl ?_
        refine A_ishl d_UF_times_52 ?_
        refine A_ior d_UF_times_53 ?_
        refine A_istore_n [some (.ref 0), some (.int x1), none, some (.int (x3 ||| (1 <<< (x4 &&& 31)))), some (.int x4)] d_UF_times_54 (by decide) rfl rfl ?_
        exact r_UF_times_55  k21 _ _ _ _ H
set_option maxRecDepth 20000 in
theorem r_UF_times_0 {G : GG} {d : Nat} {Q : Int32 → AH → Prop} (x1 : Int32) (h : AH) (H : p_UF_times Q x1 h) : Att G T1 m_UF_times (d + 6) 0 [some (.ref 0), some (.int x1), none, none, none] [] h 0 0 (iQ Q) := by
  refine A_aload_n d_UF_times_0 rfl ?_
  refine A_iload_n d_UF_times_1 rfl ?_
  refine A_cI [.ref 0, .int x1] [] (ct_UF_198 rfl) d_UF_times_2 rfl rfl (by decide) (Nat.le_of_ble_eq_true rfl) (rcA_o (c := 11) rfl (vA_s (by decide)) rfl (by decide) rfl) (ok_UF_tellingRefusal (d := d + 3) H) (fun r2 h1 H => ?_)
  refine A_istore_n [some (.ref 0), some (.int x1), some (.int r2), none, none] d_UF_times_5 (by decide) rfl rfl ?_
  refine A_iload_n d_UF_times_6 rfl ?_
  refine A_if_eq 12 d_UF_times_7 (by decide) (fun z => ?_) (fun z => ?_)
  · have H := H.1 z
    refine A_iconst 0 (by decide) d_UF_times_12 ?_
    refine A_istore_n [some (.ref 0), some (.int x1), some (.int r2), some (.int 0), none] d_UF_times_13 (by decide) rfl rfl ?_
    refine A_aload_n d_UF_times_14 rfl ?_
    refine A_cV [.ref 0] [] (ct_UF_110 rfl) d_UF_times_15 rfl rfl (by decide) (Nat.le_of_ble_eq_true rfl) (rcA_o (c := 11) rfl (vA_s (by decide)) rfl (by decide) rfl) (ok_UF_ready (d := d + 2) H) (fun h3 H => ?_)
    refine A_iconst 0 (by decide) d_UF_times_18 ?_
    refine A_istore [some (.ref 0), some (.int x1), some (.int r2), some (.int 0), some (.int 0)] d_UF_times_19 (by decide) rfl rfl ?_
    refine A_sub (L' := [some (.ref 0), some (.int x1), none, some (.int 0), some (.int 0)]) ⟨rfl, rfl, rfl, rfl, trivial⟩ ?_
    obtain ⟨n9, H⟩ := H
    exact r_UF_times_21   n9 _ _ _ _ H
  · have H := H.2 z
    refine A_iload_n d_UF_times_10 rfl ?_
    exact A_iret d_UF_times_11 rfl rfl H
set_option maxRecDepth 20000 in
theorem ok_UF_times {G : GG} {d : Nat} {Q : Int32 → AH → Prop} {x1 : Int32} {h : AH} (H : p_UF_times Q x1 h) : WP G T1 m_UF_times (d + 6) [.ref 0, .int x1] h 0 0 (iQ Q) := by
  exact WP.enter 3 (by decide) rfl rfl (r_UF_times_0 x1 h H)
theorem d_UF_drawnDown_0 : decode prog_1_method_48_code 0 = .ok (.aload_n 0, 1) := by decide +kernel
theorem d_UF_drawnDown_1 : decode prog_1_method_48_code 1 = .ok (.invokevirtual 110, 3) := by decide +kernel
theorem d_UF_drawnDown_4 : decode prog_1_method_48_code 4 = .ok (.iload_n 1, 1) := by decide +kernel
theorem d_UF_drawnDown_5 : decode prog_1_method_48_code 5 = .ok (.iconst 1, 1) := by decide +kernel
theorem d_UF_drawnDown_6 : decode prog_1_method_48_code 6 = .ok (.iadd, 1) := by decide +kernel
theorem d_UF_drawnDown_7 : decode prog_1_method_48_code 7 = .ok (.i2l, 1) := by decide +kernel
theorem d_UF_drawnDown_8 : decode prog_1_method_48_code 8 = .ok (.lstore 4, 2) := by decide +kernel
theorem d_UF_drawnDown_10 : decode prog_1_method_48_code 10 = .ok (.iconst 0, 1) := by decide +kernel
theorem d_UF_drawnDown_11 : decode prog_1_method_48_code 11 = .ok (.istore 6, 2) := by decide +kernel
theorem d_UF_drawnDown_13 : decode prog_1_method_48_code 13 = .ok (.iload 6, 2) := by decide +kernel
theorem d_UF_drawnDown_15 : decode prog_1_method_48_code 15 = .ok (.iload_n 2, 1) := by decide +kernel
theorem d_UF_drawnDown_16 : decode prog_1_method_48_code 16 = .ok (.if_icmp .ge 92, 3) := by decide +kernel
theorem d_UF_drawnDown_19 : decode prog_1_method_48_code 19 = .ok (.iconst 0, 1) := by decide +kernel
theorem d_UF_drawnDown_20 : decode prog_1_method_48_code 20 = .ok (.istore 7, 2) := by decide +kernel
theorem d_UF_drawnDown_22 : decode prog_1_method_48_code 22 = .ok (.iconst 0, 1) := by decide +kernel
theorem d_UF_drawnDown_23 : decode prog_1_method_48_code 23 = .ok (.istore 8, 2) := by decide +kernel
theorem d_UF_drawnDown_25 : decode prog_1_method_48_code 25 = .ok (.iload 8, 2) := by decide +kernel
theorem d_UF_drawnDown_27 : decode prog_1_method_48_code 27 = .ok (.aload_n 0, 1) := by decide +kernel
theorem d_UF_drawnDown_28 : decode prog_1_method_48_code 28 = .ok (.getfield 34, 3) := by decide +kernel
theorem d_UF_drawnDown_31 : decode prog_1_method_48_code 31 = .ok (.getfield 80, 3) := by decide +kernel
theorem d_UF_drawnDown_34 : decode prog_1_method_48_code 34 = .ok (.if_icmp .ge 57, 3) := by decide +kernel
theorem d_UF_drawnDown_37 : decode prog_1_method_48_code 37 = .ok (.aload_n 0, 1) := by decide +kernel
theorem d_UF_drawnDown_38 : decode prog_1_method_48_code 38 = .ok (.getfield 34, 3) := by decide +kernel
theorem d_UF_drawnDown_41 : decode prog_1_method_48_code 41 = .ok (.iload 8, 2) := by decide +kernel
theorem d_UF_drawnDown_43 : decode prog_1_method_48_code 43 = .ok (.invokevirtual 187, 3) := by decide +kernel
theorem d_UF_drawnDown_46 : decode prog_1_method_48_code 46 = .ok (.ifCond .ne 6, 3) := by decide +kernel
theorem d_UF_drawnDown_49 : decode prog_1_method_48_code 49 = .ok (.goto 36, 3) := by decide +kernel
theorem d_UF_drawnDown_52 : decode prog_1_method_48_code 52 = .ok (.lload 4, 2) := by decide +kernel
theorem d_UF_drawnDown_54 : decode prog_1_method_48_code 54 = .ok (.ldc2_w 282, 3) := by decide +kernel
theorem d_UF_drawnDown_57 : decode prog_1_method_48_code 57 = .ok (.lmul, 1) := by decide +kernel
theorem d_UF_drawnDown_58 : decode prog_1_method_48_code 58 = .ok (.ldc2_w 284, 3) := by decide +kernel
theorem d_UF_drawnDown_61 : decode prog_1_method_48_code 61 = .ok (.lrem, 1) := by decide +kernel
theorem d_UF_drawnDown_62 : decode prog_1_method_48_code 62 = .ok (.lstore 4, 2) := by decide +kernel
theorem d_UF_drawnDown_64 : decode prog_1_method_48_code 64 = .ok (.lload 4, 2) := by decide +kernel
theorem d_UF_drawnDown_66 : decode prog_1_method_48_code 66 = .ok (.ldc2_w 286, 3) := by decide +kernel
theorem d_UF_drawnDown_69 : decode prog_1_method_48_code 69 = .ok (.lrem, 1) := by decide +kernel
theorem d_UF_drawnDown_70 : decode prog_1_method_48_code 70 = .ok (.iload_n 3, 1) := by decide +kernel
theorem d_UF_drawnDown_71 : decode prog_1_method_48_code 71 = .ok (.i2l, 1) := by decide +kernel
theorem d_UF_drawnDown_72 : decode prog_1_method_48_code 72 = .ok (.lcmp, 1) := by decide +kernel
theorem d_UF_drawnDown_73 : decode prog_1_method_48_code 73 = .ok (.ifCond .ge 12, 3) := by decide +kernel
theorem d_UF_drawnDown_76 : decode prog_1_method_48_code 76 = .ok (.iload 7, 2) := by decide +kernel
theorem d_UF_drawnDown_78 : decode prog_1_method_48_code 78 = .ok (.iconst 1, 1) := by decide +kernel
theorem d_UF_drawnDown_79 : decode prog_1_method_48_code 79 = .ok (.iload 8, 2) := by decide +kernel
theorem d_UF_drawnDown_81 : decode prog_1_method_48_code 81 = .ok (.ishl, 1) := by decide +kernel
theorem d_UF_drawnDown_82 : decode prog_1_method_48_code 82 = .ok (.ior, 1) := by decide +kernel
theorem d_UF_drawnDown_83 : decode prog_1_method_48_code 83 = .ok (.istore 7, 2) := by decide +kernel
theorem d_UF_drawnDown_85 : decode prog_1_method_48_code 85 = .ok (.iinc 8 1, 3) := by decide +kernel
theorem d_UF_drawnDown_88 : decode prog_1_method_48_code 88 = .ok (.goto (-63), 3) := by decide +kernel
theorem d_UF_drawnDown_91 : decode prog_1_method_48_code 91 = .ok (.aload_n 0, 1) := by decide +kernel
theorem d_UF_drawnDown_92 : decode prog_1_method_48_code 92 = .ok (.getfield 44, 3) := by decide +kernel
theorem d_UF_drawnDown_95 : decode prog_1_method_48_code 95 = .ok (.iload 6, 2) := by decide +kernel
theorem d_UF_drawnDown_97 : decode prog_1_method_48_code 97 = .ok (.iload 7, 2) := by decide +kernel
theorem d_UF_drawnDown_99 : decode prog_1_method_48_code 99 = .ok (.invokevirtual 205, 3) := by decide +kernel
theorem d_UF_drawnDown_102 : decode prog_1_method_48_code 102 = .ok (.iinc 6 1, 3) := by decide +kernel
theorem d_UF_drawnDown_105 : decode prog_1_method_48_code 105 = .ok (.goto (-92), 3) := by decide +kernel
theorem d_UF_drawnDown_108 : decode prog_1_method_48_code 108 = .ok (.aload_n 0, 1) := by decide +kernel
theorem d_UF_drawnDown_109 : decode prog_1_method_48_code 109 = .ok (.getfield 44, 3) := by decide +kernel
theorem d_UF_drawnDown_112 : decode prog_1_method_48_code 112 = .ok (.getfield 149, 3) := by decide +kernel
theorem d_UF_drawnDown_115 : decode prog_1_method_48_code 115 = .ok (.invokevirtual 184, 3) := by decide +kernel
theorem d_UF_drawnDown_118 : decode prog_1_method_48_code 118 = .ok (.ireturn, 1) := by decide +kernel
def p_UF_drawnDown_85 (Q : Int32 → AH → Prop) (K13 : Int32 → Int32 → Int64 → Int32 → AH → Prop) (K25 : Int32 → Int32 → Int64 → Int32 → Int32 → Int32 → AH → Prop) (x2 : Int32) (x3 : Int32) (y4 : Int64) (x6 : Int32) (x7 : Int32) (x8 : Int32) (h : AH) : Prop := K25 x2 x3 y4 x6 x7 (x8 + 1) h
def p_UF_drawnDown_25 (Q : Int32 → AH → Prop) (K13 : Int32 → Int32 → Int64 → Int32 → AH → Prop) : Nat → Int32 → Int32 → Int64 → Int32 → Int32 → Int32 → AH → Prop
  | 0 => fun _ _ _ _ _ _ _ => False
  | n + 1 => fun x2 x3 y4 x6 x7 x8 h => let K25 := p_UF_drawnDown_25 Q K13 n; (((h.1 5 3) ≤ x8 → p_Dusk_pass (fun h1 => K13 x2 x3 y4 (x6 + 1) h1) x6 x7 h) ∧ (¬ (h.1 5 3) ≤ x8 → p_Town_leads (fun r3 h2 => ((¬ r3 = 0 → ((0 ≤ (lg_cmp (((y4 * 48271) - (y4 * 48271) / 2147483647 * 2147483647) - ((y4 * 48271) - (y4 * 48271) / 2147483647 * 2147483647) / 100 * 100) x3.toInt64) → p_UF_drawnDown_85 Q  K13 K25 x2 x3 ((y4 * 48271) - (y4 * 48271) / 2147483647 * 2147483647) x6 x7 x8 h2) ∧ (¬ 0 ≤ (lg_cmp (((y4 * 48271) - (y4 * 48271) / 2147483647 * 2147483647) - ((y4 * 48271) - (y4 * 48271) / 2147483647 * 2147483647) / 100 * 100) x3.toInt64) → p_UF_drawnDown_85 Q  K13 K25 x2 x3 ((y4 * 48271) - (y4 * 48271) / 2147483647 * 2147483647) x6 (x7 ||| (1 <<< (x8 &&& 31))) x8 h2))) ∧ (r3 = 0 → p_UF_drawnDown_85 Q  K13 K25 x2 x3 y4 x6 x7 x8 h2))) 5 x8 h))
def p_UF_drawnDown_13 (Q : Int32 → AH → Prop) : Nat → Int32 → Int32 → Int64 → Int32 → AH → Prop
  | 0 => fun _ _ _ _ _ => False
  | n + 1 => fun x2 x3 y4 x6 h => let K13 := p_UF_drawnDown_13 Q n; ((x2 ≤ x6 → p_Town_downCount (fun r2 h1 => Q r2 h1) 14 h) ∧ (¬ x2 ≤ x6 → ∃ n, p_UF_drawnDown_25 Q  K13 n x2 x3 y4 x6 0 0 h))
def p_UF_drawnDown (Q : Int32 → AH → Prop) (x1 : Int32) (x2 : Int32) (x3 : Int32) (h : AH) : Prop := p_UF_ready (fun h1 => ∃ n, p_UF_drawnDown_13 Q   n x2 x3 ((x1 + 1).toInt64) 0 h1) h
set_option maxRecDepth 20000 in
theorem r_UF_drawnDown_85 {G : GG} {d : Nat} {Q : Int32 → AH → Prop} {K13 : Int32 → Int32 → Int64 → Int32 → AH → Prop} {K25 : Int32 → Int32 → Int64 → Int32 → Int32 → Int32 → AH → Prop} (k13 : ∀ x2 x3 y4 x6 h, K13 x2 x3 y4 x6 h → Att G T1 m_UF_drawnDown (d + 6) 13 [some (.ref 0), none, some (.int x2), some (.int x3), some (.long y4), none, some (.int x6), none, none] [] h 0 0 (iQ Q)) (k25 : ∀ x2 x3 y4 x6 x7 x8 h, K25 x2 x3 y4 x6 x7 x8 h → Att G T1 m_UF_drawnDown (d + 6) 25 [some (.ref 0), none, some (.int x2), some (.int x3), some (.long y4), none, some (.int x6), some (.int x7), some (.int x8)] [] h 0 0 (iQ Q)) (x2 : Int32) (x3 : Int32) (y4 : Int64) (x6 : Int32) (x7 : Int32) (x8 : Int32) (h : AH) (H : p_UF_drawnDown_85 Q K13 K25 x2 x3 y4 x6 x7 x8 h) : Att G T1 m_UF_drawnDown (d + 6) 85 [some (.ref 0), none, some (.int x2), some (.int x3), some (.long y4), none, some (.int x6), some (.int x7), some (.int x8)] [] h 0 0 (iQ Q) := by
  refine A_iinc 1 [some (.ref 0), none, some (.int x2), some (.int x3), some (.long y4), none, some (.int x6), some (.int x7), some (.int (x8 + 1))] d_UF_drawnDown_85 rfl (by decide) (by decide) rfl rfl ?_
  refine A_goto 25 d_UF_drawnDown_88 (by decide) ?_
  exact k25 _ _ _ _ _ _ _ H
set_option maxRecDepth 20000 in
theorem r_UF_drawnDown_25 {G : GG} {d : Nat} {Q : Int32 → AH → Prop} {K13 : Int32 → Int32 → Int64 → Int32 → AH → Prop} (k13 : ∀ x2 x3 y4 x6 h, K13 x2 x3 y4 x6 h → Att G T1 m_UF_drawnDown (d + 6) 13 [some (.ref 0), none, some (.int x2), some (.int x3), some (.long y4), none, some (.int x6), none, none] [] h 0 0 (iQ Q)) : ∀ (n : Nat) (x2 : Int32) (x3 : Int32) (y4 : Int64) (x6 : Int32) (x7 : Int32) (x8 : Int32) (h : AH), p_UF_drawnDown_25 Q K13 n x2 x3 y4 x6 x7 x8 h → Att G T1 m_UF_drawnDown (d + 6) 25 [some (.ref 0), none, some (.int x2), some (.int x3), some (.long y4), none, some (.int x6), some (.int x7), some (.int x8)] [] h 0 0 (iQ Q) := by
  intro n
  induction n with
  | zero => intro x2 x3 y4 x6 x7 x8 h H; exact H.elim
  | succ n k25 =>
    intro x2 x3 y4 x6 x7 x8 h H
    refine A_iload d_UF_drawnDown_25 rfl ?_
    refine A_aload_n d_UF_drawnDown_27 rfl ?_
    refine A_get (v := .ref 5) d_UF_drawnDown_28 (fo_UF_34_11 rfl) (vA_s (by decide)) rfl (by first | rfl | (show Value.int _ = Value.int _; simp [wI, wL, wR, wC, up])) ?_
    refine A_get (v := .int (h.1 5 3)) d_UF_drawnDown_31 (fo_UF_80_10 rfl) (vA_s (by decide)) rfl (by first | rfl | (show Value.int _ = Value.int _; simp [wI, wL, wR, wC, up])) ?_
    refine A_icmp_ge 91 d_UF_drawnDown_34 (by decide) (fun z => ?_) (fun z => ?_)
    · have H := H.1 z
      refine A_aload_n d_UF_drawnDown_91 rfl ?_
      refine A_get (v := .ref 13) d_UF_drawnDown_92 (fo_UF_44_11 rfl) (vA_s (by decide)) rfl (by first | rfl | (show Value.int _ = Value.int _; simp [wI, wL, wR, wC, up])) ?_
      refine A_iload d_UF_drawnDown_95 rfl ?_
      refine A_iload d_UF_drawnDown_97 rfl ?_
      refine A_cV [.ref 13, .int x6, .int x7] [] (ct_UF_205 rfl) d_UF_drawnDown_99 rfl rfl (by decide) (Nat.le_of_ble_eq_true rfl) (rcA_o (c := 2) rfl (vA_s (by decide)) rfl (by decide) rfl) (ok_Dusk_pass (d := d) H) (fun h1 H => ?_)
      refine A_iinc 1 [some (.ref 0), none, some (.int x2), some (.int x3), some (.long y4), none, some (.int (x6 + 1)), some (.int x7), some (.int x8)] d_UF_drawnDown_102 rfl (by decide) (by decide) rfl rfl ?_
      refine A_goto 13 d_UF_drawnDown_105 (by decide) ?_
      refine A_sub (L' := [some (.ref 0), none, some (.int x2), some (.int x3), some (.long y4), none, some (.int (x6 + 1)), none, none]) ⟨rfl, rfl, rfl, rfl, rfl, trivial⟩ ?_
      exact k13 _ _ _ _ _ H
    · have H := H.2 z
      refine A_aload_n d_UF_drawnDown_37 rfl ?_
      refine A_get (v := .ref 5) d_UF_drawnDown_38 (fo_UF_34_11 rfl) (vA_s (by decide)) rfl (by first | rfl | (show Value.int _ = Value.int _; simp [wI, wL, wR, wC, up])) ?_
      refine A_iload d_UF_drawnDown_41 rfl ?_
      refine A_cI [.ref 5, .int x8] [] (ct_UF_187 rfl) d_UF_drawnDown_43 rfl rfl (by decide) (Nat.le_of_ble_eq_true rfl) (rcA_o (c := 10) rfl (vA_s (by decide)) rfl (by decide) rfl) (ok_Town_leads (d := d + 5) H) (fun r3 h2 H => ?_)
      refine A_if_ne 52 d_UF_drawnDown_46 (by decide) (fun z => ?_) (fun z => ?_)
      · have H := H.1 z
        refine A_lload d_UF_drawnDown_52 rfl ?_
        refine A_ldc2 48271 d_UF_drawnDown_54 (tG 776 (by decide +kernel) (by decide +kernel)) ?_
        refine A_lmul d_UF_drawnDown_57 ?_
        refine A_ldc2 2147483647 d_UF_drawnDown_58 (tG 777 (by decide +kernel) (by decide +kernel)) ?_
        refine A_lrem (by decide) d_UF_drawnDown_61 ?_
        refine A_lstore [some (.ref 0), none, some (.int x2), some (.int x3), some (.long ((y4 * 48271) - (y4 * 48271) / 2147483647 * 2147483647)), none, some (.int x6), some (.int x7), some (.int x8)] d_UF_drawnDown_62 (by decide) rfl rfl ?_
        refine A_lload d_UF_drawnDown_64 rfl ?_
        refine A_ldc2 100 d_UF_drawnDown_66 (tG 778 (by decide +kernel) (by decide +kernel)) ?_
        refine A_lrem (by decide) d_UF_drawnDown_69 ?_
        refine A_iload_n d_UF_drawnDown_70 rfl ?_
        refine A_i2l d_UF_drawnDown_71 ?_
        refine A_lcmp d_UF_drawnDown_72 ?_
        refine A_if_ge 85 d_UF_drawnDown_73 (by decide) (fun z => ?_) (fun z => ?_)
        · have H := H.1 z
          exact r_UF_drawnDown_85  k13 k25 _ _ _ _ _ _ _ H
        · have H := H.2 z
          refine A_iload d_UF_drawnDown_76 rfl ?_
          refine A_iconst 1 (by decide) d_UF_drawnDown_78 ?_
          refine A_iload d_UF_drawnDown_79 rfl ?_
          refine A_ishl d_UF_drawnDown_81 ?_
          refine A_ior d_UF_drawnDown_82 ?_
          refine A_istore [some (.ref 0), none, some (.int x2), some (.int x3), some (.long ((y4 * 48271) - (y4 * 48271) / 2147483647 * 2147483647)), none, some (.int x6), some (.int (x7 ||| (1 <<< (x8 &&& 31)))), some (.int x8)] d_UF_drawnDown_83 (by decide) rfl rfl ?_
          exact r_UF_drawnDown_85  k13 k25 _ _ _ _ _ _ _ H
      · have H := H.2 z
        refine A_goto 85 d_UF_drawnDown_49 (by decide) ?_
        exact r_UF_drawnDown_85  k13 k25 _ _ _ _ _ _ _ H
set_option maxRecDepth 20000 in
theorem r_UF_drawnDown_13 {G : GG} {d : Nat} {Q : Int32 → AH → Prop} : ∀ (n : Nat) (x2 : Int32) (x3 : Int32) (y4 : Int64) (x6 : Int32) (h : AH), p_UF_drawnDown_13 Q n x2 x3 y4 x6 h → Att G T1 m_UF_drawnDown (d + 6) 13 [some (.ref 0), none, some (.int x2), some (.int x3), some (.long y4), none, some (.int x6), none, none] [] h 0 0 (iQ Q) := by
  intro n
  induction n with
  | zero => intro x2 x3 y4 x6 h H; exact H.elim
  | succ n k13 =>
    intro x2 x3 y4 x6 h H
    refine A_iload d_UF_drawnDown_13 rfl ?_
    refine A_iload_n d_UF_drawnDown_15 rfl ?_
    refine A_icmp_ge 108 d_UF_drawnDown_16 (by decide) (fun z => ?_) (fun z => ?_)
    · have H := H.1 z
      refine A_aload_n d_UF_drawnDown_108 rfl ?_
      refine A_get (v := .ref 13) d_UF_drawnDown_109 (fo_UF_44_11 rfl) (vA_s (by decide)) rfl (by first | rfl | (show Value.int _ = Value.int _; simp [wI, wL, wR, wC, up])) ?_
      refine A_get (v := .ref 14) d_UF_drawnDown_112 (fo_UF_149_2 rfl) (vA_s (by decide)) rfl (by first | rfl | (show Value.int _ = Value.int _; simp [wI, wL, wR, wC, up])) ?_
      refine A_cI [.ref 14] [] (ct_UF_184 rfl) d_UF_drawnDown_115 rfl rfl (by decide) (Nat.le_of_ble_eq_true rfl) (rcA_o (c := 10) rfl (vA_s (by decide)) rfl (by decide) rfl) (ok_Town_downCount (d := d + 3) H) (fun r2 h1 H => ?_)
      exact A_iret d_UF_drawnDown_118 rfl rfl H
    · have H := H.2 z
      refine A_iconst 0 (by decide) d_UF_drawnDown_19 ?_
      refine A_istore [some (.ref 0), none, some (.int x2), some (.int x3), some (.long y4), none, some (.int x6), some (.int 0), none] d_UF_drawnDown_20 (by decide) rfl rfl ?_
      refine A_iconst 0 (by decide) d_UF_drawnDown_22 ?_
      refine A_istore [some (.ref 0), none, some (.int x2), some (.int x3), some (.long y4), none, some (.int x6), some (.int 0), some (.int 0)] d_UF_drawnDown_23 (by decide) rfl rfl ?_
      obtain ⟨n9, H⟩ := H
      exact r_UF_drawnDown_25  k13 n9 _ _ _ _ _ _ _ H
set_option maxRecDepth 20000 in
theorem r_UF_drawnDown_0 {G : GG} {d : Nat} {Q : Int32 → AH → Prop} (x1 : Int32) (x2 : Int32) (x3 : Int32) (h : AH) (H : p_UF_drawnDown Q x1 x2 x3 h) : Att G T1 m_UF_drawnDown (d + 6) 0 [some (.ref 0), some (.int x1), some (.int x2), some (.int x3), none, none, none, none, none] [] h 0 0 (iQ Q) := by
  refine A_aload_n d_UF_drawnDown_0 rfl ?_
  refine A_cV [.ref 0] [] (ct_UF_110 rfl) d_UF_drawnDown_1 rfl rfl (by decide) (Nat.le_of_ble_eq_true rfl) (rcA_o (c := 11) rfl (vA_s (by decide)) rfl (by decide) rfl) (ok_UF_ready (d := d + 2) H) (fun h1 H => ?_)
  refine A_iload_n d_UF_drawnDown_4 rfl ?_
  refine A_iconst 1 (by decide) d_UF_drawnDown_5 ?_
  refine A_iadd d_UF_drawnDown_6 ?_
  refine A_i2l d_UF_drawnDown_7 ?_
  refine A_lstore [some (.ref 0), some (.int x1), some (.int x2), some (.int x3), some (.long ((x1 + 1).toInt64)), none, none, none, none] d_UF_drawnDown_8 (by decide) rfl rfl ?_
  refine A_iconst 0 (by decide) d_UF_drawnDown_10 ?_
  refine A_istore [some (.ref 0), some (.int x1), some (.int x2), some (.int x3), some (.long ((x1 + 1).toInt64)), none, some (.int 0), none, none] d_UF_drawnDown_11 (by decide) rfl rfl ?_
  refine A_sub (L' := [some (.ref 0), none, some (.int x2), some (.int x3), some (.long ((x1 + 1).toInt64)), none, some (.int 0), none, none]) ⟨rfl, rfl, rfl, rfl, rfl, trivial⟩ ?_
  obtain ⟨n9, H⟩ := H
  exact r_UF_drawnDown_13   n9 _ _ _ _ _ H
set_option maxRecDepth 20000 in
theorem ok_UF_drawnDown {G : GG} {d : Nat} {Q : Int32 → AH → Prop} {x1 : Int32} {x2 : Int32} {x3 : Int32} {h : AH} (H : p_UF_drawnDown Q x1 x2 x3 h) : WP G T1 m_UF_drawnDown (d + 6) [.ref 0, .int x1, .int x2, .int x3] h 0 0 (iQ Q) := by
  exact WP.enter 5 (by decide) rfl rfl (r_UF_drawnDown_0 x1 x2 x3 h H)
theorem d_MO_livesBy_0 : decode prog_14_method_43_code 0 = .ok (.iconst 0, 1) := by decide +kernel
theorem d_MO_livesBy_1 : decode prog_14_method_43_code 1 = .ok (.istore_n 2, 1) := by decide +kernel
theorem d_MO_livesBy_2 : decode prog_14_method_43_code 2 = .ok (.iload_n 2, 1) := by decide +kernel
theorem d_MO_livesBy_3 : decode prog_14_method_43_code 3 = .ok (.aload_n 0, 1) := by decide +kernel
theorem d_MO_livesBy_4 : decode prog_14_method_43_code 4 = .ok (.getfield 90, 3) := by decide +kernel
theorem d_MO_livesBy_7 : decode prog_14_method_43_code 7 = .ok (.if_icmp .ge 49, 3) := by decide +kernel
theorem d_MO_livesBy_10 : decode prog_14_method_43_code 10 = .ok (.aload_n 0, 1) := by decide +kernel
theorem d_MO_livesBy_11 : decode prog_14_method_43_code 11 = .ok (.getfield 64, 3) := by decide +kernel
theorem d_MO_livesBy_14 : decode prog_14_method_43_code 14 = .ok (.iload_n 2, 1) := by decide +kernel
theorem d_MO_livesBy_15 : decode prog_14_method_43_code 15 = .ok (.aload_n 0, 1) := by decide +kernel
theorem d_MO_livesBy_16 : decode prog_14_method_43_code 16 = .ok (.getfield 19, 3) := by decide +kernel
theorem d_MO_livesBy_19 : decode prog_14_method_43_code 19 = .ok (.iload_n 2, 1) := by decide +kernel
theorem d_MO_livesBy_20 : decode prog_14_method_43_code 20 = .ok (.iaload, 1) := by decide +kernel
theorem d_MO_livesBy_21 : decode prog_14_method_43_code 21 = .ok (.iastore, 1) := by decide +kernel
theorem d_MO_livesBy_22 : decode prog_14_method_43_code 22 = .ok (.aload_n 0, 1) := by decide +kernel
theorem d_MO_livesBy_23 : decode prog_14_method_43_code 23 = .ok (.getfield 67, 3) := by decide +kernel
theorem d_MO_livesBy_26 : decode prog_14_method_43_code 26 = .ok (.iload_n 2, 1) := by decide +kernel
theorem d_MO_livesBy_27 : decode prog_14_method_43_code 27 = .ok (.iconst 0, 1) := by decide +kernel
theorem d_MO_livesBy_28 : decode prog_14_method_43_code 28 = .ok (.iastore, 1) := by decide +kernel
theorem d_MO_livesBy_29 : decode prog_14_method_43_code 29 = .ok (.aload_n 0, 1) := by decide +kernel
theorem d_MO_livesBy_30 : decode prog_14_method_43_code 30 = .ok (.getfield 70, 3) := by decide +kernel
theorem d_MO_livesBy_33 : decode prog_14_method_43_code 33 = .ok (.iload_n 2, 1) := by decide +kernel
theorem d_MO_livesBy_34 : decode prog_14_method_43_code 34 = .ok (.iconst 0, 1) := by decide +kernel
theorem d_MO_livesBy_35 : decode prog_14_method_43_code 35 = .ok (.iastore, 1) := by decide +kernel
theorem d_MO_livesBy_36 : decode prog_14_method_43_code 36 = .ok (.aload_n 0, 1) := by decide +kernel
theorem d_MO_livesBy_37 : decode prog_14_method_43_code 37 = .ok (.getfield 73, 3) := by decide +kernel
theorem d_MO_livesBy_40 : decode prog_14_method_43_code 40 = .ok (.iload_n 2, 1) := by decide +kernel
theorem d_MO_livesBy_41 : decode prog_14_method_43_code 41 = .ok (.iconst (-1), 1) := by decide +kernel
theorem d_MO_livesBy_42 : decode prog_14_method_43_code 42 = .ok (.iastore, 1) := by decide +kernel
theorem d_MO_livesBy_43 : decode prog_14_method_43_code 43 = .ok (.aload_n 0, 1) := by decide +kernel
theorem d_MO_livesBy_44 : decode prog_14_method_43_code 44 = .ok (.getfield 76, 3) := by decide +kernel
theorem d_MO_livesBy_47 : decode prog_14_method_43_code 47 = .ok (.iload_n 2, 1) := by decide +kernel
theorem d_MO_livesBy_48 : decode prog_14_method_43_code 48 = .ok (.iconst 0, 1) := by decide +kernel
theorem d_MO_livesBy_49 : decode prog_14_method_43_code 49 = .ok (.iastore, 1) := by decide +kernel
theorem d_MO_livesBy_50 : decode prog_14_method_43_code 50 = .ok (.iinc 2 1, 3) := by decide +kernel
theorem d_MO_livesBy_53 : decode prog_14_method_43_code 53 = .ok (.goto (-51), 3) := by decide +kernel
theorem d_MO_livesBy_56 : decode prog_14_method_43_code 56 = .ok (.iconst 0, 1) := by decide +kernel
theorem d_MO_livesBy_57 : decode prog_14_method_43_code 57 = .ok (.istore_n 2, 1) := by decide +kernel
theorem d_MO_livesBy_58 : decode prog_14_method_43_code 58 = .ok (.iload_n 2, 1) := by decide +kernel
theorem d_MO_livesBy_59 : decode prog_14_method_43_code 59 = .ok (.iload_n 1, 1) := by decide +kernel
theorem d_MO_livesBy_60 : decode prog_14_method_43_code 60 = .ok (.if_icmp .ge 14, 3) := by decide +kernel
theorem d_MO_livesBy_63 : decode prog_14_method_43_code 63 = .ok (.aload_n 0, 1) := by decide +kernel
theorem d_MO_livesBy_64 : decode prog_14_method_43_code 64 = .ok (.iload_n 2, 1) := by decide +kernel
theorem d_MO_livesBy_65 : decode prog_14_method_43_code 65 = .ok (.invokevirtual 235, 3) := by decide +kernel
theorem d_MO_livesBy_68 : decode prog_14_method_43_code 68 = .ok (.iinc 2 1, 3) := by decide +kernel
theorem d_MO_livesBy_71 : decode prog_14_method_43_code 71 = .ok (.goto (-13), 3) := by decide +kernel
theorem d_MO_livesBy_74 : decode prog_14_method_43_code 74 = .ok (.return_, 1) := by decide +kernel
def p_MO_livesBy_58 (Q : AH → Prop) : Nat → Int32 → Int32 → AH → Prop
  | 0 => fun _ _ _ => False
  | n + 1 => fun x1 x2 h => let K58 := p_MO_livesBy_58 Q n; ((x1 ≤ x2 → Q h) ∧ (¬ x1 ≤ x2 → p_MO_minute (fun h1 => K58 x1 (x2 + 1) h1) x2 h))
def p_MO_livesBy_2 (Q : AH → Prop) : Nat → Int32 → Int32 → AH → Prop
  | 0 => fun _ _ _ => False
  | n + 1 => fun x1 x2 h => let K2 := p_MO_livesBy_2 Q n; (((h.1 59 0) ≤ x2 → ∃ n, p_MO_livesBy_58 Q   n x1 0 h) ∧ (¬ (h.1 59 0) ≤ x2 → inb x2 7 ∧ K2 x1 (x2 + 1) (wI (wI (wI (wI (wI h 78 x2 (h.1 63 x2)) 79 x2 0) 80 x2 0) 81 x2 (-1)) 82 x2 0)))
def p_MO_livesBy (Q : AH → Prop) (x1 : Int32) (h : AH) : Prop := ∃ n, p_MO_livesBy_2 Q   n x1 0 h
set_option maxRecDepth 20000 in
theorem r_MO_livesBy_58 {G : GG} {d : Nat} {Q : AH → Prop} : ∀ (n : Nat) (x1 : Int32) (x2 : Int32) (h : AH), p_MO_livesBy_58 Q n x1 x2 h → Att G T1 m_MO_livesBy (d + 6) 58 [some (.ref 59), some (.int x1), some (.int x2)] [] h 0 0 (vQ Q) := by
  intro n
  induction n with
  | zero => intro x1 x2 h H; exact H.elim
  | succ n k58 =>
    intro x1 x2 h H
    refine A_iload_n d_MO_livesBy_58 rfl ?_
    refine A_iload_n d_MO_livesBy_59 rfl ?_
    refine A_icmp_ge 74 d_MO_livesBy_60 (by decide) (fun z => ?_) (fun z => ?_)
    · have H := H.1 z
      exact A_ret d_MO_livesBy_74 rfl H
    · have H := H.2 z
      refine A_aload_n d_MO_livesBy_63 rfl ?_
      refine A_iload_n d_MO_livesBy_64 rfl ?_
      refine A_cV [.ref 59, .int x2] [] (ct_MO_235 rfl) d_MO_livesBy_65 rfl rfl (by decide) (Nat.le_of_ble_eq_true rfl) (rcA_o (c := 12) rfl (vA_s (by decide)) rfl (by decide) rfl) (ok_MO_minute (d := d) H) (fun h1 H => ?_)
      refine A_iinc 1 [some (.ref 59), some (.int x1), some (.int (x2 + 1))] d_MO_livesBy_68 rfl (by decide) (by decide) rfl rfl ?_
      refine A_goto 58 d_MO_livesBy_71 (by decide) ?_
      exact k58 _ _ _ H
set_option maxRecDepth 20000 in
theorem r_MO_livesBy_2 {G : GG} {d : Nat} {Q : AH → Prop} : ∀ (n : Nat) (x1 : Int32) (x2 : Int32) (h : AH), p_MO_livesBy_2 Q n x1 x2 h → Att G T1 m_MO_livesBy (d + 6) 2 [some (.ref 59), some (.int x1), some (.int x2)] [] h 0 0 (vQ Q) := by
  intro n
  induction n with
  | zero => intro x1 x2 h H; exact H.elim
  | succ n k2 =>
    intro x1 x2 h H
    refine A_iload_n d_MO_livesBy_2 rfl ?_
    refine A_aload_n d_MO_livesBy_3 rfl ?_
    refine A_get (v := .int (h.1 59 0)) d_MO_livesBy_4 (fo_MO_90_12 rfl) (vA_s (by decide)) rfl (by first | rfl | (show Value.int _ = Value.int _; simp [wI, wL, wR, wC, up])) ?_
    refine A_icmp_ge 56 d_MO_livesBy_7 (by decide) (fun z => ?_) (fun z => ?_)
    · have H := H.1 z
      refine A_iconst 0 (by decide) d_MO_livesBy_56 ?_
      refine A_istore_n [some (.ref 59), some (.int x1), some (.int 0)] d_MO_livesBy_57 (by decide) rfl rfl ?_
      obtain ⟨n9, H⟩ := H
      exact r_MO_livesBy_58   n9 _ _ _ H
    · have H := H.2 z
      refine A_aload_n d_MO_livesBy_10 rfl ?_
      refine A_get (v := .ref 78) d_MO_livesBy_11 (fo_MO_64_12 rfl) (vA_s (by decide)) rfl (by first | rfl | (show Value.int _ = Value.int _; simp [wI, wL, wR, wC, up])) ?_
      refine A_iload_n d_MO_livesBy_14 rfl ?_
      refine A_aload_n d_MO_livesBy_15 rfl ?_
      refine A_get (v := .ref 63) d_MO_livesBy_16 (fo_MO_19_12 rfl) (vA_s (by decide)) rfl (by first | rfl | (show Value.int _ = Value.int _; simp [wI, wL, wR, wC, up])) ?_
      refine A_iload_n d_MO_livesBy_19 rfl ?_
      obtain ⟨c1, H⟩ := H
      refine A_ialdv (n := 7) (v := (h.1 63 x2)) d_MO_livesBy_20 (vA_s (by decide)) rfl c1 rfl ?_
      refine A_iast (n := 7) d_MO_livesBy_21 (vA_s (by decide)) rfl c1 ?_
      refine A_aload_n d_MO_livesBy_22 rfl ?_
      refine A_get (v := .ref 79) d_MO_livesBy_23 (fo_MO_67_12 rfl) (vA_s (by decide)) rfl (by first | rfl | (show Value.int _ = Value.int _; simp [wI, wL, wR, wC, up])) ?_
      refine A_iload_n d_MO_livesBy_26 rfl ?_
      refine A_iconst 0 (by decide) d_MO_livesBy_27 ?_
      refine A_iast (n := 7) d_MO_livesBy_28 (vA_s (by decide)) rfl c1 ?_
      refine A_aload_n d_MO_livesBy_29 rfl ?_
      refine A_get (v := .ref 80) d_MO_livesBy_30 (fo_MO_70_12 rfl) (vA_s (by decide)) rfl (by first | rfl | (show Value.int _ = Value.int _; simp [wI, wL, wR, wC, up])) ?_
      refine A_iload_n d_MO_livesBy_33 rfl ?_
      refine A_iconst 0 (by decide) d_MO_livesBy_34 ?_
      refine A_iast (n := 7) d_MO_livesBy_35 (vA_s (by decide)) rfl c1 ?_
      refine A_aload_n d_MO_livesBy_36 rfl ?_
      refine A_get (v := .ref 81) d_MO_livesBy_37 (fo_MO_73_12 rfl) (vA_s (by decide)) rfl (by first | rfl | (show Value.int _ = Value.int _; simp [wI, wL, wR, wC, up])) ?_
      refine A_iload_n d_MO_livesBy_40 rfl ?_
      refine A_iconst (-1) (by decide) d_MO_livesBy_41 ?_
      refine A_iast (n := 7) d_MO_livesBy_42 (vA_s (by decide)) rfl c1 ?_
      refine A_aload_n d_MO_livesBy_43 rfl ?_
      refine A_get (v := .ref 82) d_MO_livesBy_44 (fo_MO_76_12 rfl) (vA_s (by decide)) rfl (by first | rfl | (show Value.int _ = Value.int _; simp [wI, wL, wR, wC, up])) ?_
      refine A_iload_n d_MO_livesBy_47 rfl ?_
      refine A_iconst 0 (by decide) d_MO_livesBy_48 ?_
      refine A_iast (n := 7) d_MO_livesBy_49 (vA_s (by decide)) rfl c1 ?_
      refine A_iinc 1 [some (.ref 59), some (.int x1), some (.int (x2 + 1))] d_MO_livesBy_50 rfl (by decide) (by decide) rfl rfl ?_
      refine A_goto 2 d_MO_livesBy_53 (by decide) ?_
      exact k2 _ _ _ H
set_option maxRecDepth 20000 in
theorem r_MO_livesBy_0 {G : GG} {d : Nat} {Q : AH → Prop} (x1 : Int32) (h : AH) (H : p_MO_livesBy Q x1 h) : Att G T1 m_MO_livesBy (d + 6) 0 [some (.ref 59), some (.int x1), none] [] h 0 0 (vQ Q) := by
  refine A_iconst 0 (by decide) d_MO_livesBy_0 ?_
  refine A_istore_n [some (.ref 59), some (.int x1), some (.int 0)] d_MO_livesBy_1 (by decide) rfl rfl ?_
  obtain ⟨n9, H⟩ := H
  exact r_MO_livesBy_2   n9 _ _ _ H
set_option maxRecDepth 20000 in
theorem ok_MO_livesBy {G : GG} {d : Nat} {Q : AH → Prop} {x1 : Int32} {h : AH} (H : p_MO_livesBy Q x1 h) : WP G T1 m_MO_livesBy (d + 6) [.ref 59, .int x1] h 0 0 (vQ Q) := by
  exact WP.enter 1 (by decide) rfl rfl (r_MO_livesBy_0 x1 h H)
theorem d_Reader_next_0 : decode prog_9_method_11_code 0 = .ok (.aload_n 0, 1) := by decide +kernel
theorem d_Reader_next_1 : decode prog_9_method_11_code 1 = .ok (.getfield 34, 3) := by decide +kernel
theorem d_Reader_next_4 : decode prog_9_method_11_code 4 = .ok (.aload_n 0, 1) := by decide +kernel
theorem d_Reader_next_5 : decode prog_9_method_11_code 5 = .ok (.getfield 21, 3) := by decide +kernel
theorem d_Reader_next_8 : decode prog_9_method_11_code 8 = .ok (.if_icmp .ge 44, 3) := by decide +kernel
theorem d_Reader_next_11 : decode prog_9_method_11_code 11 = .ok (.aload_n 0, 1) := by decide +kernel
theorem d_Reader_next_12 : decode prog_9_method_11_code 12 = .ok (.getfield 9, 3) := by decide +kernel
theorem d_Reader_next_15 : decode prog_9_method_11_code 15 = .ok (.aload_n 0, 1) := by decide +kernel
theorem d_Reader_next_16 : decode prog_9_method_11_code 16 = .ok (.getfield 34, 3) := by decide +kernel
theorem d_Reader_next_19 : decode prog_9_method_11_code 19 = .ok (.iaload, 1) := by decide +kernel
theorem d_Reader_next_20 : decode prog_9_method_11_code 20 = .ok (.bipush 32, 2) := by decide +kernel
theorem d_Reader_next_22 : decode prog_9_method_11_code 22 = .ok (.if_icmp .eq 17, 3) := by decide +kernel
theorem d_Reader_next_25 : decode prog_9_method_11_code 25 = .ok (.aload_n 0, 1) := by decide +kernel
theorem d_Reader_next_26 : decode prog_9_method_11_code 26 = .ok (.getfield 9, 3) := by decide +kernel
theorem d_Reader_next_29 : decode prog_9_method_11_code 29 = .ok (.aload_n 0, 1) := by decide +kernel
theorem d_Reader_next_30 : decode prog_9_method_11_code 30 = .ok (.getfield 34, 3) := by decide +kernel
theorem d_Reader_next_33 : decode prog_9_method_11_code 33 = .ok (.iaload, 1) := by decide +kernel
theorem d_Reader_next_34 : decode prog_9_method_11_code 34 = .ok (.bipush 10, 2) := by decide +kernel
theorem d_Reader_next_36 : decode prog_9_method_11_code 36 = .ok (.if_icmp .ne 16, 3) := by decide +kernel
theorem d_Reader_next_39 : decode prog_9_method_11_code 39 = .ok (.aload_n 0, 1) := by decide +kernel
theorem d_Reader_next_40 : decode prog_9_method_11_code 40 = .ok (.dup, 1) := by decide +kernel
theorem d_Reader_next_41 : decode prog_9_method_11_code 41 = .ok (.getfield 34, 3) := by decide +kernel
theorem d_Reader_next_44 : decode prog_9_method_11_code 44 = .ok (.iconst 1, 1) := by decide +kernel
theorem d_Reader_next_45 : decode prog_9_method_11_code 45 = .ok (.iadd, 1) := by decide +kernel
theorem d_Reader_next_46 : decode prog_9_method_11_code 46 = .ok (.putfield 34, 3) := by decide +kernel
theorem d_Reader_next_49 : decode prog_9_method_11_code 49 = .ok (.goto (-49), 3) := by decide +kernel
theorem d_Reader_next_52 : decode prog_9_method_11_code 52 = .ok (.aload_n 0, 1) := by decide +kernel
theorem d_Reader_next_53 : decode prog_9_method_11_code 53 = .ok (.aload_n 0, 1) := by decide +kernel
theorem d_Reader_next_54 : decode prog_9_method_11_code 54 = .ok (.getfield 34, 3) := by decide +kernel
theorem d_Reader_next_57 : decode prog_9_method_11_code 57 = .ok (.putfield 50, 3) := by decide +kernel
theorem d_Reader_next_60 : decode prog_9_method_11_code 60 = .ok (.aload_n 0, 1) := by decide +kernel
theorem d_Reader_next_61 : decode prog_9_method_11_code 61 = .ok (.getfield 34, 3) := by decide +kernel
theorem d_Reader_next_64 : decode prog_9_method_11_code 64 = .ok (.aload_n 0, 1) := by decide +kernel
theorem d_Reader_next_65 : decode prog_9_method_11_code 65 = .ok (.getfield 21, 3) := by decide +kernel
theorem d_Reader_next_68 : decode prog_9_method_11_code 68 = .ok (.if_icmp .lt 11, 3) := by decide +kernel
theorem d_Reader_next_71 : decode prog_9_method_11_code 71 = .ok (.aload_n 0, 1) := by decide +kernel
theorem d_Reader_next_72 : decode prog_9_method_11_code 72 = .ok (.iconst 0, 1) := by decide +kernel
theorem d_Reader_next_73 : decode prog_9_method_11_code 73 = .ok (.putfield 53, 3) := by decide +kernel
theorem d_Reader_next_76 : decode prog_9_method_11_code 76 = .ok (.goto 51, 3) := by decide +kernel
theorem d_Reader_next_79 : decode prog_9_method_11_code 79 = .ok (.aload_n 0, 1) := by decide +kernel
theorem d_Reader_next_80 : decode prog_9_method_11_code 80 = .ok (.getfield 9, 3) := by decide +kernel
theorem d_Reader_next_83 : decode prog_9_method_11_code 83 = .ok (.aload_n 0, 1) := by decide +kernel
theorem d_Reader_next_84 : decode prog_9_method_11_code 84 = .ok (.getfield 34, 3) := by decide +kernel
theorem d_Reader_next_87 : decode prog_9_method_11_code 87 = .ok (.iaload, 1) := by decide +kernel
theorem d_Reader_next_88 : decode prog_9_method_11_code 88 = .ok (.invokestatic 84, 3) := by decide +kernel
theorem d_Reader_next_91 : decode prog_9_method_11_code 91 = .ok (.ifCond .eq 10, 3) := by decide +kernel
theorem d_Reader_next_94 : decode prog_9_method_11_code 94 = .ok (.aload_n 0, 1) := by decide +kernel
theorem d_Reader_next_95 : decode prog_9_method_11_code 95 = .ok (.invokevirtual 87, 3) := by decide +kernel
theorem d_Reader_next_98 : decode prog_9_method_11_code 98 = .ok (.goto 29, 3) := by decide +kernel
theorem d_Reader_next_101 : decode prog_9_method_11_code 101 = .ok (.aload_n 0, 1) := by decide +kernel
theorem d_Reader_next_102 : decode prog_9_method_11_code 102 = .ok (.getfield 9, 3) := by decide +kernel
theorem d_Reader_next_105 : decode prog_9_method_11_code 105 = .ok (.aload_n 0, 1) := by decide +kernel
theorem d_Reader_next_106 : decode prog_9_method_11_code 106 = .ok (.getfield 34, 3) := by decide +kernel
theorem d_Reader_next_109 : decode prog_9_method_11_code 109 = .ok (.iaload, 1) := by decide +kernel
theorem d_Reader_next_110 : decode prog_9_method_11_code 110 = .ok (.invokestatic 90, 3) := by decide +kernel
theorem d_Reader_next_113 : decode prog_9_method_11_code 113 = .ok (.ifCond .eq 10, 3) := by decide +kernel
theorem d_Reader_next_116 : decode prog_9_method_11_code 116 = .ok (.aload_n 0, 1) := by decide +kernel
theorem d_Reader_next_117 : decode prog_9_method_11_code 117 = .ok (.invokevirtual 93, 3) := by decide +kernel
theorem d_Reader_next_120 : decode prog_9_method_11_code 120 = .ok (.goto 7, 3) := by decide +kernel
theorem d_Reader_next_123 : decode prog_9_method_11_code 123 = .ok (.aload_n 0, 1) := by decide +kernel
theorem d_Reader_next_124 : decode prog_9_method_11_code 124 = .ok (.invokevirtual 96, 3) := by decide +kernel
theorem d_Reader_next_127 : decode prog_9_method_11_code 127 = .ok (.return_, 1) := by decide +kernel
def p_Reader_next_52 (Q : AH → Prop) (h : AH) : Prop := (((h.1 25 3) < (h.1 25 1) → 0 < rR T1 h 25 0 ∧ vA T1 h (rR T1 h 25 0 - 1) ∧ (rS T1 h (rR T1 h 25 0 - 1)).1 = 100 ∧ inb (h.1 25 3) ((rS T1 h (rR T1 h 25 0 - 1)).2) ∧ p_Reader_isLetter (fun r6 h5 => ((r6 = 0 → 0 < rR T1 h5 25 0 ∧ vA T1 h5 (rR T1 h5 25 0 - 1) ∧ (rS T1 h5 (rR T1 h5 25 0 - 1)).1 = 100 ∧ inb (h5.1 25 3) ((rS T1 h5 (rR T1 h5 25 0 - 1)).2) ∧ p_Reader_isDigit (fun r12 h11 => ((r12 = 0 → p_Reader_sign (fun h13 => Q h13) h11) ∧ (¬ r12 = 0 → p_Reader_number (fun h14 => Q h14) h11))) (h5.1 (rR T1 h5 25 0 - 1) (h5.1 25 3)) h5) ∧ (¬ r6 = 0 → p_Reader_word (fun h15 => Q h15) h5))) ((wI h 25 4 (h.1 25 3)).1 (rR T1 h 25 0 - 1) (h.1 25 3)) (wI h 25 4 (h.1 25 3))) ∧ (¬ (h.1 25 3) < (h.1 25 1) → Q (wI (wI h 25 4 (h.1 25 3)) 25 5 0)))
def p_Reader_next_39 (Q : AH → Prop) (K0 : AH → Prop) (h : AH) : Prop := K0 (wI h 25 3 ((h.1 25 3) + 1))
def p_Reader_next_0 (Q : AH → Prop) : Nat → AH → Prop
  | 0 => fun  _ => False
  | n + 1 => fun h => let K0 := p_Reader_next_0 Q n; (((h.1 25 1) ≤ (h.1 25 3) → p_Reader_next_52 Q   h) ∧ (¬ (h.1 25 1) ≤ (h.1 25 3) → 0 < rR T1 h 25 0 ∧ vA T1 h (rR T1 h 25 0 - 1) ∧ (rS T1 h (rR T1 h 25 0 - 1)).1 = 100 ∧ inb (h.1 25 3) ((rS T1 h (rR T1 h 25 0 - 1)).2) ∧ (((h.1 (rR T1 h 25 0 - 1) (h.1 25 3)) = 32 → p_Reader_next_39 Q  K0 h) ∧ (¬ (h.1 (rR T1 h 25 0 - 1) (h.1 25 3)) = 32 → ((¬ (h.1 (rR T1 h 25 0 - 1) (h.1 25 3)) = 10 → p_Reader_next_52 Q   h) ∧ ((h.1 (rR T1 h 25 0 - 1) (h.1 25 3)) = 10 → p_Reader_next_39 Q  K0 h))))))
def p_Reader_next (Q : AH → Prop) (h : AH) : Prop := ∃ n, p_Reader_next_0 Q   n h
set_option maxRecDepth 20000 in
theorem r_Reader_next_52 {G : GG} {d : Nat} {Q : AH → Prop} (h : AH) (H : p_Reader_next_52 Q h) : Att G T1 m_Reader_next (d + 7) 52 [some (.ref 25)] [] h 0 0 (vQ Q) := by
  refine A_aload_n d_Reader_next_52 rfl ?_
  refine A_aload_n d_Reader_next_53 rfl ?_
  refine A_get (v := .int (h.1 25 3)) d_Reader_next_54 (fo_Reader_34_7 rfl) (vA_s (by decide)) rfl (by first | rfl | (show Value.int _ = Value.int _; simp [wI, wL, wR, wC, up])) ?_
  refine A_putI (k := 4) d_Reader_next_57 (fo_Reader_50_7 rfl) (Or.inr ⟨rfl, _, ft_7_4⟩) (fun z => by cases z) rfl (vA_s (by decide)) rfl rfl rfl ?_
  refine A_aload_n d_Reader_next_60 rfl ?_
  refine A_get (v := .int (h.1 25 3)) d_Reader_next_61 (fo_Reader_34_7 rfl) (vA_s (by decide)) rfl (by first | rfl | (show Value.int _ = Value.int _; simp [wI, wL, wR, wC, up])) ?_
  refine A_aload_n d_Reader_next_64 rfl ?_
  refine A_get (v := .int (h.1 25 1)) d_Reader_next_65 (fo_Reader_21_7 rfl) (vA_s (by decide)) rfl (by first | rfl | (show Value.int _ = Value.int _; simp [wI, wL, wR, wC, up])) ?_
  refine A_icmp_lt 79 d_Reader_next_68 (by decide) (fun z => ?_) (fun z => ?_)
  · have H := H.1 z
    refine A_aload_n d_Reader_next_79 rfl ?_
    obtain ⟨c1, H⟩ := H
    refine A_get (v := .ref (rR T1 h 25 0 - 1)) d_Reader_next_80 (fo_Reader_9_7 rfl) (vA_s (by decide)) rfl (vR_pos c1) ?_
    refine A_aload_n d_Reader_next_83 rfl ?_
    refine A_get (v := .int (h.1 25 3)) d_Reader_next_84 (fo_Reader_34_7 rfl) (vA_s (by decide)) rfl (by first | rfl | (show Value.int _ = Value.int _; simp [wI, wL, wR, wC, up])) ?_
    obtain ⟨c2, H⟩ := H
    obtain ⟨c3, H⟩ := H
    obtain ⟨c4, H⟩ := H
    refine A_ialdv (n := _) (v := ((wI h 25 4 (h.1 25 3)).1 (rR T1 h 25 0 - 1) (h.1 25 3))) d_Reader_next_87 c2 (rS_ex c3) c4 (by first | rfl | simp [wI, wL, wR, wC, up]) ?_
    refine A_cI [.int ((wI h 25 4 (h.1 25 3)).1 (rR T1 h 25 0 - 1) (h.1 25 3))] [] (ct_Reader_84 rfl) d_Reader_next_88 rfl rfl (by decide) (Nat.le_of_ble_eq_true rfl) trivial (ok_Reader_isLetter (d := d + 5) H) (fun r6 h5 H => ?_)
    refine A_if_eq 101 d_Reader_next_91 (by decide) (fun z => ?_) (fun z => ?_)
    · have H := H.1 z
      refine A_aload_n d_Reader_next_101 rfl ?_
      obtain ⟨c7, H⟩ := H
      refine A_get (v := .ref (rR T1 h5 25 0 - 1)) d_Reader_next_102 (fo_Reader_9_7 rfl) (vA_s (by decide)) rfl (vR_pos c7) ?_
      refine A_aload_n d_Reader_next_105 rfl ?_
      refine A_get (v := .int (h5.1 25 3)) d_Reader_next_106 (fo_Reader_34_7 rfl) (vA_s (by decide)) rfl (by first | rfl | (show Value.int _ = Value.int _; simp [wI, wL, wR, wC, up])) ?_
      obtain ⟨c8, H⟩ := H
      obtain ⟨c9, H⟩ := H
      obtain ⟨c10, H⟩ := H
      refine A_ialdv (n := _) (v := (h5.1 (rR T1 h5 25 0 - 1) (h5.1 25 3))) d_Reader_next_109 c8 (rS_ex c9) c10 rfl ?_
      refine A_cI [.int (h5.1 (rR T1 h5 25 0 - 1) (h5.1 25 3))] [] (ct_Reader_90 rfl) d_Reader_next_110 rfl rfl (by decide) (Nat.le_of_ble_eq_true rfl) trivial (ok_Reader_isDigit (d := d + 5) H) (fun r12 h11 H => ?_)
      refine A_if_eq 123 d_Reader_next_113 (by decide) (fun z => ?_) (fun z => ?_)
      · have H := H.1 z
        refine A_aload_n d_Reader_next_123 rfl ?_
        refine A_cV [.ref 25] [] (ct_Reader_96 rfl) d_Reader_next_124 rfl rfl (by decide) (Nat.le_of_ble_eq_true rfl) (rcA_o (c := 7) rfl (vA_s (by decide)) rfl (by decide) rfl) (ok_Reader_sign (d := d + 6) H) (fun h13 H => ?_)
        exact A_ret d_Reader_next_127 rfl H
      · have H := H.2 z
        refine A_aload_n d_Reader_next_116 rfl ?_
        refine A_cV [.ref 25] [] (ct_Reader_93 rfl) d_Reader_next_117 rfl rfl (by decide) (Nat.le_of_ble_eq_true rfl) (rcA_o (c := 7) rfl (vA_s (by decide)) rfl (by decide) rfl) (ok_Reader_number (d := d + 4) H) (fun h14 H => ?_)
        refine A_goto 127 d_Reader_next_120 (by decide) ?_
        exact A_ret d_Reader_next_127 rfl H
    · have H := H.2 z
      refine A_aload_n d_Reader_next_94 rfl ?_
      refine A_cV [.ref 25] [] (ct_Reader_87 rfl) d_Reader_next_95 rfl rfl (by decide) (Nat.le_of_ble_eq_true rfl) (rcA_o (c := 7) rfl (vA_s (by decide)) rfl (by decide) rfl) (ok_Reader_word (d := d) H) (fun h15 H => ?_)
      refine A_goto 127 d_Reader_next_98 (by decide) ?_
      exact A_ret d_Reader_next_127 rfl H
  · have H := H.2 z
    refine A_aload_n d_Reader_next_71 rfl ?_
    refine A_iconst 0 (by decide) d_Reader_next_72 ?_
    refine A_putI (k := 5) d_Reader_next_73 (fo_Reader_53_7 rfl) (Or.inr ⟨rfl, _, ft_7_5⟩) (fun z => by cases z) rfl (vA_s (by decide)) rfl rfl rfl ?_
    refine A_goto 127 d_Reader_next_76 (by decide) ?_
    exact A_ret d_Reader_next_127 rfl H
set_option maxRecDepth 20000 in
theorem r_Reader_next_39 {G : GG} {d : Nat} {Q : AH → Prop} {K0 : AH → Prop} (k0 : ∀ h, K0 h → Att G T1 m_Reader_next (d + 7) 0 [some (.ref 25)] [] h 0 0 (vQ Q)) (h : AH) (H : p_Reader_next_39 Q K0 h) : Att G T1 m_Reader_next (d + 7) 39 [some (.ref 25)] [] h 0 0 (vQ Q) := by
  refine A_aload_n d_Reader_next_39 rfl ?_
  refine A_dup rfl d_Reader_next_40 ?_
  refine A_get (v := .int (h.1 25 3)) d_Reader_next_41 (fo_Reader_34_7 rfl) (vA_s (by decide)) rfl (by first | rfl | (show Value.int _ = Value.int _; simp [wI, wL, wR, wC, up])) ?_
  refine A_iconst 1 (by decide) d_Reader_next_44 ?_
  refine A_iadd d_Reader_next_45 ?_
  refine A_putI (k := 3) d_Reader_next_46 (fo_Reader_34_7 rfl) (Or.inr ⟨rfl, _, ft_7_3⟩) (fun z => by cases z) rfl (vA_s (by decide)) rfl rfl rfl ?_
  refine A_goto 0 d_Reader_next_49 (by decide) ?_
  exact k0 _ H
set_option maxRecDepth 20000 in
theorem r_Reader_next_0 {G : GG} {d : Nat} {Q : AH → Prop} : ∀ (n : Nat) (h : AH), p_Reader_next_0 Q n h → Att G T1 m_Reader_next (d + 7) 0 [some (.ref 25)] [] h 0 0 (vQ Q) := by
  intro n
  induction n with
  | zero => intro h H; exact H.elim
  | succ n k0 =>
    intro h H
    refine A_aload_n d_Reader_next_0 rfl ?_
    refine A_get (v := .int (h.1 25 3)) d_Reader_next_1 (fo_Reader_34_7 rfl) (vA_s (by decide)) rfl (by first | rfl | (show Value.int _ = Value.int _; simp [wI, wL, wR, wC, up])) ?_
    refine A_aload_n d_Reader_next_4 rfl ?_
    refine A_get (v := .int (h.1 25 1)) d_Reader_next_5 (fo_Reader_21_7 rfl) (vA_s (by decide)) rfl (by first | rfl | (show Value.int _ = Value.int _; simp [wI, wL, wR, wC, up])) ?_
    refine A_icmp_ge 52 d_Reader_next_8 (by decide) (fun z => ?_) (fun z => ?_)
    · have H := H.1 z
      exact r_Reader_next_52   _ H
    · have H := H.2 z
      refine A_aload_n d_Reader_next_11 rfl ?_
      obtain ⟨c1, H⟩ := H
      refine A_get (v := .ref (rR T1 h 25 0 - 1)) d_Reader_next_12 (fo_Reader_9_7 rfl) (vA_s (by decide)) rfl (vR_pos c1) ?_
      refine A_aload_n d_Reader_next_15 rfl ?_
      refine A_get (v := .int (h.1 25 3)) d_Reader_next_16 (fo_Reader_34_7 rfl) (vA_s (by decide)) rfl (by first | rfl | (show Value.int _ = Value.int _; simp [wI, wL, wR, wC, up])) ?_
      obtain ⟨c2, H⟩ := H
      obtain ⟨c3, H⟩ := H
      obtain ⟨c4, H⟩ := H
      refine A_ialdv (n := _) (v := (h.1 (rR T1 h 25 0 - 1) (h.1 25 3))) d_Reader_next_19 c2 (rS_ex c3) c4 rfl ?_
      refine A_bipush 32 (by decide) d_Reader_next_20 ?_
      refine A_icmp_eq 39 d_Reader_next_22 (by decide) (fun z => ?_) (fun z => ?_)
      · have H := H.1 z
        exact r_Reader_next_39  k0 _ H
      · have H := H.2 z
        refine A_aload_n d_Reader_next_25 rfl ?_
        refine A_get (v := .ref (rR T1 h 25 0 - 1)) d_Reader_next_26 (fo_Reader_9_7 rfl) (vA_s (by decide)) rfl (vR_pos c1) ?_
        refine A_aload_n d_Reader_next_29 rfl ?_
        refine A_get (v := .int (h.1 25 3)) d_Reader_next_30 (fo_Reader_34_7 rfl) (vA_s (by decide)) rfl (by first | rfl | (show Value.int _ = Value.int _; simp [wI, wL, wR, wC, up])) ?_
        refine A_ialdv (n := _) (v := (h.1 (rR T1 h 25 0 - 1) (h.1 25 3))) d_Reader_next_33 c2 (rS_ex c3) c4 rfl ?_
        refine A_bipush 10 (by decide) d_Reader_next_34 ?_
        refine A_icmp_ne 52 d_Reader_next_36 (by decide) (fun z => ?_) (fun z => ?_)
        · have H := H.1 z
          exact r_Reader_next_52   _ H
        · have H := H.2 z
          exact r_Reader_next_39  k0 _ H
set_option maxRecDepth 20000 in
theorem r_Reader_next_e {G : GG} {d : Nat} {Q : AH → Prop} (h : AH) (H : p_Reader_next Q h) : Att G T1 m_Reader_next (d + 7) 0 [some (.ref 25)] [] h 0 0 (vQ Q) := by
  obtain ⟨n9, H⟩ := H
  exact r_Reader_next_0   n9 _ H
set_option maxRecDepth 20000 in
theorem ok_Reader_next {G : GG} {d : Nat} {Q : AH → Prop} {h : AH} (H : p_Reader_next Q h) : WP G T1 m_Reader_next (d + 7) [.ref 25] h 0 0 (vQ Q) := by
  exact WP.enter 0 (by decide) rfl rfl (r_Reader_next_e h H)
theorem d_UF_of_0 : decode prog_1_method_11_code 0 = .ok (.iload_n 1, 1) := by decide +kernel
theorem d_UF_of_1 : decode prog_1_method_11_code 1 = .ok (.invokestatic 143, 3) := by decide +kernel
theorem d_UF_of_4 : decode prog_1_method_11_code 4 = .ok (.ifCond .eq 11, 3) := by decide +kernel
theorem d_UF_of_7 : decode prog_1_method_11_code 7 = .ok (.aload_n 0, 1) := by decide +kernel
theorem d_UF_of_8 : decode prog_1_method_11_code 8 = .ok (.iload_n 2, 1) := by decide +kernel
theorem d_UF_of_9 : decode prog_1_method_11_code 9 = .ok (.invokevirtual 107, 3) := by decide +kernel
theorem d_UF_of_12 : decode prog_1_method_11_code 12 = .ok (.ifCond .ne 6, 3) := by decide +kernel
theorem d_UF_of_15 : decode prog_1_method_11_code 15 = .ok (.bipush (-5), 2) := by decide +kernel
theorem d_UF_of_17 : decode prog_1_method_11_code 17 = .ok (.ireturn, 1) := by decide +kernel
theorem d_UF_of_18 : decode prog_1_method_11_code 18 = .ok (.iload_n 3, 1) := by decide +kernel
theorem d_UF_of_19 : decode prog_1_method_11_code 19 = .ok (.iconst 0, 1) := by decide +kernel
theorem d_UF_of_20 : decode prog_1_method_11_code 20 = .ok (.iconst 4, 1) := by decide +kernel
theorem d_UF_of_21 : decode prog_1_method_11_code 21 = .ok (.invokestatic 95, 3) := by decide +kernel
theorem d_UF_of_24 : decode prog_1_method_11_code 24 = .ok (.ifCond .ne 6, 3) := by decide +kernel
theorem d_UF_of_27 : decode prog_1_method_11_code 27 = .ok (.bipush (-7), 2) := by decide +kernel
theorem d_UF_of_29 : decode prog_1_method_11_code 29 = .ok (.ireturn, 1) := by decide +kernel
theorem d_UF_of_30 : decode prog_1_method_11_code 30 = .ok (.aload_n 0, 1) := by decide +kernel
theorem d_UF_of_31 : decode prog_1_method_11_code 31 = .ok (.invokevirtual 110, 3) := by decide +kernel
theorem d_UF_of_34 : decode prog_1_method_11_code 34 = .ok (.aload_n 0, 1) := by decide +kernel
theorem d_UF_of_35 : decode prog_1_method_11_code 35 = .ok (.getfield 44, 3) := by decide +kernel
theorem d_UF_of_38 : decode prog_1_method_11_code 38 = .ok (.iload_n 1, 1) := by decide +kernel
theorem d_UF_of_39 : decode prog_1_method_11_code 39 = .ok (.invokevirtual 146, 3) := by decide +kernel
theorem d_UF_of_42 : decode prog_1_method_11_code 42 = .ok (.iload_n 3, 1) := by decide +kernel
theorem d_UF_of_43 : decode prog_1_method_11_code 43 = .ok (.tableswitch 72 0 3 #[29, 42, 52, 62], 29) := by decide +kernel
theorem d_UF_of_72 : decode prog_1_method_11_code 72 = .ok (.aload_n 0, 1) := by decide +kernel
theorem d_UF_of_73 : decode prog_1_method_11_code 73 = .ok (.getfield 44, 3) := by decide +kernel
theorem d_UF_of_76 : decode prog_1_method_11_code 76 = .ok (.getfield 149, 3) := by decide +kernel
theorem d_UF_of_79 : decode prog_1_method_11_code 79 = .ok (.getfield 121, 3) := by decide +kernel
theorem d_UF_of_82 : decode prog_1_method_11_code 82 = .ok (.iload_n 2, 1) := by decide +kernel
theorem d_UF_of_83 : decode prog_1_method_11_code 83 = .ok (.iaload, 1) := by decide +kernel
theorem d_UF_of_84 : decode prog_1_method_11_code 84 = .ok (.ireturn, 1) := by decide +kernel
theorem d_UF_of_85 : decode prog_1_method_11_code 85 = .ok (.aload_n 0, 1) := by decide +kernel
theorem d_UF_of_86 : decode prog_1_method_11_code 86 = .ok (.getfield 44, 3) := by decide +kernel
theorem d_UF_of_89 : decode prog_1_method_11_code 89 = .ok (.getfield 152, 3) := by decide +kernel
theorem d_UF_of_92 : decode prog_1_method_11_code 92 = .ok (.iload_n 2, 1) := by decide +kernel
theorem d_UF_of_93 : decode prog_1_method_11_code 93 = .ok (.iaload, 1) := by decide +kernel
theorem d_UF_of_94 : decode prog_1_method_11_code 94 = .ok (.ireturn, 1) := by decide +kernel
theorem d_UF_of_95 : decode prog_1_method_11_code 95 = .ok (.aload_n 0, 1) := by decide +kernel
theorem d_UF_of_96 : decode prog_1_method_11_code 96 = .ok (.getfield 44, 3) := by decide +kernel
theorem d_UF_of_99 : decode prog_1_method_11_code 99 = .ok (.getfield 155, 3) := by decide +kernel
theorem d_UF_of_102 : decode prog_1_method_11_code 102 = .ok (.iload_n 2, 1) := by decide +kernel
theorem d_UF_of_103 : decode prog_1_method_11_code 103 = .ok (.iaload, 1) := by decide +kernel
theorem d_UF_of_104 : decode prog_1_method_11_code 104 = .ok (.ireturn, 1) := by decide +kernel
theorem d_UF_of_105 : decode prog_1_method_11_code 105 = .ok (.aload_n 0, 1) := by decide +kernel
theorem d_UF_of_106 : decode prog_1_method_11_code 106 = .ok (.getfield 44, 3) := by decide +kernel
theorem d_UF_of_109 : decode prog_1_method_11_code 109 = .ok (.getfield 158, 3) := by decide +kernel
theorem d_UF_of_112 : decode prog_1_method_11_code 112 = .ok (.iload_n 2, 1) := by decide +kernel
theorem d_UF_of_113 : decode prog_1_method_11_code 113 = .ok (.iaload, 1) := by decide +kernel
theorem d_UF_of_114 : decode prog_1_method_11_code 114 = .ok (.ireturn, 1) := by decide +kernel
theorem d_UF_of_115 : decode prog_1_method_11_code 115 = .ok (.aload_n 0, 1) := by decide +kernel
theorem d_UF_of_116 : decode prog_1_method_11_code 116 = .ok (.getfield 44, 3) := by decide +kernel
theorem d_UF_of_119 : decode prog_1_method_11_code 119 = .ok (.iload_n 2, 1) := by decide +kernel
theorem d_UF_of_120 : decode prog_1_method_11_code 120 = .ok (.iload_n 1, 1) := by decide +kernel
theorem d_UF_of_121 : decode prog_1_method_11_code 121 = .ok (.invokevirtual 161, 3) := by decide +kernel
theorem d_UF_of_124 : decode prog_1_method_11_code 124 = .ok (.ireturn, 1) := by decide +kernel
def p_UF_of (Q : Int32 → AH → Prop) (x1 : Int32) (x2 : Int32) (x3 : Int32) (h : AH) : Prop := p_UF_isSpan (fun r2 h1 => ((r2 = 0 → Q (-5) h1) ∧ (¬ r2 = 0 → p_UF_isHouse (fun r4 h3 => ((¬ r4 = 0 → p_UF_within (fun r6 h5 => ((¬ r6 = 0 → p_UF_ready (fun h7 => p_Dusk_go (fun h8 => ((x3 = 0 → inb x2 7 ∧ Q (h8.1 15 x2) h8) ∧ (x3 = 1 → inb x2 7 ∧ Q (h8.1 20 x2) h8) ∧ (x3 = 2 → inb x2 7 ∧ Q (h8.1 22 x2) h8) ∧ (x3 = 3 → inb x2 7 ∧ Q (h8.1 21 x2) h8) ∧ (¬ x3 = 0 → ¬ x3 = 1 → ¬ x3 = 2 → ¬ x3 = 3 → p_Dusk_weighs (fun r14 h13 => Q r14 h13) x2 x1 h8))) x1 h7) h5) ∧ (r6 = 0 → Q (-7) h5))) x3 0 4 h3) ∧ (r4 = 0 → Q (-5) h3))) x2 h1))) x1 h
set_option maxRecDepth 20000 in
theorem r_UF_of_0 {G : GG} {d : Nat} {Q : Int32 → AH → Prop} (x1 : Int32) (x2 : Int32) (x3 : Int32) (h : AH) (H : p_UF_of Q x1 x2 x3 h) : Att G T1 m_UF_of (d + 7) 0 [some (.ref 0), some (.int x1), some (.int x2), some (.int x3)] [] h 0 0 (iQ Q) := by
  refine A_iload_n d_UF_of_0 rfl ?_
  refine A_cI [.int x1] [] (ct_UF_143 rfl) d_UF_of_1 rfl rfl (by decide) (Nat.le_of_ble_eq_true rfl) trivial (ok_UF_isSpan (d := d + 5) H) (fun r2 h1 H => ?_)
  refine A_if_eq 15 d_UF_of_4 (by decide) (fun z => ?_) (fun z => ?_)
  · have H := H.1 z
    refine A_bipush (-5) (by decide) d_UF_of_15 ?_
    exact A_iret d_UF_of_17 rfl rfl H
  · have H := H.2 z
    refine A_aload_n d_UF_of_7 rfl ?_
    refine A_iload_n d_UF_of_8 rfl ?_
    refine A_cI [.ref 0, .int x2] [] (ct_UF_107 rfl) d_UF_of_9 rfl rfl (by decide) (Nat.le_of_ble_eq_true rfl) (rcA_o (c := 11) rfl (vA_s (by decide)) rfl (by decide) rfl) (ok_UF_isHouse (d := d + 5) H) (fun r4 h3 H => ?_)
    refine A_if_ne 18 d_UF_of_12 (by decide) (fun z => ?_) (fun z => ?_)
    · have H := H.1 z
      refine A_iload_n d_UF_of_18 rfl ?_
      refine A_iconst 0 (by decide) d_UF_of_19 ?_
      refine A_iconst 4 (by decide) d_UF_of_20 ?_
      refine A_cI [.int x3, .int 0, .int 4] [] (ct_UF_95 rfl) d_UF_of_21 rfl rfl (by decide) (Nat.le_of_ble_eq_true rfl) trivial (ok_UF_within (d := d + 6) H) (fun r6 h5 H => ?_)
      refine A_if_ne 30 d_UF_of_24 (by decide) (fun z => ?_) (fun z => ?_)
      · have H := H.1 z
        refine A_aload_n d_UF_of_30 rfl ?_
        refine A_cV [.ref 0] [] (ct_UF_110 rfl) d_UF_of_31 rfl rfl (by decide) (Nat.le_of_ble_eq_true rfl) (rcA_o (c := 11) rfl (vA_s (by decide)) rfl (by decide) rfl) (ok_UF_ready (d := d + 3) H) (fun h7 H => ?_)
        refine A_aload_n d_UF_of_34 rfl ?_
        refine A_get (v := .ref 13) d_UF_of_35 (fo_UF_44_11 rfl) (vA_s (by decide)) rfl (by first | rfl | (show Value.int _ = Value.int _; simp [wI, wL, wR, wC, up])) ?_
        refine A_iload_n d_UF_of_38 rfl ?_
        refine A_cV [.ref 13, .int x1] [] (ct_UF_146 rfl) d_UF_of_39 rfl rfl (by decide) (Nat.le_of_ble_eq_true rfl) (rcA_o (c := 2) rfl (vA_s (by decide)) rfl (by decide) rfl) (ok_Dusk_go (d := d) H) (fun h8 H => ?_)
        refine A_iload_n d_UF_of_42 rfl ?_
        by_cases z0 : x3 = 0
        · have H := H.1 z0
          refine A_tsI 72 d_UF_of_43 (by rw [z0]; decide) (by rw [z0]; decide) (by rw [z0]; rfl) (by decide) ?_
          refine A_aload_n d_UF_of_72 rfl ?_
          refine A_get (v := .ref 13) d_UF_of_73 (fo_UF_44_11 rfl) (vA_s (by decide)) rfl (by first | rfl | (show Value.int _ = Value.int _; simp [wI, wL, wR, wC, up])) ?_
          refine A_get (v := .ref 14) d_UF_of_76 (fo_UF_149_2 rfl) (vA_s (by decide)) rfl (by first | rfl | (show Value.int _ = Value.int _; simp [wI, wL, wR, wC, up])) ?_
          refine A_get (v := .ref 15) d_UF_of_79 (fo_UF_121_10 rfl) (vA_s (by decide)) rfl (by first | rfl | (show Value.int _ = Value.int _; simp [wI, wL, wR, wC, up])) ?_
          refine A_iload_n d_UF_of_82 rfl ?_
          obtain ⟨c9, H⟩ := H
          refine A_ialdv (n := 7) (v := (h8.1 15 x2)) d_UF_of_83 (vA_s (by decide)) rfl c9 rfl ?_
          exact A_iret d_UF_of_84 rfl rfl H
        · have H := H.2
          by_cases z1 : x3 = 1
          · have H := H.1 z1
            refine A_tsI 85 d_UF_of_43 (by rw [z1]; decide) (by rw [z1]; decide) (by rw [z1]; rfl) (by decide) ?_
            refine A_aload_n d_UF_of_85 rfl ?_
            refine A_get (v := .ref 13) d_UF_of_86 (fo_UF_44_11 rfl) (vA_s (by decide)) rfl (by first | rfl | (show Value.int _ = Value.int _; simp [wI, wL, wR, wC, up])) ?_
            refine A_get (v := .ref 20) d_UF_of_89 (fo_UF_152_2 rfl) (vA_s (by decide)) rfl (by first | rfl | (show Value.int _ = Value.int _; simp [wI, wL, wR, wC, up])) ?_
            refine A_iload_n d_UF_of_92 rfl ?_
            obtain ⟨c10, H⟩ := H
            refine A_ialdv (n := 7) (v := (h8.1 20 x2)) d_UF_of_93 (vA_s (by decide)) rfl c10 rfl ?_
            exact A_iret d_UF_of_94 rfl rfl H
          · have H := H.2
            by_cases z2 : x3 = 2
            · have H := H.1 z2
              refine A_tsI 95 d_UF_of_43 (by rw [z2]; decide) (by rw [z2]; decide) (by rw [z2]; rfl) (by decide) ?_
              refine A_aload_n d_UF_of_95 rfl ?_
              refine A_get (v := .ref 13) d_UF_of_96 (fo_UF_44_11 rfl) (vA_s (by decide)) rfl (by first | rfl | (show Value.int _ = Value.int _; simp [wI, wL, wR, wC, up])) ?_
              refine A_get (v := .ref 22) d_UF_of_99 (fo_UF_155_2 rfl) (vA_s (by decide)) rfl (by first | rfl | (show Value.int _ = Value.int _; simp [wI, wL, wR, wC, up])) ?_
              refine A_iload_n d_UF_of_102 rfl ?_
              obtain ⟨c11, H⟩ := H
              refine A_ialdv (n := 7) (v := (h8.1 22 x2)) d_UF_of_103 (vA_s (by decide)) rfl c11 rfl ?_
              exact A_iret d_UF_of_104 rfl rfl H
            · have H := H.2
              by_cases z3 : x3 = 3
              · have H := H.1 z3
                refine A_tsI 105 d_UF_of_43 (by rw [z3]; decide) (by rw [z3]; decide) (by rw [z3]; rfl) (by decide) ?_
                refine A_aload_n d_UF_of_105 rfl ?_
                refine A_get (v := .ref 13) d_UF_of_106 (fo_UF_44_11 rfl) (vA_s (by decide)) rfl (by first | rfl | (show Value.int _ = Value.int _; simp [wI, wL, wR, wC, up])) ?_
                refine A_get (v := .ref 21) d_UF_of_109 (fo_UF_158_2 rfl) (vA_s (by decide)) rfl (by first | rfl | (show Value.int _ = Value.int _; simp [wI, wL, wR, wC, up])) ?_
                refine A_iload_n d_UF_of_112 rfl ?_
                obtain ⟨c12, H⟩ := H
                refine A_ialdv (n := 7) (v := (h8.1 21 x2)) d_UF_of_113 (vA_s (by decide)) rfl c12 rfl ?_
                exact A_iret d_UF_of_114 rfl rfl H
              · have H := H.2
                have H := H z0 z1 z2 z3
                refine A_tsO 115 d_UF_of_43 (by have t0 := lv_neT z0 (a := 0) (by decide); have t1 := lv_neT z1 (a := 1) (by decide); have t2 := lv_neT z2 (a := 2) (by decide); have t3 := lv_neT z3 (a := 3) (by decide); omega) (by decide) ?_
                refine A_aload_n d_UF_of_115 rfl ?_
                refine A_get (v := .ref 13) d_UF_of_116 (fo_UF_44_11 rfl) (vA_s (by decide)) rfl (by first | rfl | (show Value.int _ = Value.int _; simp [wI, wL, wR, wC, up])) ?_
                refine A_iload_n d_UF_of_119 rfl ?_
                refine A_iload_n d_UF_of_120 rfl ?_
                refine A_cI [.ref 13, .int x2, .int x1] [] (ct_UF_161 rfl) d_UF_of_121 rfl rfl (by decide) (Nat.le_of_ble_eq_true rfl) (rcA_o (c := 2) rfl (vA_s (by decide)) rfl (by decide) rfl) (ok_Dusk_weighs (d := d + 3) H) (fun r14 h13 H => ?_)
                exact A_iret d_UF_of_124 rfl rfl H
      · have H := H.2 z
        refine A_bipush (-7) (by decide) d_UF_of_27 ?_
        exact A_iret d_UF_of_29 rfl rfl H
    · have H := H.2 z
      refine A_bipush (-5) (by decide) d_UF_of_15 ?_
      exact A_iret d_UF_of_17 rfl rfl H
set_option maxRecDepth 20000 in
theorem ok_UF_of {G : GG} {d : Nat} {Q : Int32 → AH → Prop} {x1 : Int32} {x2 : Int32} {x3 : Int32} {h : AH} (H : p_UF_of Q x1 x2 x3 h) : WP G T1 m_UF_of (d + 7) [.ref 0, .int x1, .int x2, .int x3] h 0 0 (iQ Q) := by
  exact WP.enter 0 (by decide) rfl rfl (r_UF_of_0 x1 x2 x3 h H)
theorem d_UF_all_0 : decode prog_1_method_12_code 0 = .ok (.iload_n 1, 1) := by decide +kernel
theorem d_UF_all_1 : decode prog_1_method_12_code 1 = .ok (.invokestatic 143, 3) := by decide +kernel
theorem d_UF_all_4 : decode prog_1_method_12_code 4 = .ok (.ifCond .ne 6, 3) := by decide +kernel
theorem d_UF_all_7 : decode prog_1_method_12_code 7 = .ok (.bipush (-5), 2) := by decide +kernel
theorem d_UF_all_9 : decode prog_1_method_12_code 9 = .ok (.ireturn, 1) := by decide +kernel
theorem d_UF_all_10 : decode prog_1_method_12_code 10 = .ok (.iload_n 2, 1) := by decide +kernel
theorem d_UF_all_11 : decode prog_1_method_12_code 11 = .ok (.iconst 0, 1) := by decide +kernel
theorem d_UF_all_12 : decode prog_1_method_12_code 12 = .ok (.iconst 3, 1) := by decide +kernel
theorem d_UF_all_13 : decode prog_1_method_12_code 13 = .ok (.invokestatic 95, 3) := by decide +kernel
theorem d_UF_all_16 : decode prog_1_method_12_code 16 = .ok (.ifCond .ne 6, 3) := by decide +kernel
theorem d_UF_all_19 : decode prog_1_method_12_code 19 = .ok (.bipush (-7), 2) := by decide +kernel
theorem d_UF_all_21 : decode prog_1_method_12_code 21 = .ok (.ireturn, 1) := by decide +kernel
theorem d_UF_all_22 : decode prog_1_method_12_code 22 = .ok (.aload_n 0, 1) := by decide +kernel
theorem d_UF_all_23 : decode prog_1_method_12_code 23 = .ok (.invokevirtual 110, 3) := by decide +kernel
theorem d_UF_all_26 : decode prog_1_method_12_code 26 = .ok (.aload_n 0, 1) := by decide +kernel
theorem d_UF_all_27 : decode prog_1_method_12_code 27 = .ok (.getfield 44, 3) := by decide +kernel
theorem d_UF_all_30 : decode prog_1_method_12_code 30 = .ok (.iload_n 1, 1) := by decide +kernel
theorem d_UF_all_31 : decode prog_1_method_12_code 31 = .ok (.invokevirtual 146, 3) := by decide +kernel
theorem d_UF_all_34 : decode prog_1_method_12_code 34 = .ok (.iload_n 2, 1) := by decide +kernel
theorem d_UF_all_35 : decode prog_1_method_12_code 35 = .ok (.tableswitch 55 0 2 #[25, 36, 44], 25) := by decide +kernel
theorem d_UF_all_60 : decode prog_1_method_12_code 60 = .ok (.aload_n 0, 1) := by decide +kernel
theorem d_UF_all_61 : decode prog_1_method_12_code 61 = .ok (.getfield 44, 3) := by decide +kernel
theorem d_UF_all_64 : decode prog_1_method_12_code 64 = .ok (.getfield 149, 3) := by decide +kernel
theorem d_UF_all_67 : decode prog_1_method_12_code 67 = .ok (.invokevirtual 165, 3) := by decide +kernel
theorem d_UF_all_70 : decode prog_1_method_12_code 70 = .ok (.ireturn, 1) := by decide +kernel
theorem d_UF_all_71 : decode prog_1_method_12_code 71 = .ok (.aload_n 0, 1) := by decide +kernel
theorem d_UF_all_72 : decode prog_1_method_12_code 72 = .ok (.getfield 44, 3) := by decide +kernel
theorem d_UF_all_75 : decode prog_1_method_12_code 75 = .ok (.invokevirtual 168, 3) := by decide +kernel
theorem d_UF_all_78 : decode prog_1_method_12_code 78 = .ok (.ireturn, 1) := by decide +kernel
theorem d_UF_all_79 : decode prog_1_method_12_code 79 = .ok (.aload_n 0, 1) := by decide +kernel
theorem d_UF_all_80 : decode prog_1_method_12_code 80 = .ok (.getfield 44, 3) := by decide +kernel
theorem d_UF_all_83 : decode prog_1_method_12_code 83 = .ok (.getfield 149, 3) := by decide +kernel
theorem d_UF_all_86 : decode prog_1_method_12_code 86 = .ok (.invokevirtual 171, 3) := by decide +kernel
theorem d_UF_all_89 : decode prog_1_method_12_code 89 = .ok (.ireturn, 1) := by decide +kernel
theorem d_UF_all_90 : decode prog_1_method_12_code 90 = .ok (.aload_n 0, 1) := by decide +kernel
theorem d_UF_all_91 : decode prog_1_method_12_code 91 = .ok (.getfield 44, 3) := by decide +kernel
theorem d_UF_all_94 : decode prog_1_method_12_code 94 = .ok (.invokevirtual 174, 3) := by decide +kernel
theorem d_UF_all_97 : decode prog_1_method_12_code 97 = .ok (.ireturn, 1) := by decide +kernel
def p_UF_all (Q : Int32 → AH → Prop) (x1 : Int32) (x2 : Int32) (h : AH) : Prop := p_UF_isSpan (fun r2 h1 => ((¬ r2 = 0 → p_UF_within (fun r4 h3 => ((¬ r4 = 0 → p_UF_ready (fun h5 => p_Dusk_go (fun h6 => ((x2 = 0 → p_Town_downBits (fun r8 h7 => Q r8 h7) 14 h6) ∧ (x2 = 1 → p_Dusk_hitsTogether (fun r10 h9 => Q r10 h9) h6) ∧ (x2 = 2 → p_Town_highTogether (fun r12 h11 => Q r12 h11) 14 h6) ∧ (¬ x2 = 0 → ¬ x2 = 1 → ¬ x2 = 2 → p_Dusk_stillBits (fun r14 h13 => Q r14 h13) h6))) x1 h5) h3) ∧ (r4 = 0 → Q (-7) h3))) x2 0 3 h1) ∧ (r2 = 0 → Q (-5) h1))) x1 h
set_option maxRecDepth 20000 in
theorem r_UF_all_0 {G : GG} {d : Nat} {Q : Int32 → AH → Prop} (x1 : Int32) (x2 : Int32) (h : AH) (H : p_UF_all Q x1 x2 h) : Att G T1 m_UF_all (d + 7) 0 [some (.ref 0), some (.int x1), some (.int x2)] [] h 0 0 (iQ Q) := by
  refine A_iload_n d_UF_all_0 rfl ?_
  refine A_cI [.int x1] [] (ct_UF_143 rfl) d_UF_all_1 rfl rfl (by decide) (Nat.le_of_ble_eq_true rfl) trivial (ok_UF_isSpan (d := d + 5) H) (fun r2 h1 H => ?_)
  refine A_if_ne 10 d_UF_all_4 (by decide) (fun z => ?_) (fun z => ?_)
  · have H := H.1 z
    refine A_iload_n d_UF_all_10 rfl ?_
    refine A_iconst 0 (by decide) d_UF_all_11 ?_
    refine A_iconst 3 (by decide) d_UF_all_12 ?_
    refine A_cI [.int x2, .int 0, .int 3] [] (ct_UF_95 rfl) d_UF_all_13 rfl rfl (by decide) (Nat.le_of_ble_eq_true rfl) trivial (ok_UF_within (d := d + 6) H) (fun r4 h3 H => ?_)
    refine A_if_ne 22 d_UF_all_16 (by decide) (fun z => ?_) (fun z => ?_)
    · have H := H.1 z
      refine A_aload_n d_UF_all_22 rfl ?_
      refine A_cV [.ref 0] [] (ct_UF_110 rfl) d_UF_all_23 rfl rfl (by decide) (Nat.le_of_ble_eq_true rfl) (rcA_o (c := 11) rfl (vA_s (by decide)) rfl (by decide) rfl) (ok_UF_ready (d := d + 3) H) (fun h5 H => ?_)
      refine A_aload_n d_UF_all_26 rfl ?_
      refine A_get (v := .ref 13) d_UF_all_27 (fo_UF_44_11 rfl) (vA_s (by decide)) rfl (by first | rfl | (show Value.int _ = Value.int _; simp [wI, wL, wR, wC, up])) ?_
      refine A_iload_n d_UF_all_30 rfl ?_
      refine A_cV [.ref 13, .int x1] [] (ct_UF_146 rfl) d_UF_all_31 rfl rfl (by decide) (Nat.le_of_ble_eq_true rfl) (rcA_o (c := 2) rfl (vA_s (by decide)) rfl (by decide) rfl) (ok_Dusk_go (d := d) H) (fun h6 H => ?_)
      refine A_iload_n d_UF_all_34 rfl ?_
      by_cases z0 : x2 = 0
      · have H := H.1 z0
        refine A_tsI 60 d_UF_all_35 (by rw [z0]; decide) (by rw [z0]; decide) (by rw [z0]; rfl) (by decide) ?_
        refine A_aload_n d_UF_all_60 rfl ?_
        refine A_get (v := .ref 13) d_UF_all_61 (fo_UF_44_11 rfl) (vA_s (by decide)) rfl (by first | rfl | (show Value.int _ = Value.int _; simp [wI, wL, wR, wC, up])) ?_
        refine A_get (v := .ref 14) d_UF_all_64 (fo_UF_149_2 rfl) (vA_s (by decide)) rfl (by first | rfl | (show Value.int _ = Value.int _; simp [wI, wL, wR, wC, up])) ?_
        refine A_cI [.ref 14] [] (ct_UF_165 rfl) d_UF_all_67 rfl rfl (by decide) (Nat.le_of_ble_eq_true rfl) (rcA_o (c := 10) rfl (vA_s (by decide)) rfl (by decide) rfl) (ok_Town_downBits (d := d + 5) H) (fun r8 h7 H => ?_)
        exact A_iret d_UF_all_70 rfl rfl H
      · have H := H.2
        by_cases z1 : x2 = 1
        · have H := H.1 z1
          refine A_tsI 71 d_UF_all_35 (by rw [z1]; decide) (by rw [z1]; decide) (by rw [z1]; rfl) (by decide) ?_
          refine A_aload_n d_UF_all_71 rfl ?_
          refine A_get (v := .ref 13) d_UF_all_72 (fo_UF_44_11 rfl) (vA_s (by decide)) rfl (by first | rfl | (show Value.int _ = Value.int _; simp [wI, wL, wR, wC, up])) ?_
          refine A_cI [.ref 13] [] (ct_UF_168 rfl) d_UF_all_75 rfl rfl (by decide) (Nat.le_of_ble_eq_true rfl) (rcA_o (c := 2) rfl (vA_s (by decide)) rfl (by decide) rfl) (ok_Dusk_hitsTogether (d := d + 6) H) (fun r10 h9 H => ?_)
          exact A_iret d_UF_all_78 rfl rfl H
        · have H := H.2
          by_cases z2 : x2 = 2
          · have H := H.1 z2
            refine A_tsI 79 d_UF_all_35 (by rw [z2]; decide) (by rw [z2]; decide) (by rw [z2]; rfl) (by decide) ?_
            refine A_aload_n d_UF_all_79 rfl ?_
            refine A_get (v := .ref 13) d_UF_all_80 (fo_UF_44_11 rfl) (vA_s (by decide)) rfl (by first | rfl | (show Value.int _ = Value.int _; simp [wI, wL, wR, wC, up])) ?_
            refine A_get (v := .ref 14) d_UF_all_83 (fo_UF_149_2 rfl) (vA_s (by decide)) rfl (by first | rfl | (show Value.int _ = Value.int _; simp [wI, wL, wR, wC, up])) ?_
            refine A_cI [.ref 14] [] (ct_UF_171 rfl) d_UF_all_86 rfl rfl (by decide) (Nat.le_of_ble_eq_true rfl) (rcA_o (c := 10) rfl (vA_s (by decide)) rfl (by decide) rfl) (ok_Town_highTogether (d := d + 6) H) (fun r12 h11 H => ?_)
            exact A_iret d_UF_all_89 rfl rfl H
          · have H := H.2
            have H := H z0 z1 z2
            refine A_tsO 90 d_UF_all_35 (by have t0 := lv_neT z0 (a := 0) (by decide); have t1 := lv_neT z1 (a := 1) (by decide); have t2 := lv_neT z2 (a := 2) (by decide); omega) (by decide) ?_
            refine A_aload_n d_UF_all_90 rfl ?_
            refine A_get (v := .ref 13) d_UF_all_91 (fo_UF_44_11 rfl) (vA_s (by decide)) rfl (by first | rfl | (show Value.int _ = Value.int _; simp [wI, wL, wR, wC, up])) ?_
            refine A_cI [.ref 13] [] (ct_UF_174 rfl) d_UF_all_94 rfl rfl (by decide) (Nat.le_of_ble_eq_true rfl) (rcA_o (c := 2) rfl (vA_s (by decide)) rfl (by decide) rfl) (ok_Dusk_stillBits (d := d + 6) H) (fun r14 h13 H => ?_)
            exact A_iret d_UF_all_97 rfl rfl H
    · have H := H.2 z
      refine A_bipush (-7) (by decide) d_UF_all_19 ?_
      exact A_iret d_UF_all_21 rfl rfl H
  · have H := H.2 z
    refine A_bipush (-5) (by decide) d_UF_all_7 ?_
    exact A_iret d_UF_all_9 rfl rfl H
set_option maxRecDepth 20000 in
theorem ok_UF_all {G : GG} {d : Nat} {Q : Int32 → AH → Prop} {x1 : Int32} {x2 : Int32} {h : AH} (H : p_UF_all Q x1 x2 h) : WP G T1 m_UF_all (d + 7) [.ref 0, .int x1, .int x2] h 0 0 (iQ Q) := by
  exact WP.enter 0 (by decide) rfl rfl (r_UF_all_0 x1 x2 h H)
theorem d_UF_when_0 : decode prog_1_method_13_code 0 = .ok (.aload_n 0, 1) := by decide +kernel
theorem d_UF_when_1 : decode prog_1_method_13_code 1 = .ok (.iload_n 1, 1) := by decide +kernel
theorem d_UF_when_2 : decode prog_1_method_13_code 2 = .ok (.invokevirtual 107, 3) := by decide +kernel
theorem d_UF_when_5 : decode prog_1_method_13_code 5 = .ok (.ifCond .ne 6, 3) := by decide +kernel
theorem d_UF_when_8 : decode prog_1_method_13_code 8 = .ok (.bipush (-5), 2) := by decide +kernel
theorem d_UF_when_10 : decode prog_1_method_13_code 10 = .ok (.ireturn, 1) := by decide +kernel
theorem d_UF_when_11 : decode prog_1_method_13_code 11 = .ok (.aload_n 0, 1) := by decide +kernel
theorem d_UF_when_12 : decode prog_1_method_13_code 12 = .ok (.invokevirtual 110, 3) := by decide +kernel
theorem d_UF_when_15 : decode prog_1_method_13_code 15 = .ok (.aload_n 0, 1) := by decide +kernel
theorem d_UF_when_16 : decode prog_1_method_13_code 16 = .ok (.getfield 44, 3) := by decide +kernel
theorem d_UF_when_19 : decode prog_1_method_13_code 19 = .ok (.iload_n 1, 1) := by decide +kernel
theorem d_UF_when_20 : decode prog_1_method_13_code 20 = .ok (.invokevirtual 177, 3) := by decide +kernel
theorem d_UF_when_23 : decode prog_1_method_13_code 23 = .ok (.ireturn, 1) := by decide +kernel
def p_UF_when (Q : Int32 → AH → Prop) (x1 : Int32) (h : AH) : Prop := p_UF_isHouse (fun r2 h1 => ((¬ r2 = 0 → p_UF_ready (fun h3 => p_Dusk_firstDown (fun r5 h4 => Q r5 h4) x1 h3) h1) ∧ (r2 = 0 → Q (-5) h1))) x1 h
set_option maxRecDepth 20000 in
theorem r_UF_when_0 {G : GG} {d : Nat} {Q : Int32 → AH → Prop} (x1 : Int32) (h : AH) (H : p_UF_when Q x1 h) : Att G T1 m_UF_when (d + 7) 0 [some (.ref 0), some (.int x1)] [] h 0 0 (iQ Q) := by
  refine A_aload_n d_UF_when_0 rfl ?_
  refine A_iload_n d_UF_when_1 rfl ?_
  refine A_cI [.ref 0, .int x1] [] (ct_UF_107 rfl) d_UF_when_2 rfl rfl (by decide) (Nat.le_of_ble_eq_true rfl) (rcA_o (c := 11) rfl (vA_s (by decide)) rfl (by decide) rfl) (ok_UF_isHouse (d := d + 5) H) (fun r2 h1 H => ?_)
  refine A_if_ne 11 d_UF_when_5 (by decide) (fun z => ?_) (fun z => ?_)
  · have H := H.1 z
    refine A_aload_n d_UF_when_11 rfl ?_
    refine A_cV [.ref 0] [] (ct_UF_110 rfl) d_UF_when_12 rfl rfl (by decide) (Nat.le_of_ble_eq_true rfl) (rcA_o (c := 11) rfl (vA_s (by decide)) rfl (by decide) rfl) (ok_UF_ready (d := d + 3) H) (fun h3 H => ?_)
    refine A_aload_n d_UF_when_15 rfl ?_
    refine A_get (v := .ref 13) d_UF_when_16 (fo_UF_44_11 rfl) (vA_s (by decide)) rfl (by first | rfl | (show Value.int _ = Value.int _; simp [wI, wL, wR, wC, up])) ?_
    refine A_iload_n d_UF_when_19 rfl ?_
    refine A_cI [.ref 13, .int x1] [] (ct_UF_177 rfl) d_UF_when_20 rfl rfl (by decide) (Nat.le_of_ble_eq_true rfl) (rcA_o (c := 2) rfl (vA_s (by decide)) rfl (by decide) rfl) (ok_Dusk_firstDown (d := d) H) (fun r5 h4 H => ?_)
    exact A_iret d_UF_when_23 rfl rfl H
  · have H := H.2 z
    refine A_bipush (-5) (by decide) d_UF_when_8 ?_
    exact A_iret d_UF_when_10 rfl rfl H
set_option maxRecDepth 20000 in
theorem ok_UF_when {G : GG} {d : Nat} {Q : Int32 → AH → Prop} {x1 : Int32} {h : AH} (H : p_UF_when Q x1 h) : WP G T1 m_UF_when (d + 7) [.ref 0, .int x1] h 0 0 (iQ Q) := by
  exact WP.enter 0 (by decide) rfl rfl (r_UF_when_0 x1 h H)
theorem d_UF_first_0 : decode prog_1_method_14_code 0 = .ok (.iload_n 1, 1) := by decide +kernel
theorem d_UF_first_1 : decode prog_1_method_14_code 1 = .ok (.iconst 0, 1) := by decide +kernel
theorem d_UF_first_2 : decode prog_1_method_14_code 2 = .ok (.iconst 1, 1) := by decide +kernel
theorem d_UF_first_3 : decode prog_1_method_14_code 3 = .ok (.invokestatic 95, 3) := by decide +kernel
theorem d_UF_first_6 : decode prog_1_method_14_code 6 = .ok (.ifCond .ne 6, 3) := by decide +kernel
theorem d_UF_first_9 : decode prog_1_method_14_code 9 = .ok (.bipush (-2), 2) := by decide +kernel
theorem d_UF_first_11 : decode prog_1_method_14_code 11 = .ok (.ireturn, 1) := by decide +kernel
theorem d_UF_first_12 : decode prog_1_method_14_code 12 = .ok (.iconst (-1), 1) := by decide +kernel
theorem d_UF_first_13 : decode prog_1_method_14_code 13 = .ok (.istore_n 2, 1) := by decide +kernel
theorem d_UF_first_14 : decode prog_1_method_14_code 14 = .ok (.iconst (-1), 1) := by decide +kernel
theorem d_UF_first_15 : decode prog_1_method_14_code 15 = .ok (.istore_n 3, 1) := by decide +kernel
theorem d_UF_first_16 : decode prog_1_method_14_code 16 = .ok (.iconst 0, 1) := by decide +kernel
theorem d_UF_first_17 : decode prog_1_method_14_code 17 = .ok (.istore 4, 2) := by decide +kernel
theorem d_UF_first_19 : decode prog_1_method_14_code 19 = .ok (.iload 4, 2) := by decide +kernel
theorem d_UF_first_21 : decode prog_1_method_14_code 21 = .ok (.aload_n 0, 1) := by decide +kernel
theorem d_UF_first_22 : decode prog_1_method_14_code 22 = .ok (.getfield 34, 3) := by decide +kernel
theorem d_UF_first_25 : decode prog_1_method_14_code 25 = .ok (.getfield 80, 3) := by decide +kernel
theorem d_UF_first_28 : decode prog_1_method_14_code 28 = .ok (.if_icmp .ge 72, 3) := by decide +kernel
theorem d_UF_first_31 : decode prog_1_method_14_code 31 = .ok (.aload_n 0, 1) := by decide +kernel
theorem d_UF_first_32 : decode prog_1_method_14_code 32 = .ok (.invokevirtual 110, 3) := by decide +kernel
theorem d_UF_first_35 : decode prog_1_method_14_code 35 = .ok (.aload_n 0, 1) := by decide +kernel
theorem d_UF_first_36 : decode prog_1_method_14_code 36 = .ok (.getfield 44, 3) := by decide +kernel
theorem d_UF_first_39 : decode prog_1_method_14_code 39 = .ok (.iload 4, 2) := by decide +kernel
theorem d_UF_first_41 : decode prog_1_method_14_code 41 = .ok (.invokevirtual 177, 3) := by decide +kernel
theorem d_UF_first_44 : decode prog_1_method_14_code 44 = .ok (.istore 5, 2) := by decide +kernel
theorem d_UF_first_46 : decode prog_1_method_14_code 46 = .ok (.iload_n 3, 1) := by decide +kernel
theorem d_UF_first_47 : decode prog_1_method_14_code 47 = .ok (.iconst (-1), 1) := by decide +kernel
theorem d_UF_first_48 : decode prog_1_method_14_code 48 = .ok (.if_icmp .eq 22, 3) := by decide +kernel
theorem d_UF_first_51 : decode prog_1_method_14_code 51 = .ok (.iload_n 1, 1) := by decide +kernel
theorem d_UF_first_52 : decode prog_1_method_14_code 52 = .ok (.ifCond .ne 12, 3) := by decide +kernel
theorem d_UF_first_55 : decode prog_1_method_14_code 55 = .ok (.iload 5, 2) := by decide +kernel
theorem d_UF_first_57 : decode prog_1_method_14_code 57 = .ok (.iload_n 2, 1) := by decide +kernel
theorem d_UF_first_58 : decode prog_1_method_14_code 58 = .ok (.if_icmp .ge 16, 3) := by decide +kernel
theorem d_UF_first_61 : decode prog_1_method_14_code 61 = .ok (.goto 9, 3) := by decide +kernel
theorem d_UF_first_64 : decode prog_1_method_14_code 64 = .ok (.iload 5, 2) := by decide +kernel
theorem d_UF_first_66 : decode prog_1_method_14_code 66 = .ok (.iload_n 2, 1) := by decide +kernel
theorem d_UF_first_67 : decode prog_1_method_14_code 67 = .ok (.if_icmp .le 7, 3) := by decide +kernel
theorem d_UF_first_70 : decode prog_1_method_14_code 70 = .ok (.iconst 1, 1) := by decide +kernel
theorem d_UF_first_71 : decode prog_1_method_14_code 71 = .ok (.goto 4, 3) := by decide +kernel
theorem d_UF_first_74 : decode prog_1_method_14_code 74 = .ok (.iconst 0, 1) := by decide +kernel
theorem d_UF_first_75 : decode prog_1_method_14_code 75 = .ok (.istore 6, 2) := by decide +kernel
theorem d_UF_first_77 : decode prog_1_method_14_code 77 = .ok (.iload 5, 2) := by decide +kernel
theorem d_UF_first_79 : decode prog_1_method_14_code 79 = .ok (.iconst (-1), 1) := by decide +kernel
theorem d_UF_first_80 : decode prog_1_method_14_code 80 = .ok (.if_icmp .eq 14, 3) := by decide +kernel
theorem d_UF_first_83 : decode prog_1_method_14_code 83 = .ok (.iload 6, 2) := by decide +kernel
theorem d_UF_first_85 : decode prog_1_method_14_code 85 = .ok (.ifCond .eq 9, 3) := by decide +kernel
theorem d_UF_first_88 : decode prog_1_method_14_code 88 = .ok (.iload 5, 2) := by decide +kernel
theorem d_UF_first_90 : decode prog_1_method_14_code 90 = .ok (.istore_n 2, 1) := by decide +kernel
theorem d_UF_first_91 : decode prog_1_method_14_code 91 = .ok (.iload 4, 2) := by decide +kernel
theorem d_UF_first_93 : decode prog_1_method_14_code 93 = .ok (.istore_n 3, 1) := by decide +kernel
theorem d_UF_first_94 : decode prog_1_method_14_code 94 = .ok (.iinc 4 1, 3) := by decide +kernel
theorem d_UF_first_97 : decode prog_1_method_14_code 97 = .ok (.goto (-78), 3) := by decide +kernel
theorem d_UF_first_100 : decode prog_1_method_14_code 100 = .ok (.iload_n 3, 1) := by decide +kernel
theorem d_UF_first_101 : decode prog_1_method_14_code 101 = .ok (.ireturn, 1) := by decide +kernel
def p_UF_first_94 (Q : Int32 → AH → Prop) (K19 : Int32 → Int32 → Int32 → Int32 → AH → Prop) (x1 : Int32) (x2 : Int32) (x3 : Int32) (x4 : Int32) (h : AH) : Prop := K19 x1 x2 x3 (x4 + 1) h
def p_UF_first_75 (Q : Int32 → AH → Prop) (K19 : Int32 → Int32 → Int32 → Int32 → AH → Prop) (x1 : Int32) (x2 : Int32) (x3 : Int32) (x4 : Int32) (x5 : Int32) (s0 : Int32) (h : AH) : Prop := ((x5 = (-1) → p_UF_first_94 Q  K19 x1 x2 x3 x4 h) ∧ (¬ x5 = (-1) → ((s0 = 0 → p_UF_first_94 Q  K19 x1 x2 x3 x4 h) ∧ (¬ s0 = 0 → p_UF_first_94 Q  K19 x1 x5 x4 x4 h))))
def p_UF_first_74 (Q : Int32 → AH → Prop) (K19 : Int32 → Int32 → Int32 → Int32 → AH → Prop) (x1 : Int32) (x2 : Int32) (x3 : Int32) (x4 : Int32) (x5 : Int32) (h : AH) : Prop := p_UF_first_75 Q  K19 x1 x2 x3 x4 x5 0 h
def p_UF_first_70 (Q : Int32 → AH → Prop) (K19 : Int32 → Int32 → Int32 → Int32 → AH → Prop) (x1 : Int32) (x2 : Int32) (x3 : Int32) (x4 : Int32) (x5 : Int32) (h : AH) : Prop := p_UF_first_75 Q  K19 x1 x2 x3 x4 x5 1 h
def p_UF_first_19 (Q : Int32 → AH → Prop) : Nat → Int32 → Int32 → Int32 → Int32 → AH → Prop
  | 0 => fun _ _ _ _ _ => False
  | n + 1 => fun x1 x2 x3 x4 h => let K19 := p_UF_first_19 Q n; (((h.1 5 3) ≤ x4 → Q x3 h) ∧ (¬ (h.1 5 3) ≤ x4 → p_UF_ready (fun h1 => p_Dusk_firstDown (fun r3 h2 => ((x3 = (-1) → p_UF_first_70 Q  K19 x1 x2 x3 x4 r3 h2) ∧ (¬ x3 = (-1) → ((¬ x1 = 0 → ((r3 ≤ x2 → p_UF_first_74 Q  K19 x1 x2 x3 x4 r3 h2) ∧ (¬ r3 ≤ x2 → p_UF_first_70 Q  K19 x1 x2 x3 x4 r3 h2))) ∧ (x1 = 0 → ((x2 ≤ r3 → p_UF_first_74 Q  K19 x1 x2 x3 x4 r3 h2) ∧ (¬ x2 ≤ r3 → p_UF_first_70 Q  K19 x1 x2 x3 x4 r3 h2))))))) x4 h1) h))
def p_UF_first (Q : Int32 → AH → Prop) (x1 : Int32) (h : AH) : Prop := p_UF_within (fun r2 h1 => ((¬ r2 = 0 → ∃ n, p_UF_first_19 Q   n x1 (-1) (-1) 0 h1) ∧ (r2 = 0 → Q (-2) h1))) x1 0 1 h
set_option maxRecDepth 20000 in
theorem r_UF_first_94 {G : GG} {d : Nat} {Q : Int32 → AH → Prop} {K19 : Int32 → Int32 → Int32 → Int32 → AH → Prop} (k19 : ∀ x1 x2 x3 x4 h, K19 x1 x2 x3 x4 h → Att G T1 m_UF_first (d + 7) 19 [some (.ref 0), some (.int x1), some (.int x2), some (.int x3), some (.int x4), none, none] [] h 0 0 (iQ Q)) (x1 : Int32) (x2 : Int32) (x3 : Int32) (x4 : Int32) (h : AH) (H : p_UF_first_94 Q K19 x1 x2 x3 x4 h) : Att G T1 m_UF_first (d + 7) 94 [some (.ref 0), some (.int x1), some (.int x2), some (.int x3), some (.int x4), none, none] [] h 0 0 (iQ Q) := by
  refine A_iinc 1 [some (.ref 0), some (.int x1), some (.int x2), some (.int x3), some (.int (x4 + 1)), none, none] d_UF_first_94 rfl (by decide) (by decide) rfl rfl ?_
  refine A_goto 19 d_UF_first_97 (by decide) ?_
  exact k19 _ _ _ _ _ H
set_option maxRecDepth 20000 in
theorem r_UF_first_75 {G : GG} {d : Nat} {Q : Int32 → AH → Prop} {K19 : Int32 → Int32 → Int32 → Int32 → AH → Prop} (k19 : ∀ x1 x2 x3 x4 h, K19 x1 x2 x3 x4 h → Att G T1 m_UF_first (d + 7) 19 [some (.ref 0), some (.int x1), some (.int x2), some (.int x3), some (.int x4), none, none] [] h 0 0 (iQ Q)) (x1 : Int32) (x2 : Int32) (x3 : Int32) (x4 : Int32) (x5 : Int32) (s0 : Int32) (h : AH) (H : p_UF_first_75 Q K19 x1 x2 x3 x4 x5 s0 h) : Att G T1 m_UF_first (d + 7) 75 [some (.ref 0), some (.int x1), some (.int x2), some (.int x3), some (.int x4), some (.int x5), none] [.int s0] h 0 0 (iQ Q) := by
  refine A_istore [some (.ref 0), some (.int x1), some (.int x2), some (.int x3), some (.int x4), some (.int x5), some (.int s0)] d_UF_first_75 (by decide) rfl rfl ?_
  refine A_iload d_UF_first_77 rfl ?_
  refine A_iconst (-1) (by decide) d_UF_first_79 ?_
  refine A_icmp_eq 94 d_UF_first_80 (by decide) (fun z => ?_) (fun z => ?_)
  · have H := H.1 z
    refine A_sub (L' := [some (.ref 0), some (.int x1), some (.int x2), some (.int x3), some (.int x4), none, none]) ⟨rfl, rfl, rfl, rfl, rfl, trivial⟩ ?_
    exact r_UF_first_94  k19 _ _ _ _ _ H
  · have H := H.2 z
    refine A_iload d_UF_first_83 rfl ?_
    refine A_if_eq 94 d_UF_first_85 (by decide) (fun z => ?_) (fun z => ?_)
    · have H := H.1 z
      refine A_sub (L' := [some (.ref 0), some (.int x1), some (.int x2), some (.int x3), some (.int x4), none, none]) ⟨rfl, rfl, rfl, rfl, rfl, trivial⟩ ?_
      exact r_UF_first_94  k19 _ _ _ _ _ H
    · have H := H.2 z
      refine A_iload d_UF_first_88 rfl ?_
      refine A_istore_n [some (.ref 0), some (.int x1), some (.int x5), some (.int x3), some (.int x4), some (.int x5), some (.int s0)] d_UF_first_90 (by decide) rfl rfl ?_
      refine A_iload d_UF_first_91 rfl ?_
      refine A_istore_n [some (.ref 0), some (.int x1), some (.int x5), some (.int x4), some (.int x4), some (.int x5), some (.int s0)] d_UF_first_93 (by decide) rfl rfl ?_
      refine A_sub (L' := [some (.ref 0), some (.int x1), some (.int x5), some (.int x4), some (.int x4), none, none]) ⟨rfl, rfl, rfl, rfl, rfl, trivial⟩ ?_
      exact r_UF_first_94  k19 _ _ _ _ _ H
set_option maxRecDepth 20000 in
theorem r_UF_first_74 {G : GG} {d : Nat} {Q : Int32 → AH → Prop} {K19 : Int32 → Int32 → Int32 → Int32 → AH → Prop} (k19 : ∀ x1 x2 x3 x4 h, K19 x1 x2 x3 x4 h → Att G T1 m_UF_first (d + 7) 19 [some (.ref 0), some (.int x1), some (.int x2), some (.int x3), some (.int x4), none, none] [] h 0 0 (iQ Q)) (x1 : Int32) (x2 : Int32) (x3 : Int32) (x4 : Int32) (x5 : Int32) (h : AH) (H : p_UF_first_74 Q K19 x1 x2 x3 x4 x5 h) : Att G T1 m_UF_first (d + 7) 74 [some (.ref 0), some (.int x1), some (.int x2), some (.int x3), some (.int x4), some (.int x5), none] [] h 0 0 (iQ Q) := by
  refine A_iconst 0 (by decide) d_UF_first_74 ?_
  exact r_UF_first_75  k19 _ _ _ _ _ _ _ H
set_option maxRecDepth 20000 in
theorem r_UF_first_70 {G : GG} {d : Nat} {Q : Int32 → AH → Prop} {K19 : Int32 → Int32 → Int32 → Int32 → AH → Prop} (k19 : ∀ x1 x2 x3 x4 h, K19 x1 x2 x3 x4 h → Att G T1 m_UF_first (d + 7) 19 [some (.ref 0), some (.int x1), some (.int x2), some (.int x3), some (.int x4), none, none] [] h 0 0 (iQ Q)) (x1 : Int32) (x2 : Int32) (x3 : Int32) (x4 : Int32) (x5 : Int32) (h : AH) (H : p_UF_first_70 Q K19 x1 x2 x3 x4 x5 h) : Att G T1 m_UF_first (d + 7) 70 [some (.ref 0), some (.int x1), some (.int x2), some (.int x3), some (.int x4), some (.int x5), none] [] h 0 0 (iQ Q) := by
  refine A_iconst 1 (by decide) d_UF_first_70 ?_
  refine A_goto 75 d_UF_first_71 (by decide) ?_
  exact r_UF_first_75  k19 _ _ _ _ _ _ _ H
set_option maxRecDepth 20000 in
theorem r_UF_first_19 {G : GG} {d : Nat} {Q : Int32 → AH → Prop} : ∀ (n : Nat) (x1 : Int32) (x2 : Int32) (x3 : Int32) (x4 : Int32) (h : AH), p_UF_first_19 Q n x1 x2 x3 x4 h → Att G T1 m_UF_first (d + 7) 19 [some (.ref 0), some (.int x1), some (.int x2), some (.int x3), some (.int x4), none, none] [] h 0 0 (iQ Q) := by
  intro n
  induction n with
  | zero => intro x1 x2 x3 x4 h H; exact H.elim
  | succ n k19 =>
    intro x1 x2 x3 x4 h H
    refine A_iload d_UF_first_19 rfl ?_
    refine A_aload_n d_UF_first_21 rfl ?_
    refine A_get (v := .ref 5) d_UF_first_22 (fo_UF_34_11 rfl) (vA_s (by decide)) rfl (by first | rfl | (show Value.int _ = Value.int _; simp [wI, wL, wR, wC, up])) ?_
    refine A_get (v := .int (h.1 5 3)) d_UF_first_25 (fo_UF_80_10 rfl) (vA_s (by decide)) rfl (by first | rfl | (show Value.int _ = Value.int _; simp [wI, wL, wR, wC, up])) ?_
    refine A_icmp_ge 100 d_UF_first_28 (by decide) (fun z => ?_) (fun z => ?_)
    · have H := H.1 z
      refine A_iload_n d_UF_first_100 rfl ?_
      exact A_iret d_UF_first_101 rfl rfl H
    · have H := H.2 z
      refine A_aload_n d_UF_first_31 rfl ?_
      refine A_cV [.ref 0] [] (ct_UF_110 rfl) d_UF_first_32 rfl rfl (by decide) (Nat.le_of_ble_eq_true rfl) (rcA_o (c := 11) rfl (vA_s (by decide)) rfl (by decide) rfl) (ok_UF_ready (d := d + 3) H) (fun h1 H => ?_)
      refine A_aload_n d_UF_first_35 rfl ?_
      refine A_get (v := .ref 13) d_UF_first_36 (fo_UF_44_11 rfl) (vA_s (by decide)) rfl (by first | rfl | (show Value.int _ = Value.int _; simp [wI, wL, wR, wC, up])) ?_
      refine A_iload d_UF_first_39 rfl ?_
      refine A_cI [.ref 13, .int x4] [] (ct_UF_177 rfl) d_UF_first_41 rfl rfl (by decide) (Nat.le_of_ble_eq_true rfl) (rcA_o (c := 2) rfl (vA_s (by decide)) rfl (by decide) rfl) (ok_Dusk_firstDown (d := d) H) (fun r3 h2 H => ?_)
      refine A_istore [some (.ref 0), some (.int x1), some (.int x2), some (.int x3), some (.int x4), some (.int r3), none] d_UF_first_44 (by decide) rfl rfl ?_
      refine A_iload_n d_UF_first_46 rfl ?_
      refine A_iconst (-1) (by decide) d_UF_first_47 ?_
      refine A_icmp_eq 70 d_UF_first_48 (by decide) (fun z => ?_) (fun z => ?_)
      · have H := H.1 z
        exact r_UF_first_70  k19 _ _ _ _ _ _ H
      · have H := H.2 z
        refine A_iload_n d_UF_first_51 rfl ?_
        refine A_if_ne 64 d_UF_first_52 (by decide) (fun z => ?_) (fun z => ?_)
        · have H := H.1 z
          refine A_iload d_UF_first_64 rfl ?_
          refine A_iload_n d_UF_first_66 rfl ?_
          refine A_icmp_le 74 d_UF_first_67 (by decide) (fun z => ?_) (fun z => ?_)
          · have H := H.1 z
            exact r_UF_first_74  k19 _ _ _ _ _ _ H
          · have H := H.2 z
            exact r_UF_first_70  k19 _ _ _ _ _ _ H
        · have H := H.2 z
          refine A_iload d_UF_first_55 rfl ?_
          refine A_iload_n d_UF_first_57 rfl ?_
          refine A_icmp_ge 74 d_UF_first_58 (by decide) (fun z => ?_) (fun z => ?_)
          · have H := H.1 z
            exact r_UF_first_74  k19 _ _ _ _ _ _ H
          · have H := H.2 z
            refine A_goto 70 d_UF_first_61 (by decide) ?_
            exact r_UF_first_70  k19 _ _ _ _ _ _ H
set_option maxRecDepth 20000 in
theorem r_UF_first_0 {G : GG} {d : Nat} {Q : Int32 → AH → Prop} (x1 : Int32) (h : AH) (H : p_UF_first Q x1 h) : Att G T1 m_UF_first (d + 7) 0 [some (.ref 0), some (.int x1), none, none, none, none, none] [] h 0 0 (iQ Q) := by
  refine A_iload_n d_UF_first_0 rfl ?_
  refine A_iconst 0 (by decide) d_UF_first_1 ?_
  refine A_iconst 1 (by decide) d_UF_first_2 ?_
  refine A_cI [.int x1, .int 0, .int 1] [] (ct_UF_95 rfl) d_UF_first_3 rfl rfl (by decide) (Nat.le_of_ble_eq_true rfl) trivial (ok_UF_within (d := d + 6) H) (fun r2 h1 H => ?_)
  refine A_if_ne 12 d_UF_first_6 (by decide) (fun z => ?_) (fun z => ?_)
  · have H := H.1 z
    refine A_iconst (-1) (by decide) d_UF_first_12 ?_
    refine A_istore_n [some (.ref 0), some (.int x1), some (.int (-1)), none, none, none, none] d_UF_first_13 (by decide) rfl rfl ?_
    refine A_iconst (-1) (by decide) d_UF_first_14 ?_
    refine A_istore_n [some (.ref 0), some (.int x1), some (.int (-1)), some (.int (-1)), none, none, none] d_UF_first_15 (by decide) rfl rfl ?_
    refine A_iconst 0 (by decide) d_UF_first_16 ?_
    refine A_istore [some (.ref 0), some (.int x1), some (.int (-1)), some (.int (-1)), some (.int 0), none, none] d_UF_first_17 (by decide) rfl rfl ?_
    obtain ⟨n9, H⟩ := H
    exact r_UF_first_19   n9 _ _ _ _ _ H
  · have H := H.2 z
    refine A_bipush (-2) (by decide) d_UF_first_9 ?_
    exact A_iret d_UF_first_11 rfl rfl H
set_option maxRecDepth 20000 in
theorem ok_UF_first {G : GG} {d : Nat} {Q : Int32 → AH → Prop} {x1 : Int32} {h : AH} (H : p_UF_first Q x1 h) : WP G T1 m_UF_first (d + 7) [.ref 0, .int x1] h 0 0 (iQ Q) := by
  exact WP.enter 5 (by decide) rfl rfl (r_UF_first_0 x1 h H)
theorem d_UF_bring_0 : decode prog_1_method_15_code 0 = .ok (.aload_n 0, 1) := by decide +kernel
theorem d_UF_bring_1 : decode prog_1_method_15_code 1 = .ok (.iload_n 1, 1) := by decide +kernel
theorem d_UF_bring_2 : decode prog_1_method_15_code 2 = .ok (.invokevirtual 107, 3) := by decide +kernel
theorem d_UF_bring_5 : decode prog_1_method_15_code 5 = .ok (.ifCond .ne 6, 3) := by decide +kernel
theorem d_UF_bring_8 : decode prog_1_method_15_code 8 = .ok (.bipush (-5), 2) := by decide +kernel
theorem d_UF_bring_10 : decode prog_1_method_15_code 10 = .ok (.ireturn, 1) := by decide +kernel
theorem d_UF_bring_11 : decode prog_1_method_15_code 11 = .ok (.iload_n 2, 1) := by decide +kernel
theorem d_UF_bring_12 : decode prog_1_method_15_code 12 = .ok (.invokestatic 143, 3) := by decide +kernel
theorem d_UF_bring_15 : decode prog_1_method_15_code 15 = .ok (.ifCond .ne 6, 3) := by decide +kernel
theorem d_UF_bring_18 : decode prog_1_method_15_code 18 = .ok (.bipush (-7), 2) := by decide +kernel
theorem d_UF_bring_20 : decode prog_1_method_15_code 20 = .ok (.ireturn, 1) := by decide +kernel
theorem d_UF_bring_21 : decode prog_1_method_15_code 21 = .ok (.iconst 0, 1) := by decide +kernel
theorem d_UF_bring_22 : decode prog_1_method_15_code 22 = .ok (.istore_n 3, 1) := by decide +kernel
theorem d_UF_bring_23 : decode prog_1_method_15_code 23 = .ok (.iload_n 3, 1) := by decide +kernel
theorem d_UF_bring_24 : decode prog_1_method_15_code 24 = .ok (.bipush 20, 2) := by decide +kernel
theorem d_UF_bring_26 : decode prog_1_method_15_code 26 = .ok (.if_icmp .gt 53, 3) := by decide +kernel
theorem d_UF_bring_29 : decode prog_1_method_15_code 29 = .ok (.aload_n 0, 1) := by decide +kernel
theorem d_UF_bring_30 : decode prog_1_method_15_code 30 = .ok (.invokevirtual 110, 3) := by decide +kernel
theorem d_UF_bring_33 : decode prog_1_method_15_code 33 = .ok (.aload_n 0, 1) := by decide +kernel
theorem d_UF_bring_34 : decode prog_1_method_15_code 34 = .ok (.getfield 44, 3) := by decide +kernel
theorem d_UF_bring_37 : decode prog_1_method_15_code 37 = .ok (.getfield 149, 3) := by decide +kernel
theorem d_UF_bring_40 : decode prog_1_method_15_code 40 = .ok (.getfield 124, 3) := by decide +kernel
theorem d_UF_bring_43 : decode prog_1_method_15_code 43 = .ok (.iload_n 1, 1) := by decide +kernel
theorem d_UF_bring_44 : decode prog_1_method_15_code 44 = .ok (.dup2, 1) := by decide +kernel
theorem d_UF_bring_45 : decode prog_1_method_15_code 45 = .ok (.iaload, 1) := by decide +kernel
theorem d_UF_bring_46 : decode prog_1_method_15_code 46 = .ok (.iload_n 3, 1) := by decide +kernel
theorem d_UF_bring_47 : decode prog_1_method_15_code 47 = .ok (.iadd, 1) := by decide +kernel
theorem d_UF_bring_48 : decode prog_1_method_15_code 48 = .ok (.iastore, 1) := by decide +kernel
theorem d_UF_bring_49 : decode prog_1_method_15_code 49 = .ok (.aload_n 0, 1) := by decide +kernel
theorem d_UF_bring_50 : decode prog_1_method_15_code 50 = .ok (.getfield 44, 3) := by decide +kernel
theorem d_UF_bring_53 : decode prog_1_method_15_code 53 = .ok (.iload_n 2, 1) := by decide +kernel
theorem d_UF_bring_54 : decode prog_1_method_15_code 54 = .ok (.invokevirtual 146, 3) := by decide +kernel
theorem d_UF_bring_57 : decode prog_1_method_15_code 57 = .ok (.aload_n 0, 1) := by decide +kernel
theorem d_UF_bring_58 : decode prog_1_method_15_code 58 = .ok (.getfield 44, 3) := by decide +kernel
theorem d_UF_bring_61 : decode prog_1_method_15_code 61 = .ok (.getfield 149, 3) := by decide +kernel
theorem d_UF_bring_64 : decode prog_1_method_15_code 64 = .ok (.iload_n 1, 1) := by decide +kernel
theorem d_UF_bring_65 : decode prog_1_method_15_code 65 = .ok (.invokevirtual 181, 3) := by decide +kernel
theorem d_UF_bring_68 : decode prog_1_method_15_code 68 = .ok (.ifCond .eq 5, 3) := by decide +kernel
theorem d_UF_bring_71 : decode prog_1_method_15_code 71 = .ok (.iload_n 3, 1) := by decide +kernel
theorem d_UF_bring_72 : decode prog_1_method_15_code 72 = .ok (.ireturn, 1) := by decide +kernel
theorem d_UF_bring_73 : decode prog_1_method_15_code 73 = .ok (.iinc 3 1, 3) := by decide +kernel
theorem d_UF_bring_76 : decode prog_1_method_15_code 76 = .ok (.goto (-53), 3) := by decide +kernel
theorem d_UF_bring_79 : decode prog_1_method_15_code 79 = .ok (.iconst (-1), 1) := by decide +kernel
theorem d_UF_bring_80 : decode prog_1_method_15_code 80 = .ok (.ireturn, 1) := by decide +kernel
def p_UF_bring_23 (Q : Int32 → AH → Prop) : Nat → Int32 → Int32 → Int32 → AH → Prop
  | 0 => fun _ _ _ _ => False
  | n + 1 => fun x1 x2 x3 h => let K23 := p_UF_bring_23 Q n; ((20 < x3 → Q (-1) h) ∧ (¬ 20 < x3 → p_UF_ready (fun h1 => inb x1 7 ∧ p_Dusk_go (fun h3 => p_Town_isDown (fun r5 h4 => ((r5 = 0 → K23 x1 x2 (x3 + 1) h4) ∧ (¬ r5 = 0 → Q x3 h4))) 14 x1 h3) x2 (wI h1 16 x1 ((h1.1 16 x1) + x3))) h))
def p_UF_bring (Q : Int32 → AH → Prop) (x1 : Int32) (x2 : Int32) (h : AH) : Prop := p_UF_isHouse (fun r2 h1 => ((¬ r2 = 0 → p_UF_isSpan (fun r4 h3 => ((¬ r4 = 0 → ∃ n, p_UF_bring_23 Q   n x1 x2 0 h3) ∧ (r4 = 0 → Q (-7) h3))) x2 h1) ∧ (r2 = 0 → Q (-5) h1))) x1 h
set_option maxRecDepth 20000 in
theorem r_UF_bring_23 {G : GG} {d : Nat} {Q : Int32 → AH → Prop} : ∀ (n : Nat) (x1 : Int32) (x2 : Int32) (x3 : Int32) (h : AH), p_UF_bring_23 Q n x1 x2 x3 h → Att G T1 m_UF_bring (d + 7) 23 [some (.ref 0), some (.int x1), some (.int x2), some (.int x3)] [] h 0 0 (iQ Q) := by
  intro n
  induction n with
  | zero => intro x1 x2 x3 h H; exact H.elim
  | succ n k23 =>
    intro x1 x2 x3 h H
    refine A_iload_n d_UF_bring_23 rfl ?_
    refine A_bipush 20 (by decide) d_UF_bring_24 ?_
    refine A_icmp_gt 79 d_UF_bring_26 (by decide) (fun z => ?_) (fun z => ?_)
    · have H := H.1 z
      refine A_iconst (-1) (by decide) d_UF_bring_79 ?_
      exact A_iret d_UF_bring_80 rfl rfl H
    · have H := H.2 z
      refine A_aload_n d_UF_bring_29 rfl ?_
      refine A_cV [.ref 0] [] (ct_UF_110 rfl) d_UF_bring_30 rfl rfl (by decide) (Nat.le_of_ble_eq_true rfl) (rcA_o (c := 11) rfl (vA_s (by decide)) rfl (by decide) rfl) (ok_UF_ready (d := d + 3) H) (fun h1 H => ?_)
      refine A_aload_n d_UF_bring_33 rfl ?_
      refine A_get (v := .ref 13) d_UF_bring_34 (fo_UF_44_11 rfl) (vA_s (by decide)) rfl (by first | rfl | (show Value.int _ = Value.int _; simp [wI, wL, wR, wC, up])) ?_
      refine A_get (v := .ref 14) d_UF_bring_37 (fo_UF_149_2 rfl) (vA_s (by decide)) rfl (by first | rfl | (show Value.int _ = Value.int _; simp [wI, wL, wR, wC, up])) ?_
      refine A_get (v := .ref 16) d_UF_bring_40 (fo_UF_124_10 rfl) (vA_s (by decide)) rfl (by first | rfl | (show Value.int _ = Value.int _; simp [wI, wL, wR, wC, up])) ?_
      refine A_iload_n d_UF_bring_43 rfl ?_
      refine A_dup2 rfl rfl d_UF_bring_44 ?_
      obtain ⟨c2, H⟩ := H
      refine A_ialdv (n := 7) (v := (h1.1 16 x1)) d_UF_bring_45 (vA_s (by decide)) rfl c2 rfl ?_
      refine A_iload_n d_UF_bring_46 rfl ?_
      refine A_iadd d_UF_bring_47 ?_
      refine A_iast (n := 7) d_UF_bring_48 (vA_s (by decide)) rfl c2 ?_
      refine A_aload_n d_UF_bring_49 rfl ?_
      refine A_get (v := .ref 13) d_UF_bring_50 (fo_UF_44_11 rfl) (vA_s (by decide)) rfl (by first | rfl | (show Value.int _ = Value.int _; simp [wI, wL, wR, wC, up])) ?_
      refine A_iload_n d_UF_bring_53 rfl ?_
      refine A_cV [.ref 13, .int x2] [] (ct_UF_146 rfl) d_UF_bring_54 rfl rfl (by decide) (Nat.le_of_ble_eq_true rfl) (rcA_o (c := 2) rfl (vA_s (by decide)) rfl (by decide) rfl) (ok_Dusk_go (d := d) H) (fun h3 H => ?_)
      refine A_aload_n d_UF_bring_57 rfl ?_
      refine A_get (v := .ref 13) d_UF_bring_58 (fo_UF_44_11 rfl) (vA_s (by decide)) rfl (by first | rfl | (show Value.int _ = Value.int _; simp [wI, wL, wR, wC, up])) ?_
      refine A_get (v := .ref 14) d_UF_bring_61 (fo_UF_149_2 rfl) (vA_s (by decide)) rfl (by first | rfl | (show Value.int _ = Value.int _; simp [wI, wL, wR, wC, up])) ?_
      refine A_iload_n d_UF_bring_64 rfl ?_
      refine A_cI [.ref 14, .int x1] [] (ct_UF_181 rfl) d_UF_bring_65 rfl rfl (by decide) (Nat.le_of_ble_eq_true rfl) (rcA_o (c := 10) rfl (vA_s (by decide)) rfl (by decide) rfl) (ok_Town_isDown (d := d + 6) H) (fun r5 h4 H => ?_)
      refine A_if_eq 73 d_UF_bring_68 (by decide) (fun z => ?_) (fun z => ?_)
      · have H := H.1 z
        refine A_iinc 1 [some (.ref 0), some (.int x1), some (.int x2), some (.int (x3 + 1))] d_UF_bring_73 rfl (by decide) (by decide) rfl rfl ?_
        refine A_goto 23 d_UF_bring_76 (by decide) ?_
        exact k23 _ _ _ _ H
      · have H := H.2 z
        refine A_iload_n d_UF_bring_71 rfl ?_
        exact A_iret d_UF_bring_72 rfl rfl H
set_option maxRecDepth 20000 in
theorem r_UF_bring_0 {G : GG} {d : Nat} {Q : Int32 → AH → Prop} (x1 : Int32) (x2 : Int32) (h : AH) (H : p_UF_bring Q x1 x2 h) : Att G T1 m_UF_bring (d + 7) 0 [some (.ref 0), some (.int x1), some (.int x2), none] [] h 0 0 (iQ Q) := by
  refine A_aload_n d_UF_bring_0 rfl ?_
  refine A_iload_n d_UF_bring_1 rfl ?_
  refine A_cI [.ref 0, .int x1] [] (ct_UF_107 rfl) d_UF_bring_2 rfl rfl (by decide) (Nat.le_of_ble_eq_true rfl) (rcA_o (c := 11) rfl (vA_s (by decide)) rfl (by decide) rfl) (ok_UF_isHouse (d := d + 5) H) (fun r2 h1 H => ?_)
  refine A_if_ne 11 d_UF_bring_5 (by decide) (fun z => ?_) (fun z => ?_)
  · have H := H.1 z
    refine A_iload_n d_UF_bring_11 rfl ?_
    refine A_cI [.int x2] [] (ct_UF_143 rfl) d_UF_bring_12 rfl rfl (by decide) (Nat.le_of_ble_eq_true rfl) trivial (ok_UF_isSpan (d := d + 5) H) (fun r4 h3 H => ?_)
    refine A_if_ne 21 d_UF_bring_15 (by decide) (fun z => ?_) (fun z => ?_)
    · have H := H.1 z
      refine A_iconst 0 (by decide) d_UF_bring_21 ?_
      refine A_istore_n [some (.ref 0), some (.int x1), some (.int x2), some (.int 0)] d_UF_bring_22 (by decide) rfl rfl ?_
      obtain ⟨n9, H⟩ := H
      exact r_UF_bring_23   n9 _ _ _ _ H
    · have H := H.2 z
      refine A_bipush (-7) (by decide) d_UF_bring_18 ?_
      exact A_iret d_UF_bring_20 rfl rfl H
  · have H := H.2 z
    refine A_bipush (-5) (by decide) d_UF_bring_8 ?_
    exact A_iret d_UF_bring_10 rfl rfl H
set_option maxRecDepth 20000 in
theorem ok_UF_bring {G : GG} {d : Nat} {Q : Int32 → AH → Prop} {x1 : Int32} {x2 : Int32} {h : AH} (H : p_UF_bring Q x1 x2 h) : WP G T1 m_UF_bring (d + 7) [.ref 0, .int x1, .int x2] h 0 0 (iQ Q) := by
  exact WP.enter 1 (by decide) rfl rfl (r_UF_bring_0 x1 x2 h H)
theorem d_UF_weight_0 : decode prog_1_method_16_code 0 = .ok (.iload_n 1, 1) := by decide +kernel
theorem d_UF_weight_1 : decode prog_1_method_16_code 1 = .ok (.iconst 0, 1) := by decide +kernel
theorem d_UF_weight_2 : decode prog_1_method_16_code 2 = .ok (.bipush 20, 2) := by decide +kernel
theorem d_UF_weight_4 : decode prog_1_method_16_code 4 = .ok (.invokestatic 95, 3) := by decide +kernel
theorem d_UF_weight_7 : decode prog_1_method_16_code 7 = .ok (.ifCond .eq 19, 3) := by decide +kernel
theorem d_UF_weight_10 : decode prog_1_method_16_code 10 = .ok (.iload_n 2, 1) := by decide +kernel
theorem d_UF_weight_11 : decode prog_1_method_16_code 11 = .ok (.invokestatic 143, 3) := by decide +kernel
theorem d_UF_weight_14 : decode prog_1_method_16_code 14 = .ok (.ifCond .eq 12, 3) := by decide +kernel
theorem d_UF_weight_17 : decode prog_1_method_16_code 17 = .ok (.iload_n 3, 1) := by decide +kernel
theorem d_UF_weight_18 : decode prog_1_method_16_code 18 = .ok (.iconst 0, 1) := by decide +kernel
theorem d_UF_weight_19 : decode prog_1_method_16_code 19 = .ok (.iconst 1, 1) := by decide +kernel
theorem d_UF_weight_20 : decode prog_1_method_16_code 20 = .ok (.invokestatic 95, 3) := by decide +kernel
theorem d_UF_weight_23 : decode prog_1_method_16_code 23 = .ok (.ifCond .ne 6, 3) := by decide +kernel
theorem d_UF_weight_26 : decode prog_1_method_16_code 26 = .ok (.bipush (-2), 2) := by decide +kernel
theorem d_UF_weight_28 : decode prog_1_method_16_code 28 = .ok (.ireturn, 1) := by decide +kernel
theorem d_UF_weight_29 : decode prog_1_method_16_code 29 = .ok (.iconst (-1), 1) := by decide +kernel
theorem d_UF_weight_30 : decode prog_1_method_16_code 30 = .ok (.istore 4, 2) := by decide +kernel
theorem d_UF_weight_32 : decode prog_1_method_16_code 32 = .ok (.iconst (-1), 1) := by decide +kernel
theorem d_UF_weight_33 : decode prog_1_method_16_code 33 = .ok (.istore 5, 2) := by decide +kernel
theorem d_UF_weight_35 : decode prog_1_method_16_code 35 = .ok (.iconst 0, 1) := by decide +kernel
theorem d_UF_weight_36 : decode prog_1_method_16_code 36 = .ok (.istore 6, 2) := by decide +kernel
theorem d_UF_weight_38 : decode prog_1_method_16_code 38 = .ok (.iload 6, 2) := by decide +kernel
theorem d_UF_weight_40 : decode prog_1_method_16_code 40 = .ok (.aload_n 0, 1) := by decide +kernel
theorem d_UF_weight_41 : decode prog_1_method_16_code 41 = .ok (.getfield 34, 3) := by decide +kernel
theorem d_UF_weight_44 : decode prog_1_method_16_code 44 = .ok (.getfield 80, 3) := by decide +kernel
theorem d_UF_weight_47 : decode prog_1_method_16_code 47 = .ok (.if_icmp .ge 65, 3) := by decide +kernel
theorem d_UF_weight_50 : decode prog_1_method_16_code 50 = .ok (.aload_n 0, 1) := by decide +kernel
theorem d_UF_weight_51 : decode prog_1_method_16_code 51 = .ok (.invokevirtual 110, 3) := by decide +kernel
theorem d_UF_weight_54 : decode prog_1_method_16_code 54 = .ok (.aload_n 0, 1) := by decide +kernel
theorem d_UF_weight_55 : decode prog_1_method_16_code 55 = .ok (.getfield 44, 3) := by decide +kernel
theorem d_UF_weight_58 : decode prog_1_method_16_code 58 = .ok (.getfield 149, 3) := by decide +kernel
theorem d_UF_weight_61 : decode prog_1_method_16_code 61 = .ok (.getfield 124, 3) := by decide +kernel
theorem d_UF_weight_64 : decode prog_1_method_16_code 64 = .ok (.iload 6, 2) := by decide +kernel
theorem d_UF_weight_66 : decode prog_1_method_16_code 66 = .ok (.dup2, 1) := by decide +kernel
theorem d_UF_weight_67 : decode prog_1_method_16_code 67 = .ok (.iaload, 1) := by decide +kernel
theorem d_UF_weight_68 : decode prog_1_method_16_code 68 = .ok (.iload_n 1, 1) := by decide +kernel
theorem d_UF_weight_69 : decode prog_1_method_16_code 69 = .ok (.iadd, 1) := by decide +kernel
theorem d_UF_weight_70 : decode prog_1_method_16_code 70 = .ok (.iastore, 1) := by decide +kernel
theorem d_UF_weight_71 : decode prog_1_method_16_code 71 = .ok (.aload_n 0, 1) := by decide +kernel
theorem d_UF_weight_72 : decode prog_1_method_16_code 72 = .ok (.getfield 44, 3) := by decide +kernel
theorem d_UF_weight_75 : decode prog_1_method_16_code 75 = .ok (.iload_n 2, 1) := by decide +kernel
theorem d_UF_weight_76 : decode prog_1_method_16_code 76 = .ok (.invokevirtual 146, 3) := by decide +kernel
theorem d_UF_weight_79 : decode prog_1_method_16_code 79 = .ok (.aload_n 0, 1) := by decide +kernel
theorem d_UF_weight_80 : decode prog_1_method_16_code 80 = .ok (.getfield 44, 3) := by decide +kernel
theorem d_UF_weight_83 : decode prog_1_method_16_code 83 = .ok (.getfield 149, 3) := by decide +kernel
theorem d_UF_weight_86 : decode prog_1_method_16_code 86 = .ok (.invokevirtual 184, 3) := by decide +kernel
theorem d_UF_weight_89 : decode prog_1_method_16_code 89 = .ok (.istore 7, 2) := by decide +kernel
theorem d_UF_weight_91 : decode prog_1_method_16_code 91 = .ok (.iload 7, 2) := by decide +kernel
theorem d_UF_weight_93 : decode prog_1_method_16_code 93 = .ok (.iload 4, 2) := by decide +kernel
theorem d_UF_weight_95 : decode prog_1_method_16_code 95 = .ok (.if_icmp .le 11, 3) := by decide +kernel
theorem d_UF_weight_98 : decode prog_1_method_16_code 98 = .ok (.iload 7, 2) := by decide +kernel
theorem d_UF_weight_100 : decode prog_1_method_16_code 100 = .ok (.istore 4, 2) := by decide +kernel
theorem d_UF_weight_102 : decode prog_1_method_16_code 102 = .ok (.iload 6, 2) := by decide +kernel
theorem d_UF_weight_104 : decode prog_1_method_16_code 104 = .ok (.istore 5, 2) := by decide +kernel
theorem d_UF_weight_106 : decode prog_1_method_16_code 106 = .ok (.iinc 6 1, 3) := by decide +kernel
theorem d_UF_weight_109 : decode prog_1_method_16_code 109 = .ok (.goto (-71), 3) := by decide +kernel
theorem d_UF_weight_112 : decode prog_1_method_16_code 112 = .ok (.iload_n 3, 1) := by decide +kernel
theorem d_UF_weight_113 : decode prog_1_method_16_code 113 = .ok (.ifCond .ne 8, 3) := by decide +kernel
theorem d_UF_weight_116 : decode prog_1_method_16_code 116 = .ok (.iload 5, 2) := by decide +kernel
theorem d_UF_weight_118 : decode prog_1_method_16_code 118 = .ok (.goto 5, 3) := by decide +kernel
theorem d_UF_weight_121 : decode prog_1_method_16_code 121 = .ok (.iload 4, 2) := by decide +kernel
theorem d_UF_weight_123 : decode prog_1_method_16_code 123 = .ok (.ireturn, 1) := by decide +kernel
def p_UF_weight_106 (Q : Int32 → AH → Prop) (K38 : Int32 → Int32 → Int32 → Int32 → Int32 → Int32 → AH → Prop) (x1 : Int32) (x2 : Int32) (x3 : Int32) (x4 : Int32) (x5 : Int32) (x6 : Int32) (h : AH) : Prop := K38 x1 x2 x3 x4 x5 (x6 + 1) h
def p_UF_weight_38 (Q : Int32 → AH → Prop) : Nat → Int32 → Int32 → Int32 → Int32 → Int32 → Int32 → AH → Prop
  | 0 => fun _ _ _ _ _ _ _ => False
  | n + 1 => fun x1 x2 x3 x4 x5 x6 h => let K38 := p_UF_weight_38 Q n; (((h.1 5 3) ≤ x6 → ((¬ x3 = 0 → Q x4 h) ∧ (x3 = 0 → Q x5 h))) ∧ (¬ (h.1 5 3) ≤ x6 → p_UF_ready (fun h1 => inb x6 7 ∧ p_Dusk_go (fun h3 => p_Town_downCount (fun r5 h4 => ((r5 ≤ x4 → p_UF_weight_106 Q  K38 x1 x2 x3 x4 x5 x6 h4) ∧ (¬ r5 ≤ x4 → p_UF_weight_106 Q  K38 x1 x2 x3 r5 x6 x6 h4))) 14 h3) x2 (wI h1 16 x6 ((h1.1 16 x6) + x1))) h))
def p_UF_weight (Q : Int32 → AH → Prop) (x1 : Int32) (x2 : Int32) (x3 : Int32) (h : AH) : Prop := p_UF_within (fun r2 h1 => ((r2 = 0 → Q (-2) h1) ∧ (¬ r2 = 0 → p_UF_isSpan (fun r4 h3 => ((r4 = 0 → Q (-2) h3) ∧ (¬ r4 = 0 → p_UF_within (fun r6 h5 => ((¬ r6 = 0 → ∃ n, p_UF_weight_38 Q   n x1 x2 x3 (-1) (-1) 0 h5) ∧ (r6 = 0 → Q (-2) h5))) x3 0 1 h3))) x2 h1))) x1 0 20 h
set_option maxRecDepth 20000 in
theorem r_UF_weight_106 {G : GG} {d : Nat} {Q : Int32 → AH → Prop} {K38 : Int32 → Int32 → Int32 → Int32 → Int32 → Int32 → AH → Prop} (k38 : ∀ x1 x2 x3 x4 x5 x6 h, K38 x1 x2 x3 x4 x5 x6 h → Att G T1 m_UF_weight (d + 7) 38 [some (.ref 0), some (.int x1), some (.int x2), some (.int x3), some (.int x4), some (.int x5), some (.int x6), none] [] h 0 0 (iQ Q)) (x1 : Int32) (x2 : Int32) (x3 : Int32) (x4 : Int32) (x5 : Int32) (x6 : Int32) (h : AH) (H : p_UF_weight_106 Q K38 x1 x2 x3 x4 x5 x6 h) : Att G T1 m_UF_weight (d + 7) 106 [some (.ref 0), some (.int x1), some (.int x2), some (.int x3), some (.int x4), some (.int x5), some (.int x6), none] [] h 0 0 (iQ Q) := by
  refine A_iinc 1 [some (.ref 0), some (.int x1), some (.int x2), some (.int x3), some (.int x4), some (.int x5), some (.int (x6 + 1)), none] d_UF_weight_106 rfl (by decide) (by decide) rfl rfl ?_
  refine A_goto 38 d_UF_weight_109 (by decide) ?_
  exact k38 _ _ _ _ _ _ _ H
set_option maxRecDepth 20000 in
theorem r_UF_weight_38 {G : GG} {d : Nat} {Q : Int32 → AH → Prop} : ∀ (n : Nat) (x1 : Int32) (x2 : Int32) (x3 : Int32) (x4 : Int32) (x5 : Int32) (x6 : Int32) (h : AH), p_UF_weight_38 Q n x1 x2 x3 x4 x5 x6 h → Att G T1 m_UF_weight (d + 7) 38 [some (.ref 0), some (.int x1), some (.int x2), some (.int x3), some (.int x4), some (.int x5), some (.int x6), none] [] h 0 0 (iQ Q) := by
  intro n
  induction n with
  | zero => intro x1 x2 x3 x4 x5 x6 h H; exact H.elim
  | succ n k38 =>
    intro x1 x2 x3 x4 x5 x6 h H
    refine A_iload d_UF_weight_38 rfl ?_
    refine A_aload_n d_UF_weight_40 rfl ?_
    refine A_get (v := .ref 5) d_UF_weight_41 (fo_UF_34_11 rfl) (vA_s (by decide)) rfl (by first | rfl | (show Value.int _ = Value.int _; simp [wI, wL, wR, wC, up])) ?_
    refine A_get (v := .int (h.1 5 3)) d_UF_weight_44 (fo_UF_80_10 rfl) (vA_s (by decide)) rfl (by first | rfl | (show Value.int _ = Value.int _; simp [wI, wL, wR, wC, up])) ?_
    refine A_icmp_ge 112 d_UF_weight_47 (by decide) (fun z => ?_) (fun z => ?_)
    · have H := H.1 z
      refine A_iload_n d_UF_weight_112 rfl ?_
      refine A_if_ne 121 d_UF_weight_113 (by decide) (fun z => ?_) (fun z => ?_)
      · have H := H.1 z
        refine A_iload d_UF_weight_121 rfl ?_
        exact A_iret d_UF_weight_123 rfl rfl H
      · have H := H.2 z
        refine A_iload d_UF_weight_116 rfl ?_
        refine A_goto 123 d_UF_weight_118 (by decide) ?_
        exact A_iret d_UF_weight_123 rfl rfl H
    · have H := H.2 z
      refine A_aload_n d_UF_weight_50 rfl ?_
      refine A_cV [.ref 0] [] (ct_UF_110 rfl) d_UF_weight_51 rfl rfl (by decide) (Nat.le_of_ble_eq_true rfl) (rcA_o (c := 11) rfl (vA_s (by decide)) rfl (by decide) rfl) (ok_UF_ready (d := d + 3) H) (fun h1 H => ?_)
      refine A_aload_n d_UF_weight_54 rfl ?_
      refine A_get (v := .ref 13) d_UF_weight_55 (fo_UF_44_11 rfl) (vA_s (by decide)) rfl (by first | rfl | (show Value.int _ = Value.int _; simp [wI, wL, wR, wC, up])) ?_
      refine A_get (v := .ref 14) d_UF_weight_58 (fo_UF_149_2 rfl) (vA_s (by decide)) rfl (by first | rfl | (show Value.int _ = Value.int _; simp [wI, wL, wR, wC, up])) ?_
      refine A_get (v := .ref 16) d_UF_weight_61 (fo_UF_124_10 rfl) (vA_s (by decide)) rfl (by first | rfl | (show Value.int _ = Value.int _; simp [wI, wL, wR, wC, up])) ?_
      refine A_iload d_UF_weight_64 rfl ?_
      refine A_dup2 rfl rfl d_UF_weight_66 ?_
      obtain ⟨c2, H⟩ := H
      refine A_ialdv (n := 7) (v := (h1.1 16 x6)) d_UF_weight_67 (vA_s (by decide)) rfl c2 rfl ?_
      refine A_iload_n d_UF_weight_68 rfl ?_
      refine A_iadd d_UF_weight_69 ?_
      refine A_iast (n := 7) d_UF_weight_70 (vA_s (by decide)) rfl c2 ?_
      refine A_aload_n d_UF_weight_71 rfl ?_
      refine A_get (v := .ref 13) d_UF_weight_72 (fo_UF_44_11 rfl) (vA_s (by decide)) rfl (by first | rfl | (show Value.int _ = Value.int _; simp [wI, wL, wR, wC, up])) ?_
      refine A_iload_n d_UF_weight_75 rfl ?_
      refine A_cV [.ref 13, .int x2] [] (ct_UF_146 rfl) d_UF_weight_76 rfl rfl (by decide) (Nat.le_of_ble_eq_true rfl) (rcA_o (c := 2) rfl (vA_s (by decide)) rfl (by decide) rfl) (ok_Dusk_go (d := d) H) (fun h3 H => ?_)
      refine A_aload_n d_UF_weight_79 rfl ?_
      refine A_get (v := .ref 13) d_UF_weight_80 (fo_UF_44_11 rfl) (vA_s (by decide)) rfl (by first | rfl | (show Value.int _ = Value.int _; simp [wI, wL, wR, wC, up])) ?_
      refine A_get (v := .ref 14) d_UF_weight_83 (fo_UF_149_2 rfl) (vA_s (by decide)) rfl (by first | rfl | (show Value.int _ = Value.int _; simp [wI, wL, wR, wC, up])) ?_
      refine A_cI [.ref 14] [] (ct_UF_184 rfl) d_UF_weight_86 rfl rfl (by decide) (Nat.le_of_ble_eq_true rfl) (rcA_o (c := 10) rfl (vA_s (by decide)) rfl (by decide) rfl) (ok_Town_downCount (d := d + 4) H) (fun r5 h4 H => ?_)
      refine A_istore [some (.ref 0), some (.int x1), some (.int x2), some (.int x3), some (.int x4), some (.int x5), some (.int x6), some (.int r5)] d_UF_weight_89 (by decide) rfl rfl ?_
      refine A_iload d_UF_weight_91 rfl ?_
      refine A_iload d_UF_weight_93 rfl ?_
      refine A_icmp_le 106 d_UF_weight_95 (by decide) (fun z => ?_) (fun z => ?_)
      · have H := H.1 z
        refine A_sub (L' := [some (.ref 0), some (.int x1), some (.int x2), some (.int x3), some (.int x4), some (.int x5), some (.int x6), none]) ⟨rfl, rfl, rfl, rfl, rfl, rfl, rfl, trivial⟩ ?_
        exact r_UF_weight_106  k38 _ _ _ _ _ _ _ H
      · have H := H.2 z
        refine A_iload d_UF_weight_98 rfl ?_
        refine A_istore [some (.ref 0), some (.int x1), some (.int x2), some (.int x3), some (.int r5), some (.int x5), some (.int x6), some (.int r5)] d_UF_weight_100 (by decide) rfl rfl ?_
        refine A_iload d_UF_weight_102 rfl ?_
        refine A_istore [some (.ref 0), some (.int x1), some (.int x2), some (.int x3), some (.int r5), some (.int x6), some (.int x6), some (.int r5)] d_UF_weight_104 (by decide) rfl rfl ?_
        refine A_sub (L' := [some (.ref 0), some (.int x1), some (.int x2), some (.int x3), some (.int r5), some (.int x6), some (.int x6), none]) ⟨rfl, rfl, rfl, rfl, rfl, rfl, rfl, trivial⟩ ?_
        exact r_UF_weight_106  k38 _ _ _ _ _ _ _ H
set_option maxRecDepth 20000 in
theorem r_UF_weight_0 {G : GG} {d : Nat} {Q : Int32 → AH → Prop} (x1 : Int32) (x2 : Int32) (x3 : Int32) (h : AH) (H : p_UF_weight Q x1 x2 x3 h) : Att G T1 m_UF_weight (d + 7) 0 [some (.ref 0), some (.int x1), some (.int x2), some (.int x3), none, none, none, none] [] h 0 0 (iQ Q) := by
  refine A_iload_n d_UF_weight_0 rfl ?_
  refine A_iconst 0 (by decide) d_UF_weight_1 ?_
  refine A_bipush 20 (by decide) d_UF_weight_2 ?_
  refine A_cI [.int x1, .int 0, .int 20] [] (ct_UF_95 rfl) d_UF_weight_4 rfl rfl (by decide) (Nat.le_of_ble_eq_true rfl) trivial (ok_UF_within (d := d + 6) H) (fun r2 h1 H => ?_)
  refine A_if_eq 26 d_UF_weight_7 (by decide) (fun z => ?_) (fun z => ?_)
  · have H := H.1 z
    refine A_bipush (-2) (by decide) d_UF_weight_26 ?_
    exact A_iret d_UF_weight_28 rfl rfl H
  · have H := H.2 z
    refine A_iload_n d_UF_weight_10 rfl ?_
    refine A_cI [.int x2] [] (ct_UF_143 rfl) d_UF_weight_11 rfl rfl (by decide) (Nat.le_of_ble_eq_true rfl) trivial (ok_UF_isSpan (d := d + 5) H) (fun r4 h3 H => ?_)
    refine A_if_eq 26 d_UF_weight_14 (by decide) (fun z => ?_) (fun z => ?_)
    · have H := H.1 z
      refine A_bipush (-2) (by decide) d_UF_weight_26 ?_
      exact A_iret d_UF_weight_28 rfl rfl H
    · have H := H.2 z
      refine A_iload_n d_UF_weight_17 rfl ?_
      refine A_iconst 0 (by decide) d_UF_weight_18 ?_
      refine A_iconst 1 (by decide) d_UF_weight_19 ?_
      refine A_cI [.int x3, .int 0, .int 1] [] (ct_UF_95 rfl) d_UF_weight_20 rfl rfl (by decide) (Nat.le_of_ble_eq_true rfl) trivial (ok_UF_within (d := d + 6) H) (fun r6 h5 H => ?_)
      refine A_if_ne 29 d_UF_weight_23 (by decide) (fun z => ?_) (fun z => ?_)
      · have H := H.1 z
        refine A_iconst (-1) (by decide) d_UF_weight_29 ?_
        refine A_istore [some (.ref 0), some (.int x1), some (.int x2), some (.int x3), some (.int (-1)), none, none, none] d_UF_weight_30 (by decide) rfl rfl ?_
        refine A_iconst (-1) (by decide) d_UF_weight_32 ?_
        refine A_istore [some (.ref 0), some (.int x1), some (.int x2), some (.int x3), some (.int (-1)), some (.int (-1)), none, none] d_UF_weight_33 (by decide) rfl rfl ?_
        refine A_iconst 0 (by decide) d_UF_weight_35 ?_
        refine A_istore [some (.ref 0), some (.int x1), some (.int x2), some (.int x3), some (.int (-1)), some (.int (-1)), some (.int 0), none] d_UF_weight_36 (by decide) rfl rfl ?_
        obtain ⟨n9, H⟩ := H
        exact r_UF_weight_38   n9 _ _ _ _ _ _ _ H
      · have H := H.2 z
        refine A_bipush (-2) (by decide) d_UF_weight_26 ?_
        exact A_iret d_UF_weight_28 rfl rfl H
set_option maxRecDepth 20000 in
theorem ok_UF_weight {G : GG} {d : Nat} {Q : Int32 → AH → Prop} {x1 : Int32} {x2 : Int32} {x3 : Int32} {h : AH} (H : p_UF_weight Q x1 x2 x3 h) : WP G T1 m_UF_weight (d + 7) [.ref 0, .int x1, .int x2, .int x3] h 0 0 (iQ Q) := by
  exact WP.enter 4 (by decide) rfl rfl (r_UF_weight_0 x1 x2 x3 h H)
