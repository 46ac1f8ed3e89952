theorem d_MO_dawn_0 : decode prog_14_method_62_code 0 = .ok (.iload_n 1, 1) := by decide +kernel
theorem d_MO_dawn_1 : decode prog_14_method_62_code 1 = .ok (.iconst 0, 1) := by decide +kernel
theorem d_MO_dawn_2 : decode prog_14_method_62_code 2 = .ok (.bipush 9, 2) := by decide +kernel
theorem d_MO_dawn_4 : decode prog_14_method_62_code 4 = .ok (.invokestatic 93, 3) := by decide +kernel
theorem d_MO_dawn_7 : decode prog_14_method_62_code 7 = .ok (.ifCond .ne 6, 3) := by decide +kernel
theorem d_MO_dawn_10 : decode prog_14_method_62_code 10 = .ok (.bipush (-2), 2) := by decide +kernel
theorem d_MO_dawn_12 : decode prog_14_method_62_code 12 = .ok (.ireturn, 1) := by decide +kernel
theorem d_MO_dawn_13 : decode prog_14_method_62_code 13 = .ok (.iconst 0, 1) := by decide +kernel
theorem d_MO_dawn_14 : decode prog_14_method_62_code 14 = .ok (.istore_n 2, 1) := by decide +kernel
theorem d_MO_dawn_15 : decode prog_14_method_62_code 15 = .ok (.iconst 0, 1) := by decide +kernel
theorem d_MO_dawn_16 : decode prog_14_method_62_code 16 = .ok (.istore_n 3, 1) := by decide +kernel
theorem d_MO_dawn_17 : decode prog_14_method_62_code 17 = .ok (.iload_n 3, 1) := by decide +kernel
theorem d_MO_dawn_18 : decode prog_14_method_62_code 18 = .ok (.aload_n 0, 1) := by decide +kernel
theorem d_MO_dawn_19 : decode prog_14_method_62_code 19 = .ok (.getfield 90, 3) := by decide +kernel
theorem d_MO_dawn_22 : decode prog_14_method_62_code 22 = .ok (.if_icmp .ge 45, 3) := by decide +kernel
theorem d_MO_dawn_25 : decode prog_14_method_62_code 25 = .ok (.aload_n 0, 1) := by decide +kernel
theorem d_MO_dawn_26 : decode prog_14_method_62_code 26 = .ok (.getfield 19, 3) := by decide +kernel
theorem d_MO_dawn_29 : decode prog_14_method_62_code 29 = .ok (.iload_n 3, 1) := by decide +kernel
theorem d_MO_dawn_30 : decode prog_14_method_62_code 30 = .ok (.iaload, 1) := by decide +kernel
theorem d_MO_dawn_31 : decode prog_14_method_62_code 31 = .ok (.iload_n 1, 1) := by decide +kernel
theorem d_MO_dawn_32 : decode prog_14_method_62_code 32 = .ok (.iadd, 1) := by decide +kernel
theorem d_MO_dawn_33 : decode prog_14_method_62_code 33 = .ok (.iconst 0, 1) := by decide +kernel
theorem d_MO_dawn_34 : decode prog_14_method_62_code 34 = .ok (.bipush 9, 2) := by decide +kernel
theorem d_MO_dawn_36 : decode prog_14_method_62_code 36 = .ok (.invokestatic 179, 3) := by decide +kernel
theorem d_MO_dawn_39 : decode prog_14_method_62_code 39 = .ok (.istore 4, 2) := by decide +kernel
theorem d_MO_dawn_41 : decode prog_14_method_62_code 41 = .ok (.iload_n 2, 1) := by decide +kernel
theorem d_MO_dawn_42 : decode prog_14_method_62_code 42 = .ok (.iload 4, 2) := by decide +kernel
theorem d_MO_dawn_44 : decode prog_14_method_62_code 44 = .ok (.aload_n 0, 1) := by decide +kernel
theorem d_MO_dawn_45 : decode prog_14_method_62_code 45 = .ok (.getfield 19, 3) := by decide +kernel
theorem d_MO_dawn_48 : decode prog_14_method_62_code 48 = .ok (.iload_n 3, 1) := by decide +kernel
theorem d_MO_dawn_49 : decode prog_14_method_62_code 49 = .ok (.iaload, 1) := by decide +kernel
theorem d_MO_dawn_50 : decode prog_14_method_62_code 50 = .ok (.isub, 1) := by decide +kernel
theorem d_MO_dawn_51 : decode prog_14_method_62_code 51 = .ok (.iadd, 1) := by decide +kernel
theorem d_MO_dawn_52 : decode prog_14_method_62_code 52 = .ok (.istore_n 2, 1) := by decide +kernel
theorem d_MO_dawn_53 : decode prog_14_method_62_code 53 = .ok (.aload_n 0, 1) := by decide +kernel
theorem d_MO_dawn_54 : decode prog_14_method_62_code 54 = .ok (.getfield 19, 3) := by decide +kernel
theorem d_MO_dawn_57 : decode prog_14_method_62_code 57 = .ok (.iload_n 3, 1) := by decide +kernel
theorem d_MO_dawn_58 : decode prog_14_method_62_code 58 = .ok (.iload 4, 2) := by decide +kernel
theorem d_MO_dawn_60 : decode prog_14_method_62_code 60 = .ok (.iastore, 1) := by decide +kernel
theorem d_MO_dawn_61 : decode prog_14_method_62_code 61 = .ok (.iinc 3 1, 3) := by decide +kernel
theorem d_MO_dawn_64 : decode prog_14_method_62_code 64 = .ok (.goto (-47), 3) := by decide +kernel
theorem d_MO_dawn_67 : decode prog_14_method_62_code 67 = .ok (.iload_n 2, 1) := by decide +kernel
theorem d_MO_dawn_68 : decode prog_14_method_62_code 68 = .ok (.ireturn, 1) := by decide +kernel
def p_MO_dawn_17 (Q : Int32 → AH → Prop) : Nat → Int32 → Int32 → Int32 → AH → Prop
  | 0 => fun _ _ _ _ => False
  | n + 1 => fun x1 x2 x3 h => let K17 := p_MO_dawn_17 Q n; (((h.1 59 0) ≤ x3 → Q x2 h) ∧ (¬ (h.1 59 0) ≤ x3 → inb x3 7 ∧ p_MO_within (fun r3 h2 => inb x3 7 ∧ K17 x1 (x2 + (r3 - (h2.1 63 x3))) (x3 + 1) (wI h2 63 x3 r3)) ((h.1 63 x3) + x1) 0 9 h))
def p_MO_dawn (Q : Int32 → AH → Prop) (x1 : Int32) (h : AH) : Prop := p_MO_in (fun r2 h1 => ((¬ r2 = 0 → ∃ n, p_MO_dawn_17 Q   n x1 0 0 h1) ∧ (r2 = 0 → Q (-2) h1))) x1 0 9 h
set_option maxRecDepth 20000 in
theorem r_MO_dawn_17 {G : GG} {d : Nat} {Q : Int32 → AH → Prop} : ∀ (n : Nat) (x1 : Int32) (x2 : Int32) (x3 : Int32) (h : AH), p_MO_dawn_17 Q n x1 x2 x3 h → Att G T1 m_MO_dawn (d + 1) 17 [some (.ref 59), some (.int x1), some (.int x2), some (.int x3), none] [] h 0 0 (iQ Q) := by
  intro n
  induction n with
  | zero => intro x1 x2 x3 h H; exact H.elim
  | succ n k17 =>
    intro x1 x2 x3 h H
    refine A_iload_n d_MO_dawn_17 rfl ?_
    refine A_aload_n d_MO_dawn_18 rfl ?_
    refine A_get (v := .int (h.1 59 0)) d_MO_dawn_19 (fo_MO_90_12 rfl) (vA_s (by decide)) rfl rfl ?_
    refine A_icmp_ge 67 d_MO_dawn_22 (by decide) (fun z => ?_) (fun z => ?_)
    · have H := H.1 z
      refine A_iload_n d_MO_dawn_67 rfl ?_
      exact A_iret d_MO_dawn_68 rfl rfl H
    · have H := H.2 z
      refine A_aload_n d_MO_dawn_25 rfl ?_
      refine A_get (v := .ref 63) d_MO_dawn_26 (fo_MO_19_12 rfl) (vA_s (by decide)) rfl rfl ?_
      refine A_iload_n d_MO_dawn_29 rfl ?_
      obtain ⟨c1, H⟩ := H
      refine A_iald (n := 7) d_MO_dawn_30 (vA_s (by decide)) rfl c1 ?_
      refine A_iload_n d_MO_dawn_31 rfl ?_
      refine A_iadd d_MO_dawn_32 ?_
      refine A_iconst 0 (by decide) d_MO_dawn_33 ?_
      refine A_bipush 9 (by decide) d_MO_dawn_34 ?_
      refine A_cI [.int ((h.1 63 x3) + x1), .int 0, .int 9] [] (ct_MO_179 rfl) d_MO_dawn_36 rfl rfl (by decide) (Nat.le_of_ble_eq_true rfl) trivial (ok_MO_within (d := d) H) (fun r3 h2 H => ?_)
      refine A_istore [some (.ref 59), some (.int x1), some (.int x2), some (.int x3), some (.int r3)] d_MO_dawn_39 (by decide) rfl rfl ?_
      refine A_iload_n d_MO_dawn_41 rfl ?_
      refine A_iload d_MO_dawn_42 rfl ?_
      refine A_aload_n d_MO_dawn_44 rfl ?_
      refine A_get (v := .ref 63) d_MO_dawn_45 (fo_MO_19_12 rfl) (vA_s (by decide)) rfl rfl ?_
      refine A_iload_n d_MO_dawn_48 rfl ?_
      obtain ⟨c4, H⟩ := H
      refine A_iald (n := 7) d_MO_dawn_49 (vA_s (by decide)) rfl c4 ?_
      refine A_isub d_MO_dawn_50 ?_
      refine A_iadd d_MO_dawn_51 ?_
      refine A_istore_n [some (.ref 59), some (.int x1), some (.int (x2 + (r3 - (h2.1 63 x3)))), some (.int x3), some (.int r3)] d_MO_dawn_52 (by decide) rfl rfl ?_
      refine A_aload_n d_MO_dawn_53 rfl ?_
      refine A_get (v := .ref 63) d_MO_dawn_54 (fo_MO_19_12 rfl) (vA_s (by decide)) rfl rfl ?_
      refine A_iload_n d_MO_dawn_57 rfl ?_
      refine A_iload d_MO_dawn_58 rfl ?_
      refine A_iast (n := 7) d_MO_dawn_60 (vA_s (by decide)) rfl c4 ?_
      refine A_iinc 1 [some (.ref 59), some (.int x1), some (.int (x2 + (r3 - (h2.1 63 x3)))), some (.int (x3 + 1)), some (.int r3)] d_MO_dawn_61 rfl (by decide) (by decide) rfl rfl ?_
      refine A_goto 17 d_MO_dawn_64 (by decide) ?_
      refine A_sub (L' := [some (.ref 59), some (.int x1), some (.int (x2 + (r3 - (h2.1 63 x3)))), some (.int (x3 + 1)), none]) ⟨rfl, rfl, rfl, rfl, trivial⟩ ?_
      exact k17 _ _ _ _ H
set_option maxRecDepth 20000 in
theorem r_MO_dawn_0 {G : GG} {d : Nat} {Q : Int32 → AH → Prop} (x1 : Int32) (h : AH) (H : p_MO_dawn Q x1 h) : Att G T1 m_MO_dawn (d + 1) 0 [some (.ref 59), some (.int x1), none, none, none] [] h 0 0 (iQ Q) := by
  refine A_iload_n d_MO_dawn_0 rfl ?_
  refine A_iconst 0 (by decide) d_MO_dawn_1 ?_
  refine A_bipush 9 (by decide) d_MO_dawn_2 ?_
  refine A_cI [.int x1, .int 0, .int 9] [] (ct_MO_93 rfl) d_MO_dawn_4 rfl rfl (by decide) (Nat.le_of_ble_eq_true rfl) trivial (ok_MO_in (d := d) H) (fun r2 h1 H => ?_)
  refine A_if_ne 13 d_MO_dawn_7 (by decide) (fun z => ?_) (fun z => ?_)
  · have H := H.1 z
    refine A_iconst 0 (by decide) d_MO_dawn_13 ?_
    refine A_istore_n [some (.ref 59), some (.int x1), some (.int 0), none, none] d_MO_dawn_14 (by decide) rfl rfl ?_
    refine A_iconst 0 (by decide) d_MO_dawn_15 ?_
    refine A_istore_n [some (.ref 59), some (.int x1), some (.int 0), some (.int 0), none] d_MO_dawn_16 (by decide) rfl rfl ?_
    obtain ⟨n9, H⟩ := H
    exact r_MO_dawn_17   n9 _ _ _ _ H
  · have H := H.2 z
    refine A_bipush (-2) (by decide) d_MO_dawn_10 ?_
    exact A_iret d_MO_dawn_12 rfl rfl H
set_option maxRecDepth 20000 in
theorem ok_MO_dawn {G : GG} {d : Nat} {Q : Int32 → AH → Prop} {x1 : Int32} {h : AH} (H : p_MO_dawn Q x1 h) : WP G T1 m_MO_dawn (d + 1) [.ref 59, .int x1] h 0 0 (iQ Q) := by
  exact WP.enter 3 (by decide) rfl rfl (r_MO_dawn_0 x1 h H)
theorem d_MO_sheetWrong_0 : decode prog_14_method_63_code 0 = .ok (.iload_n 1, 1) := by decide +kernel
theorem d_MO_sheetWrong_1 : decode prog_14_method_63_code 1 = .ok (.iconst 0, 1) := by decide +kernel
theorem d_MO_sheetWrong_2 : decode prog_14_method_63_code 2 = .ok (.iconst 3, 1) := by decide +kernel
theorem d_MO_sheetWrong_3 : decode prog_14_method_63_code 3 = .ok (.invokestatic 93, 3) := by decide +kernel
theorem d_MO_sheetWrong_6 : decode prog_14_method_63_code 6 = .ok (.ifCond .ne 6, 3) := by decide +kernel
theorem d_MO_sheetWrong_9 : decode prog_14_method_63_code 9 = .ok (.bipush (-2), 2) := by decide +kernel
theorem d_MO_sheetWrong_11 : decode prog_14_method_63_code 11 = .ok (.ireturn, 1) := by decide +kernel
theorem d_MO_sheetWrong_12 : decode prog_14_method_63_code 12 = .ok (.aload_n 0, 1) := by decide +kernel
theorem d_MO_sheetWrong_13 : decode prog_14_method_63_code 13 = .ok (.getfield 40, 3) := by decide +kernel
theorem d_MO_sheetWrong_16 : decode prog_14_method_63_code 16 = .ok (.iload_n 1, 1) := by decide +kernel
theorem d_MO_sheetWrong_17 : decode prog_14_method_63_code 17 = .ok (.iaload, 1) := by decide +kernel
theorem d_MO_sheetWrong_18 : decode prog_14_method_63_code 18 = .ok (.iconst (-1), 1) := by decide +kernel
theorem d_MO_sheetWrong_19 : decode prog_14_method_63_code 19 = .ok (.if_icmp .ne 6, 3) := by decide +kernel
theorem d_MO_sheetWrong_22 : decode prog_14_method_63_code 22 = .ok (.bipush (-11), 2) := by decide +kernel
theorem d_MO_sheetWrong_24 : decode prog_14_method_63_code 24 = .ok (.ireturn, 1) := by decide +kernel
theorem d_MO_sheetWrong_25 : decode prog_14_method_63_code 25 = .ok (.aload_n 0, 1) := by decide +kernel
theorem d_MO_sheetWrong_26 : decode prog_14_method_63_code 26 = .ok (.getfield 43, 3) := by decide +kernel
theorem d_MO_sheetWrong_29 : decode prog_14_method_63_code 29 = .ok (.iload_n 1, 1) := by decide +kernel
theorem d_MO_sheetWrong_30 : decode prog_14_method_63_code 30 = .ok (.iaload, 1) := by decide +kernel
theorem d_MO_sheetWrong_31 : decode prog_14_method_63_code 31 = .ok (.aload_n 0, 1) := by decide +kernel
theorem d_MO_sheetWrong_32 : decode prog_14_method_63_code 32 = .ok (.getfield 90, 3) := by decide +kernel
theorem d_MO_sheetWrong_35 : decode prog_14_method_63_code 35 = .ok (.if_icmp .ne 7, 3) := by decide +kernel
theorem d_MO_sheetWrong_38 : decode prog_14_method_63_code 38 = .ok (.iconst 0, 1) := by decide +kernel
theorem d_MO_sheetWrong_39 : decode prog_14_method_63_code 39 = .ok (.goto 5, 3) := by decide +kernel
theorem d_MO_sheetWrong_42 : decode prog_14_method_63_code 42 = .ok (.bipush (-2), 2) := by decide +kernel
theorem d_MO_sheetWrong_44 : decode prog_14_method_63_code 44 = .ok (.ireturn, 1) := by decide +kernel
def p_MO_sheetWrong (Q : Int32 → AH → Prop) (x1 : Int32) (h : AH) : Prop := p_MO_in (fun r2 h1 => ((¬ r2 = 0 → inb x1 4 ∧ ((¬ (h1.1 70 x1) = (-1) → ((¬ (h1.1 71 x1) = (h1.1 59 0) → Q (-2) h1) ∧ ((h1.1 71 x1) = (h1.1 59 0) → Q 0 h1))) ∧ ((h1.1 70 x1) = (-1) → Q (-11) h1))) ∧ (r2 = 0 → Q (-2) h1))) x1 0 3 h
set_option maxRecDepth 20000 in
theorem r_MO_sheetWrong_0 {G : GG} {d : Nat} {Q : Int32 → AH → Prop} (x1 : Int32) (h : AH) (H : p_MO_sheetWrong Q x1 h) : Att G T1 m_MO_sheetWrong (d + 1) 0 [some (.ref 59), some (.int x1)] [] h 0 0 (iQ Q) := by
  refine A_iload_n d_MO_sheetWrong_0 rfl ?_
  refine A_iconst 0 (by decide) d_MO_sheetWrong_1 ?_
  refine A_iconst 3 (by decide) d_MO_sheetWrong_2 ?_
  refine A_cI [.int x1, .int 0, .int 3] [] (ct_MO_93 rfl) d_MO_sheetWrong_3 rfl rfl (by decide) (Nat.le_of_ble_eq_true rfl) trivial (ok_MO_in (d := d) H) (fun r2 h1 H => ?_)
  refine A_if_ne 12 d_MO_sheetWrong_6 (by decide) (fun z => ?_) (fun z => ?_)
  · have H := H.1 z
    refine A_aload_n d_MO_sheetWrong_12 rfl ?_
    refine A_get (v := .ref 70) d_MO_sheetWrong_13 (fo_MO_40_12 rfl) (vA_s (by decide)) rfl rfl ?_
    refine A_iload_n d_MO_sheetWrong_16 rfl ?_
    obtain ⟨c3, H⟩ := H
    refine A_iald (n := 4) d_MO_sheetWrong_17 (vA_s (by decide)) rfl c3 ?_
    refine A_iconst (-1) (by decide) d_MO_sheetWrong_18 ?_
    refine A_icmp_ne 25 d_MO_sheetWrong_19 (by decide) (fun z => ?_) (fun z => ?_)
    · have H := H.1 z
      refine A_aload_n d_MO_sheetWrong_25 rfl ?_
      refine A_get (v := .ref 71) d_MO_sheetWrong_26 (fo_MO_43_12 rfl) (vA_s (by decide)) rfl rfl ?_
      refine A_iload_n d_MO_sheetWrong_29 rfl ?_
      refine A_iald (n := 4) d_MO_sheetWrong_30 (vA_s (by decide)) rfl c3 ?_
      refine A_aload_n d_MO_sheetWrong_31 rfl ?_
      refine A_get (v := .int (h1.1 59 0)) d_MO_sheetWrong_32 (fo_MO_90_12 rfl) (vA_s (by decide)) rfl rfl ?_
      refine A_icmp_ne 42 d_MO_sheetWrong_35 (by decide) (fun z => ?_) (fun z => ?_)
      · have H := H.1 z
        refine A_bipush (-2) (by decide) d_MO_sheetWrong_42 ?_
        exact A_iret d_MO_sheetWrong_44 rfl rfl H
      · have H := H.2 z
        refine A_iconst 0 (by decide) d_MO_sheetWrong_38 ?_
        refine A_goto 44 d_MO_sheetWrong_39 (by decide) ?_
        exact A_iret d_MO_sheetWrong_44 rfl rfl H
    · have H := H.2 z
      refine A_bipush (-11) (by decide) d_MO_sheetWrong_22 ?_
      exact A_iret d_MO_sheetWrong_24 rfl rfl H
  · have H := H.2 z
    refine A_bipush (-2) (by decide) d_MO_sheetWrong_9 ?_
    exact A_iret d_MO_sheetWrong_11 rfl rfl H
set_option maxRecDepth 20000 in
theorem ok_MO_sheetWrong {G : GG} {d : Nat} {Q : Int32 → AH → Prop} {x1 : Int32} {h : AH} (H : p_MO_sheetWrong Q x1 h) : WP G T1 m_MO_sheetWrong (d + 1) [.ref 59, .int x1] h 0 0 (iQ Q) := by
  exact WP.enter 0 (by decide) rfl rfl (r_MO_sheetWrong_0 x1 h H)
theorem d_MO_sheet_0 : decode prog_14_method_78_code 0 = .ok (.iload_n 1, 1) := by decide +kernel
theorem d_MO_sheet_1 : decode prog_14_method_78_code 1 = .ok (.iconst 0, 1) := by decide +kernel
theorem d_MO_sheet_2 : decode prog_14_method_78_code 2 = .ok (.iconst 3, 1) := by decide +kernel
theorem d_MO_sheet_3 : decode prog_14_method_78_code 3 = .ok (.invokestatic 93, 3) := by decide +kernel
theorem d_MO_sheet_6 : decode prog_14_method_78_code 6 = .ok (.ifCond .eq 23, 3) := by decide +kernel
theorem d_MO_sheet_9 : decode prog_14_method_78_code 9 = .ok (.iload_n 2, 1) := by decide +kernel
theorem d_MO_sheet_10 : decode prog_14_method_78_code 10 = .ok (.iconst (-1), 1) := by decide +kernel
theorem d_MO_sheet_11 : decode prog_14_method_78_code 11 = .ok (.iconst 2, 1) := by decide +kernel
theorem d_MO_sheet_12 : decode prog_14_method_78_code 12 = .ok (.invokestatic 93, 3) := by decide +kernel
theorem d_MO_sheet_15 : decode prog_14_method_78_code 15 = .ok (.ifCond .eq 14, 3) := by decide +kernel
theorem d_MO_sheet_18 : decode prog_14_method_78_code 18 = .ok (.iload_n 2, 1) := by decide +kernel
theorem d_MO_sheet_19 : decode prog_14_method_78_code 19 = .ok (.iconst (-1), 1) := by decide +kernel
theorem d_MO_sheet_20 : decode prog_14_method_78_code 20 = .ok (.if_icmp .eq 12, 3) := by decide +kernel
theorem d_MO_sheet_23 : decode prog_14_method_78_code 23 = .ok (.iload_n 3, 1) := by decide +kernel
theorem d_MO_sheet_24 : decode prog_14_method_78_code 24 = .ok (.bipush 40, 2) := by decide +kernel
theorem d_MO_sheet_26 : decode prog_14_method_78_code 26 = .ok (.if_icmp .le 6, 3) := by decide +kernel
theorem d_MO_sheet_29 : decode prog_14_method_78_code 29 = .ok (.bipush (-2), 2) := by decide +kernel
theorem d_MO_sheet_31 : decode prog_14_method_78_code 31 = .ok (.ireturn, 1) := by decide +kernel
theorem d_MO_sheet_32 : decode prog_14_method_78_code 32 = .ok (.iload_n 2, 1) := by decide +kernel
theorem d_MO_sheet_33 : decode prog_14_method_78_code 33 = .ok (.iconst (-1), 1) := by decide +kernel
theorem d_MO_sheet_34 : decode prog_14_method_78_code 34 = .ok (.if_icmp .eq 10, 3) := by decide +kernel
theorem d_MO_sheet_37 : decode prog_14_method_78_code 37 = .ok (.iload_n 3, 1) := by decide +kernel
theorem d_MO_sheet_38 : decode prog_14_method_78_code 38 = .ok (.ifCond .ge 6, 3) := by decide +kernel
theorem d_MO_sheet_41 : decode prog_14_method_78_code 41 = .ok (.bipush (-14), 2) := by decide +kernel
theorem d_MO_sheet_43 : decode prog_14_method_78_code 43 = .ok (.ireturn, 1) := by decide +kernel
theorem d_MO_sheet_44 : decode prog_14_method_78_code 44 = .ok (.aload_n 0, 1) := by decide +kernel
theorem d_MO_sheet_45 : decode prog_14_method_78_code 45 = .ok (.getfield 40, 3) := by decide +kernel
theorem d_MO_sheet_48 : decode prog_14_method_78_code 48 = .ok (.iload_n 1, 1) := by decide +kernel
theorem d_MO_sheet_49 : decode prog_14_method_78_code 49 = .ok (.iload_n 2, 1) := by decide +kernel
theorem d_MO_sheet_50 : decode prog_14_method_78_code 50 = .ok (.iastore, 1) := by decide +kernel
theorem d_MO_sheet_51 : decode prog_14_method_78_code 51 = .ok (.aload_n 0, 1) := by decide +kernel
theorem d_MO_sheet_52 : decode prog_14_method_78_code 52 = .ok (.getfield 43, 3) := by decide +kernel
theorem d_MO_sheet_55 : decode prog_14_method_78_code 55 = .ok (.iload_n 1, 1) := by decide +kernel
theorem d_MO_sheet_56 : decode prog_14_method_78_code 56 = .ok (.iload_n 2, 1) := by decide +kernel
theorem d_MO_sheet_57 : decode prog_14_method_78_code 57 = .ok (.iconst (-1), 1) := by decide +kernel
theorem d_MO_sheet_58 : decode prog_14_method_78_code 58 = .ok (.if_icmp .ne 7, 3) := by decide +kernel
theorem d_MO_sheet_61 : decode prog_14_method_78_code 61 = .ok (.iconst 0, 1) := by decide +kernel
theorem d_MO_sheet_62 : decode prog_14_method_78_code 62 = .ok (.goto 4, 3) := by decide +kernel
theorem d_MO_sheet_65 : decode prog_14_method_78_code 65 = .ok (.iload_n 3, 1) := by decide +kernel
theorem d_MO_sheet_66 : decode prog_14_method_78_code 66 = .ok (.iastore, 1) := by decide +kernel
theorem d_MO_sheet_67 : decode prog_14_method_78_code 67 = .ok (.iconst 0, 1) := by decide +kernel
theorem d_MO_sheet_68 : decode prog_14_method_78_code 68 = .ok (.istore 4, 2) := by decide +kernel
theorem d_MO_sheet_70 : decode prog_14_method_78_code 70 = .ok (.iload 4, 2) := by decide +kernel
theorem d_MO_sheet_72 : decode prog_14_method_78_code 72 = .ok (.bipush 40, 2) := by decide +kernel
theorem d_MO_sheet_74 : decode prog_14_method_78_code 74 = .ok (.if_icmp .ge 22, 3) := by decide +kernel
theorem d_MO_sheet_77 : decode prog_14_method_78_code 77 = .ok (.aload_n 0, 1) := by decide +kernel
theorem d_MO_sheet_78 : decode prog_14_method_78_code 78 = .ok (.getfield 46, 3) := by decide +kernel
theorem d_MO_sheet_81 : decode prog_14_method_78_code 81 = .ok (.bipush 40, 2) := by decide +kernel
theorem d_MO_sheet_83 : decode prog_14_method_78_code 83 = .ok (.iload_n 1, 1) := by decide +kernel
theorem d_MO_sheet_84 : decode prog_14_method_78_code 84 = .ok (.imul, 1) := by decide +kernel
theorem d_MO_sheet_85 : decode prog_14_method_78_code 85 = .ok (.iload 4, 2) := by decide +kernel
theorem d_MO_sheet_87 : decode prog_14_method_78_code 87 = .ok (.iadd, 1) := by decide +kernel
theorem d_MO_sheet_88 : decode prog_14_method_78_code 88 = .ok (.iconst 0, 1) := by decide +kernel
theorem d_MO_sheet_89 : decode prog_14_method_78_code 89 = .ok (.iastore, 1) := by decide +kernel
theorem d_MO_sheet_90 : decode prog_14_method_78_code 90 = .ok (.iinc 4 1, 3) := by decide +kernel
theorem d_MO_sheet_93 : decode prog_14_method_78_code 93 = .ok (.goto (-23), 3) := by decide +kernel
theorem d_MO_sheet_96 : decode prog_14_method_78_code 96 = .ok (.iconst 1, 1) := by decide +kernel
theorem d_MO_sheet_97 : decode prog_14_method_78_code 97 = .ok (.ireturn, 1) := by decide +kernel
def p_MO_sheet_70 (Q : Int32 → AH → Prop) : Nat → Int32 → Int32 → AH → Prop
  | 0 => fun _ _ _ => False
  | n + 1 => fun x1 x4 h => let K70 := p_MO_sheet_70 Q n; ((40 ≤ x4 → Q 1 h) ∧ (¬ 40 ≤ x4 → inb ((40 * x1) + x4) 160 ∧ K70 x1 (x4 + 1) (wI h 72 ((40 * x1) + x4) 0)))
def p_MO_sheet_66 (Q : Int32 → AH → Prop) (x1 : Int32) (s1 : Int32) (s2 : Int32) (h : AH) : Prop := inb s1 4 ∧ ∃ n, p_MO_sheet_70 Q   n x1 0 (wI h 71 s1 s2)
def p_MO_sheet_44 (Q : Int32 → AH → Prop) (x1 : Int32) (x2 : Int32) (x3 : Int32) (h : AH) : Prop := inb x1 4 ∧ ((¬ x2 = (-1) → p_MO_sheet_66 Q   x1 x1 x3 (wI h 70 x1 x2)) ∧ (x2 = (-1) → p_MO_sheet_66 Q   x1 x1 0 (wI h 70 x1 x2)))
def p_MO_sheet_32 (Q : Int32 → AH → Prop) (x1 : Int32) (x2 : Int32) (x3 : Int32) (h : AH) : Prop := ((x2 = (-1) → p_MO_sheet_44 Q   x1 x2 x3 h) ∧ (¬ x2 = (-1) → ((0 ≤ x3 → p_MO_sheet_44 Q   x1 x2 x3 h) ∧ (¬ 0 ≤ x3 → Q (-14) h))))
def p_MO_sheet (Q : Int32 → AH → Prop) (x1 : Int32) (x2 : Int32) (x3 : Int32) (h : AH) : Prop := p_MO_in (fun r2 h1 => ((r2 = 0 → Q (-2) h1) ∧ (¬ r2 = 0 → p_MO_in (fun r4 h3 => ((r4 = 0 → Q (-2) h3) ∧ (¬ r4 = 0 → ((x2 = (-1) → p_MO_sheet_32 Q   x1 x2 x3 h3) ∧ (¬ x2 = (-1) → ((x3 ≤ 40 → p_MO_sheet_32 Q   x1 x2 x3 h3) ∧ (¬ x3 ≤ 40 → Q (-2) h3))))))) x2 (-1) 2 h1))) x1 0 3 h
set_option maxRecDepth 20000 in
theorem r_MO_sheet_70 {G : GG} {d : Nat} {Q : Int32 → AH → Prop} : ∀ (n : Nat) (x1 : Int32) (x4 : Int32) (h : AH), p_MO_sheet_70 Q n x1 x4 h → Att G T1 m_MO_sheet (d + 1) 70 [some (.ref 59), some (.int x1), none, none, some (.int x4)] [] h 0 0 (iQ Q) := by
  intro n
  induction n with
  | zero => intro x1 x4 h H; exact H.elim
  | succ n k70 =>
    intro x1 x4 h H
    refine A_iload d_MO_sheet_70 rfl ?_
    refine A_bipush 40 (by decide) d_MO_sheet_72 ?_
    refine A_icmp_ge 96 d_MO_sheet_74 (by decide) (fun z => ?_) (fun z => ?_)
    · have H := H.1 z
      refine A_iconst 1 (by decide) d_MO_sheet_96 ?_
      exact A_iret d_MO_sheet_97 rfl rfl H
    · have H := H.2 z
      refine A_aload_n d_MO_sheet_77 rfl ?_
      refine A_get (v := .ref 72) d_MO_sheet_78 (fo_MO_46_12 rfl) (vA_s (by decide)) rfl rfl ?_
      refine A_bipush 40 (by decide) d_MO_sheet_81 ?_
      refine A_iload_n d_MO_sheet_83 rfl ?_
      refine A_imul d_MO_sheet_84 ?_
      refine A_iload d_MO_sheet_85 rfl ?_
      refine A_iadd d_MO_sheet_87 ?_
      refine A_iconst 0 (by decide) d_MO_sheet_88 ?_
      obtain ⟨c1, H⟩ := H
      refine A_iast (n := 160) d_MO_sheet_89 (vA_s (by decide)) rfl c1 ?_
      refine A_iinc 1 [some (.ref 59), some (.int x1), none, none, some (.int (x4 + 1))] d_MO_sheet_90 rfl (by decide) (by decide) rfl rfl ?_
      refine A_goto 70 d_MO_sheet_93 (by decide) ?_
      exact k70 _ _ _ H
set_option maxRecDepth 20000 in
theorem r_MO_sheet_66 {G : GG} {d : Nat} {Q : Int32 → AH → Prop} (x1 : Int32) (s1 : Int32) (s2 : Int32) (h : AH) (H : p_MO_sheet_66 Q x1 s1 s2 h) : Att G T1 m_MO_sheet (d + 1) 66 [some (.ref 59), some (.int x1), none, none, none] [.int s2, .int s1, .ref 71] h 0 0 (iQ Q) := by
  obtain ⟨c1, H⟩ := H
  refine A_iast (n := 4) d_MO_sheet_66 (vA_s (by decide)) rfl c1 ?_
  refine A_iconst 0 (by decide) d_MO_sheet_67 ?_
  refine A_istore [some (.ref 59), some (.int x1), none, none, some (.int 0)] d_MO_sheet_68 (by decide) rfl rfl ?_
  obtain ⟨n9, H⟩ := H
  exact r_MO_sheet_70   n9 _ _ _ H
set_option maxRecDepth 20000 in
theorem r_MO_sheet_44 {G : GG} {d : Nat} {Q : Int32 → AH → Prop} (x1 : Int32) (x2 : Int32) (x3 : Int32) (h : AH) (H : p_MO_sheet_44 Q x1 x2 x3 h) : Att G T1 m_MO_sheet (d + 1) 44 [some (.ref 59), some (.int x1), some (.int x2), some (.int x3), none] [] h 0 0 (iQ Q) := by
  refine A_aload_n d_MO_sheet_44 rfl ?_
  refine A_get (v := .ref 70) d_MO_sheet_45 (fo_MO_40_12 rfl) (vA_s (by decide)) rfl rfl ?_
  refine A_iload_n d_MO_sheet_48 rfl ?_
  refine A_iload_n d_MO_sheet_49 rfl ?_
  obtain ⟨c1, H⟩ := H
  refine A_iast (n := 4) d_MO_sheet_50 (vA_s (by decide)) rfl c1 ?_
  refine A_aload_n d_MO_sheet_51 rfl ?_
  refine A_get (v := .ref 71) d_MO_sheet_52 (fo_MO_43_12 rfl) (vA_s (by decide)) rfl rfl ?_
  refine A_iload_n d_MO_sheet_55 rfl ?_
  refine A_iload_n d_MO_sheet_56 rfl ?_
  refine A_iconst (-1) (by decide) d_MO_sheet_57 ?_
  refine A_icmp_ne 65 d_MO_sheet_58 (by decide) (fun z => ?_) (fun z => ?_)
  · have H := H.1 z
    refine A_iload_n d_MO_sheet_65 rfl ?_
    refine A_sub (L' := [some (.ref 59), some (.int x1), none, none, none]) ⟨rfl, rfl, trivial⟩ ?_
    exact r_MO_sheet_66   _ _ _ _ H
  · have H := H.2 z
    refine A_iconst 0 (by decide) d_MO_sheet_61 ?_
    refine A_goto 66 d_MO_sheet_62 (by decide) ?_
    refine A_sub (L' := [some (.ref 59), some (.int x1), none, none, none]) ⟨rfl, rfl, trivial⟩ ?_
    exact r_MO_sheet_66   _ _ _ _ H
set_option maxRecDepth 20000 in
theorem r_MO_sheet_32 {G : GG} {d : Nat} {Q : Int32 → AH → Prop} (x1 : Int32) (x2 : Int32) (x3 : Int32) (h : AH) (H : p_MO_sheet_32 Q x1 x2 x3 h) : Att G T1 m_MO_sheet (d + 1) 32 [some (.ref 59), some (.int x1), some (.int x2), some (.int x3), none] [] h 0 0 (iQ Q) := by
  refine A_iload_n d_MO_sheet_32 rfl ?_
  refine A_iconst (-1) (by decide) d_MO_sheet_33 ?_
  refine A_icmp_eq 44 d_MO_sheet_34 (by decide) (fun z => ?_) (fun z => ?_)
  · have H := H.1 z
    exact r_MO_sheet_44   _ _ _ _ H
  · have H := H.2 z
    refine A_iload_n d_MO_sheet_37 rfl ?_
    refine A_if_ge 44 d_MO_sheet_38 (by decide) (fun z => ?_) (fun z => ?_)
    · have H := H.1 z
      exact r_MO_sheet_44   _ _ _ _ H
    · have H := H.2 z
      refine A_bipush (-14) (by decide) d_MO_sheet_41 ?_
      exact A_iret d_MO_sheet_43 rfl rfl H
set_option maxRecDepth 20000 in
theorem r_MO_sheet_0 {G : GG} {d : Nat} {Q : Int32 → AH → Prop} (x1 : Int32) (x2 : Int32) (x3 : Int32) (h : AH) (H : p_MO_sheet Q x1 x2 x3 h) : Att G T1 m_MO_sheet (d + 1) 0 [some (.ref 59), some (.int x1), some (.int x2), some (.int x3), none] [] h 0 0 (iQ Q) := by
  refine A_iload_n d_MO_sheet_0 rfl ?_
  refine A_iconst 0 (by decide) d_MO_sheet_1 ?_
  refine A_iconst 3 (by decide) d_MO_sheet_2 ?_
  refine A_cI [.int x1, .int 0, .int 3] [] (ct_MO_93 rfl) d_MO_sheet_3 rfl rfl (by decide) (Nat.le_of_ble_eq_true rfl) trivial (ok_MO_in (d := d) H) (fun r2 h1 H => ?_)
  refine A_if_eq 29 d_MO_sheet_6 (by decide) (fun z => ?_) (fun z => ?_)
  · have H := H.1 z
    refine A_bipush (-2) (by decide) d_MO_sheet_29 ?_
    exact A_iret d_MO_sheet_31 rfl rfl H
  · have H := H.2 z
    refine A_iload_n d_MO_sheet_9 rfl ?_
    refine A_iconst (-1) (by decide) d_MO_sheet_10 ?_
    refine A_iconst 2 (by decide) d_MO_sheet_11 ?_
    refine A_cI [.int x2, .int (-1), .int 2] [] (ct_MO_93 rfl) d_MO_sheet_12 rfl rfl (by decide) (Nat.le_of_ble_eq_true rfl) trivial (ok_MO_in (d := d) H) (fun r4 h3 H => ?_)
    refine A_if_eq 29 d_MO_sheet_15 (by decide) (fun z => ?_) (fun z => ?_)
    · have H := H.1 z
      refine A_bipush (-2) (by decide) d_MO_sheet_29 ?_
      exact A_iret d_MO_sheet_31 rfl rfl H
    · have H := H.2 z
      refine A_iload_n d_MO_sheet_18 rfl ?_
      refine A_iconst (-1) (by decide) d_MO_sheet_19 ?_
      refine A_icmp_eq 32 d_MO_sheet_20 (by decide) (fun z => ?_) (fun z => ?_)
      · have H := H.1 z
        exact r_MO_sheet_32   _ _ _ _ H
      · have H := H.2 z
        refine A_iload_n d_MO_sheet_23 rfl ?_
        refine A_bipush 40 (by decide) d_MO_sheet_24 ?_
        refine A_icmp_le 32 d_MO_sheet_26 (by decide) (fun z => ?_) (fun z => ?_)
        · have H := H.1 z
          exact r_MO_sheet_32   _ _ _ _ H
        · have H := H.2 z
          refine A_bipush (-2) (by decide) d_MO_sheet_29 ?_
          exact A_iret d_MO_sheet_31 rfl rfl H
set_option maxRecDepth 20000 in
theorem ok_MO_sheet {G : GG} {d : Nat} {Q : Int32 → AH → Prop} {x1 : Int32} {x2 : Int32} {x3 : Int32} {h : AH} (H : p_MO_sheet Q x1 x2 x3 h) : WP G T1 m_MO_sheet (d + 1) [.ref 59, .int x1, .int x2, .int x3] h 0 0 (iQ Q) := by
  exact WP.enter 1 (by decide) rfl rfl (r_MO_sheet_0 x1 x2 x3 h H)
theorem d_MO_cell_0 : decode prog_14_method_79_code 0 = .ok (.iload_n 1, 1) := by decide +kernel
theorem d_MO_cell_1 : decode prog_14_method_79_code 1 = .ok (.iconst 0, 1) := by decide +kernel
theorem d_MO_cell_2 : decode prog_14_method_79_code 2 = .ok (.iconst 3, 1) := by decide +kernel
theorem d_MO_cell_3 : decode prog_14_method_79_code 3 = .ok (.invokestatic 93, 3) := by decide +kernel
theorem d_MO_cell_6 : decode prog_14_method_79_code 6 = .ok (.ifCond .ne 6, 3) := by decide +kernel
theorem d_MO_cell_9 : decode prog_14_method_79_code 9 = .ok (.bipush (-2), 2) := by decide +kernel
theorem d_MO_cell_11 : decode prog_14_method_79_code 11 = .ok (.ireturn, 1) := by decide +kernel
theorem d_MO_cell_12 : decode prog_14_method_79_code 12 = .ok (.aload_n 0, 1) := by decide +kernel
theorem d_MO_cell_13 : decode prog_14_method_79_code 13 = .ok (.getfield 40, 3) := by decide +kernel
theorem d_MO_cell_16 : decode prog_14_method_79_code 16 = .ok (.iload_n 1, 1) := by decide +kernel
theorem d_MO_cell_17 : decode prog_14_method_79_code 17 = .ok (.iaload, 1) := by decide +kernel
theorem d_MO_cell_18 : decode prog_14_method_79_code 18 = .ok (.iconst (-1), 1) := by decide +kernel
theorem d_MO_cell_19 : decode prog_14_method_79_code 19 = .ok (.if_icmp .ne 6, 3) := by decide +kernel
theorem d_MO_cell_22 : decode prog_14_method_79_code 22 = .ok (.bipush (-11), 2) := by decide +kernel
theorem d_MO_cell_24 : decode prog_14_method_79_code 24 = .ok (.ireturn, 1) := by decide +kernel
theorem d_MO_cell_25 : decode prog_14_method_79_code 25 = .ok (.iload_n 2, 1) := by decide +kernel
theorem d_MO_cell_26 : decode prog_14_method_79_code 26 = .ok (.iconst 0, 1) := by decide +kernel
theorem d_MO_cell_27 : decode prog_14_method_79_code 27 = .ok (.aload_n 0, 1) := by decide +kernel
theorem d_MO_cell_28 : decode prog_14_method_79_code 28 = .ok (.getfield 43, 3) := by decide +kernel
theorem d_MO_cell_31 : decode prog_14_method_79_code 31 = .ok (.iload_n 1, 1) := by decide +kernel
theorem d_MO_cell_32 : decode prog_14_method_79_code 32 = .ok (.iaload, 1) := by decide +kernel
theorem d_MO_cell_33 : decode prog_14_method_79_code 33 = .ok (.iconst 1, 1) := by decide +kernel
theorem d_MO_cell_34 : decode prog_14_method_79_code 34 = .ok (.isub, 1) := by decide +kernel
theorem d_MO_cell_35 : decode prog_14_method_79_code 35 = .ok (.invokestatic 93, 3) := by decide +kernel
theorem d_MO_cell_38 : decode prog_14_method_79_code 38 = .ok (.ifCond .ne 6, 3) := by decide +kernel
theorem d_MO_cell_41 : decode prog_14_method_79_code 41 = .ok (.bipush (-12), 2) := by decide +kernel
theorem d_MO_cell_43 : decode prog_14_method_79_code 43 = .ok (.ireturn, 1) := by decide +kernel
theorem d_MO_cell_44 : decode prog_14_method_79_code 44 = .ok (.aload_n 0, 1) := by decide +kernel
theorem d_MO_cell_45 : decode prog_14_method_79_code 45 = .ok (.getfield 46, 3) := by decide +kernel
theorem d_MO_cell_48 : decode prog_14_method_79_code 48 = .ok (.bipush 40, 2) := by decide +kernel
theorem d_MO_cell_50 : decode prog_14_method_79_code 50 = .ok (.iload_n 1, 1) := by decide +kernel
theorem d_MO_cell_51 : decode prog_14_method_79_code 51 = .ok (.imul, 1) := by decide +kernel
theorem d_MO_cell_52 : decode prog_14_method_79_code 52 = .ok (.iload_n 2, 1) := by decide +kernel
theorem d_MO_cell_53 : decode prog_14_method_79_code 53 = .ok (.iadd, 1) := by decide +kernel
theorem d_MO_cell_54 : decode prog_14_method_79_code 54 = .ok (.aload_n 0, 1) := by decide +kernel
theorem d_MO_cell_55 : decode prog_14_method_79_code 55 = .ok (.getfield 40, 3) := by decide +kernel
theorem d_MO_cell_58 : decode prog_14_method_79_code 58 = .ok (.iload_n 1, 1) := by decide +kernel
theorem d_MO_cell_59 : decode prog_14_method_79_code 59 = .ok (.iaload, 1) := by decide +kernel
theorem d_MO_cell_60 : decode prog_14_method_79_code 60 = .ok (.ifCond .ne 8, 3) := by decide +kernel
theorem d_MO_cell_63 : decode prog_14_method_79_code 63 = .ok (.iload_n 3, 1) := by decide +kernel
theorem d_MO_cell_64 : decode prog_14_method_79_code 64 = .ok (.i2b, 1) := by decide +kernel
theorem d_MO_cell_65 : decode prog_14_method_79_code 65 = .ok (.goto 19, 3) := by decide +kernel
theorem d_MO_cell_68 : decode prog_14_method_79_code 68 = .ok (.aload_n 0, 1) := by decide +kernel
theorem d_MO_cell_69 : decode prog_14_method_79_code 69 = .ok (.getfield 40, 3) := by decide +kernel
theorem d_MO_cell_72 : decode prog_14_method_79_code 72 = .ok (.iload_n 1, 1) := by decide +kernel
theorem d_MO_cell_73 : decode prog_14_method_79_code 73 = .ok (.iaload, 1) := by decide +kernel
theorem d_MO_cell_74 : decode prog_14_method_79_code 74 = .ok (.iconst 1, 1) := by decide +kernel
theorem d_MO_cell_75 : decode prog_14_method_79_code 75 = .ok (.if_icmp .ne 8, 3) := by decide +kernel
theorem d_MO_cell_78 : decode prog_14_method_79_code 78 = .ok (.iload_n 3, 1) := by decide +kernel
theorem d_MO_cell_79 : decode prog_14_method_79_code 79 = .ok (.i2s, 1) := by decide +kernel
theorem d_MO_cell_80 : decode prog_14_method_79_code 80 = .ok (.goto 4, 3) := by decide +kernel
theorem d_MO_cell_83 : decode prog_14_method_79_code 83 = .ok (.iload_n 3, 1) := by decide +kernel
theorem d_MO_cell_84 : decode prog_14_method_79_code 84 = .ok (.iastore, 1) := by decide +kernel
theorem d_MO_cell_85 : decode prog_14_method_79_code 85 = .ok (.iconst 1, 1) := by decide +kernel
theorem d_MO_cell_86 : decode prog_14_method_79_code 86 = .ok (.ireturn, 1) := by decide +kernel
def p_MO_cell (Q : Int32 → AH → Prop) (x1 : Int32) (x2 : Int32) (x3 : Int32) (h : AH) : Prop := p_MO_in (fun r2 h1 => ((¬ r2 = 0 → inb x1 4 ∧ ((¬ (h1.1 70 x1) = (-1) → p_MO_in (fun r5 h4 => ((¬ r5 = 0 → inb x1 4 ∧ ((¬ (h4.1 70 x1) = 0 → ((¬ (h4.1 70 x1) = 1 → inb ((40 * x1) + x2) 160 ∧ Q 1 (wI h4 72 ((40 * x1) + x2) x3)) ∧ ((h4.1 70 x1) = 1 → inb ((40 * x1) + x2) 160 ∧ Q 1 (wI h4 72 ((40 * x1) + x2) x3.toInt16.toInt32)))) ∧ ((h4.1 70 x1) = 0 → inb ((40 * x1) + x2) 160 ∧ Q 1 (wI h4 72 ((40 * x1) + x2) x3.toInt8.toInt32)))) ∧ (r5 = 0 → Q (-12) h4))) x2 0 ((h1.1 71 x1) - 1) h1) ∧ ((h1.1 70 x1) = (-1) → Q (-11) h1))) ∧ (r2 = 0 → Q (-2) h1))) x1 0 3 h
set_option maxRecDepth 20000 in
theorem r_MO_cell_0 {G : GG} {d : Nat} {Q : Int32 → AH → Prop} (x1 : Int32) (x2 : Int32) (x3 : Int32) (h : AH) (H : p_MO_cell Q x1 x2 x3 h) : Att G T1 m_MO_cell (d + 1) 0 [some (.ref 59), some (.int x1), some (.int x2), some (.int x3)] [] h 0 0 (iQ Q) := by
  refine A_iload_n d_MO_cell_0 rfl ?_
  refine A_iconst 0 (by decide) d_MO_cell_1 ?_
  refine A_iconst 3 (by decide) d_MO_cell_2 ?_
  refine A_cI [.int x1, .int 0, .int 3] [] (ct_MO_93 rfl) d_MO_cell_3 rfl rfl (by decide) (Nat.le_of_ble_eq_true rfl) trivial (ok_MO_in (d := d) H) (fun r2 h1 H => ?_)
  refine A_if_ne 12 d_MO_cell_6 (by decide) (fun z => ?_) (fun z => ?_)
  · have H := H.1 z
    refine A_aload_n d_MO_cell_12 rfl ?_
    refine A_get (v := .ref 70) d_MO_cell_13 (fo_MO_40_12 rfl) (vA_s (by decide)) rfl rfl ?_
    refine A_iload_n d_MO_cell_16 rfl ?_
    obtain ⟨c3, H⟩ := H
    refine A_iald (n := 4) d_MO_cell_17 (vA_s (by decide)) rfl c3 ?_
    refine A_iconst (-1) (by decide) d_MO_cell_18 ?_
    refine A_icmp_ne 25 d_MO_cell_19 (by decide) (fun z => ?_) (fun z => ?_)
    · have H := H.1 z
      refine A_iload_n d_MO_cell_25 rfl ?_
      refine A_iconst 0 (by decide) d_MO_cell_26 ?_
      refine A_aload_n d_MO_cell_27 rfl ?_
      refine A_get (v := .ref 71) d_MO_cell_28 (fo_MO_43_12 rfl) (vA_s (by decide)) rfl rfl ?_
      refine A_iload_n d_MO_cell_31 rfl ?_
      refine A_iald (n := 4) d_MO_cell_32 (vA_s (by decide)) rfl c3 ?_
      refine A_iconst 1 (by decide) d_MO_cell_33 ?_
      refine A_isub d_MO_cell_34 ?_
      refine A_cI [.int x2, .int 0, .int ((h1.1 71 x1) - 1)] [] (ct_MO_93 rfl) d_MO_cell_35 rfl rfl (by decide) (Nat.le_of_ble_eq_true rfl) trivial (ok_MO_in (d := d) H) (fun r5 h4 H => ?_)
      refine A_if_ne 44 d_MO_cell_38 (by decide) (fun z => ?_) (fun z => ?_)
      · have H := H.1 z
        refine A_aload_n d_MO_cell_44 rfl ?_
        refine A_get (v := .ref 72) d_MO_cell_45 (fo_MO_46_12 rfl) (vA_s (by decide)) rfl rfl ?_
        refine A_bipush 40 (by decide) d_MO_cell_48 ?_
        refine A_iload_n d_MO_cell_50 rfl ?_
        refine A_imul d_MO_cell_51 ?_
        refine A_iload_n d_MO_cell_52 rfl ?_
        refine A_iadd d_MO_cell_53 ?_
        refine A_aload_n d_MO_cell_54 rfl ?_
        refine A_get (v := .ref 70) d_MO_cell_55 (fo_MO_40_12 rfl) (vA_s (by decide)) rfl rfl ?_
        refine A_iload_n d_MO_cell_58 rfl ?_
        obtain ⟨c6, H⟩ := H
        refine A_iald (n := 4) d_MO_cell_59 (vA_s (by decide)) rfl c6 ?_
        refine A_if_ne 68 d_MO_cell_60 (by decide) (fun z => ?_) (fun z => ?_)
        · have H := H.1 z
          refine A_aload_n d_MO_cell_68 rfl ?_
          refine A_get (v := .ref 70) d_MO_cell_69 (fo_MO_40_12 rfl) (vA_s (by decide)) rfl rfl ?_
          refine A_iload_n d_MO_cell_72 rfl ?_
          refine A_iald (n := 4) d_MO_cell_73 (vA_s (by decide)) rfl c6 ?_
          refine A_iconst 1 (by decide) d_MO_cell_74 ?_
          refine A_icmp_ne 83 d_MO_cell_75 (by decide) (fun z => ?_) (fun z => ?_)
          · have H := H.1 z
            refine A_iload_n d_MO_cell_83 rfl ?_
            obtain ⟨c7, H⟩ := H
            refine A_iast (n := 160) d_MO_cell_84 (vA_s (by decide)) rfl c7 ?_
            refine A_iconst 1 (by decide) d_MO_cell_85 ?_
            exact A_iret d_MO_cell_86 rfl rfl H
          · have H := H.2 z
            refine A_iload_n d_MO_cell_78 rfl ?_
            refine A_i2s d_MO_cell_79 ?_
            refine A_goto 84 d_MO_cell_80 (by decide) ?_
            obtain ⟨c8, H⟩ := H
            refine A_iast (n := 160) d_MO_cell_84 (vA_s (by decide)) rfl c8 ?_
            refine A_iconst 1 (by decide) d_MO_cell_85 ?_
            exact A_iret d_MO_cell_86 rfl rfl H
        · have H := H.2 z
          refine A_iload_n d_MO_cell_63 rfl ?_
          refine A_i2b d_MO_cell_64 ?_
          refine A_goto 84 d_MO_cell_65 (by decide) ?_
          obtain ⟨c9, H⟩ := H
          refine A_iast (n := 160) d_MO_cell_84 (vA_s (by decide)) rfl c9 ?_
          refine A_iconst 1 (by decide) d_MO_cell_85 ?_
          exact A_iret d_MO_cell_86 rfl rfl H
      · have H := H.2 z
        refine A_bipush (-12) (by decide) d_MO_cell_41 ?_
        exact A_iret d_MO_cell_43 rfl rfl H
    · have H := H.2 z
      refine A_bipush (-11) (by decide) d_MO_cell_22 ?_
      exact A_iret d_MO_cell_24 rfl rfl H
  · have H := H.2 z
    refine A_bipush (-2) (by decide) d_MO_cell_9 ?_
    exact A_iret d_MO_cell_11 rfl rfl H
set_option maxRecDepth 20000 in
theorem ok_MO_cell {G : GG} {d : Nat} {Q : Int32 → AH → Prop} {x1 : Int32} {x2 : Int32} {x3 : Int32} {h : AH} (H : p_MO_cell Q x1 x2 x3 h) : WP G T1 m_MO_cell (d + 1) [.ref 59, .int x1, .int x2, .int x3] h 0 0 (iQ Q) := by
  exact WP.enter 0 (by decide) rfl rfl (r_MO_cell_0 x1 x2 x3 h H)
theorem d_MO_copy_0 : decode prog_14_method_80_code 0 = .ok (.iload_n 1, 1) := by decide +kernel
theorem d_MO_copy_1 : decode prog_14_method_80_code 1 = .ok (.iconst 0, 1) := by decide +kernel
theorem d_MO_copy_2 : decode prog_14_method_80_code 2 = .ok (.iconst 3, 1) := by decide +kernel
theorem d_MO_copy_3 : decode prog_14_method_80_code 3 = .ok (.invokestatic 93, 3) := by decide +kernel
theorem d_MO_copy_6 : decode prog_14_method_80_code 6 = .ok (.ifCond .eq 12, 3) := by decide +kernel
theorem d_MO_copy_9 : decode prog_14_method_80_code 9 = .ok (.iload_n 3, 1) := by decide +kernel
theorem d_MO_copy_10 : decode prog_14_method_80_code 10 = .ok (.iconst 0, 1) := by decide +kernel
theorem d_MO_copy_11 : decode prog_14_method_80_code 11 = .ok (.iconst 3, 1) := by decide +kernel
theorem d_MO_copy_12 : decode prog_14_method_80_code 12 = .ok (.invokestatic 93, 3) := by decide +kernel
theorem d_MO_copy_15 : decode prog_14_method_80_code 15 = .ok (.ifCond .ne 6, 3) := by decide +kernel
theorem d_MO_copy_18 : decode prog_14_method_80_code 18 = .ok (.bipush (-2), 2) := by decide +kernel
theorem d_MO_copy_20 : decode prog_14_method_80_code 20 = .ok (.ireturn, 1) := by decide +kernel
theorem d_MO_copy_21 : decode prog_14_method_80_code 21 = .ok (.aload_n 0, 1) := by decide +kernel
theorem d_MO_copy_22 : decode prog_14_method_80_code 22 = .ok (.getfield 40, 3) := by decide +kernel
theorem d_MO_copy_25 : decode prog_14_method_80_code 25 = .ok (.iload_n 1, 1) := by decide +kernel
theorem d_MO_copy_26 : decode prog_14_method_80_code 26 = .ok (.iaload, 1) := by decide +kernel
theorem d_MO_copy_27 : decode prog_14_method_80_code 27 = .ok (.iconst (-1), 1) := by decide +kernel
theorem d_MO_copy_28 : decode prog_14_method_80_code 28 = .ok (.if_icmp .eq 13, 3) := by decide +kernel
theorem d_MO_copy_31 : decode prog_14_method_80_code 31 = .ok (.aload_n 0, 1) := by decide +kernel
theorem d_MO_copy_32 : decode prog_14_method_80_code 32 = .ok (.getfield 40, 3) := by decide +kernel
theorem d_MO_copy_35 : decode prog_14_method_80_code 35 = .ok (.iload_n 3, 1) := by decide +kernel
theorem d_MO_copy_36 : decode prog_14_method_80_code 36 = .ok (.iaload, 1) := by decide +kernel
theorem d_MO_copy_37 : decode prog_14_method_80_code 37 = .ok (.iconst (-1), 1) := by decide +kernel
theorem d_MO_copy_38 : decode prog_14_method_80_code 38 = .ok (.if_icmp .ne 6, 3) := by decide +kernel
theorem d_MO_copy_41 : decode prog_14_method_80_code 41 = .ok (.bipush (-11), 2) := by decide +kernel
theorem d_MO_copy_43 : decode prog_14_method_80_code 43 = .ok (.ireturn, 1) := by decide +kernel
theorem d_MO_copy_44 : decode prog_14_method_80_code 44 = .ok (.aload_n 0, 1) := by decide +kernel
theorem d_MO_copy_45 : decode prog_14_method_80_code 45 = .ok (.getfield 40, 3) := by decide +kernel
theorem d_MO_copy_48 : decode prog_14_method_80_code 48 = .ok (.iload_n 1, 1) := by decide +kernel
theorem d_MO_copy_49 : decode prog_14_method_80_code 49 = .ok (.iaload, 1) := by decide +kernel
theorem d_MO_copy_50 : decode prog_14_method_80_code 50 = .ok (.aload_n 0, 1) := by decide +kernel
theorem d_MO_copy_51 : decode prog_14_method_80_code 51 = .ok (.getfield 40, 3) := by decide +kernel
theorem d_MO_copy_54 : decode prog_14_method_80_code 54 = .ok (.iload_n 3, 1) := by decide +kernel
theorem d_MO_copy_55 : decode prog_14_method_80_code 55 = .ok (.iaload, 1) := by decide +kernel
theorem d_MO_copy_56 : decode prog_14_method_80_code 56 = .ok (.if_icmp .eq 6, 3) := by decide +kernel
theorem d_MO_copy_59 : decode prog_14_method_80_code 59 = .ok (.bipush (-13), 2) := by decide +kernel
theorem d_MO_copy_61 : decode prog_14_method_80_code 61 = .ok (.ireturn, 1) := by decide +kernel
theorem d_MO_copy_62 : decode prog_14_method_80_code 62 = .ok (.iload 5, 2) := by decide +kernel
theorem d_MO_copy_64 : decode prog_14_method_80_code 64 = .ok (.ifCond .lt 60, 3) := by decide +kernel
theorem d_MO_copy_67 : decode prog_14_method_80_code 67 = .ok (.iload_n 2, 1) := by decide +kernel
theorem d_MO_copy_68 : decode prog_14_method_80_code 68 = .ok (.ifCond .lt 56, 3) := by decide +kernel
theorem d_MO_copy_71 : decode prog_14_method_80_code 71 = .ok (.iload 4, 2) := by decide +kernel
theorem d_MO_copy_73 : decode prog_14_method_80_code 73 = .ok (.ifCond .lt 51, 3) := by decide +kernel
theorem d_MO_copy_76 : decode prog_14_method_80_code 76 = .ok (.iload_n 2, 1) := by decide +kernel
theorem d_MO_copy_77 : decode prog_14_method_80_code 77 = .ok (.aload_n 0, 1) := by decide +kernel
theorem d_MO_copy_78 : decode prog_14_method_80_code 78 = .ok (.getfield 43, 3) := by decide +kernel
theorem d_MO_copy_81 : decode prog_14_method_80_code 81 = .ok (.iload_n 1, 1) := by decide +kernel
theorem d_MO_copy_82 : decode prog_14_method_80_code 82 = .ok (.iaload, 1) := by decide +kernel
theorem d_MO_copy_83 : decode prog_14_method_80_code 83 = .ok (.if_icmp .gt 41, 3) := by decide +kernel
theorem d_MO_copy_86 : decode prog_14_method_80_code 86 = .ok (.iload 4, 2) := by decide +kernel
theorem d_MO_copy_88 : decode prog_14_method_80_code 88 = .ok (.aload_n 0, 1) := by decide +kernel
theorem d_MO_copy_89 : decode prog_14_method_80_code 89 = .ok (.getfield 43, 3) := by decide +kernel
theorem d_MO_copy_92 : decode prog_14_method_80_code 92 = .ok (.iload_n 3, 1) := by decide +kernel
theorem d_MO_copy_93 : decode prog_14_method_80_code 93 = .ok (.iaload, 1) := by decide +kernel
theorem d_MO_copy_94 : decode prog_14_method_80_code 94 = .ok (.if_icmp .gt 30, 3) := by decide +kernel
theorem d_MO_copy_97 : decode prog_14_method_80_code 97 = .ok (.iload 5, 2) := by decide +kernel
theorem d_MO_copy_99 : decode prog_14_method_80_code 99 = .ok (.aload_n 0, 1) := by decide +kernel
theorem d_MO_copy_100 : decode prog_14_method_80_code 100 = .ok (.getfield 43, 3) := by decide +kernel
theorem d_MO_copy_103 : decode prog_14_method_80_code 103 = .ok (.iload_n 1, 1) := by decide +kernel
theorem d_MO_copy_104 : decode prog_14_method_80_code 104 = .ok (.iaload, 1) := by decide +kernel
theorem d_MO_copy_105 : decode prog_14_method_80_code 105 = .ok (.iload_n 2, 1) := by decide +kernel
theorem d_MO_copy_106 : decode prog_14_method_80_code 106 = .ok (.isub, 1) := by decide +kernel
theorem d_MO_copy_107 : decode prog_14_method_80_code 107 = .ok (.if_icmp .gt 17, 3) := by decide +kernel
theorem d_MO_copy_110 : decode prog_14_method_80_code 110 = .ok (.iload 5, 2) := by decide +kernel
theorem d_MO_copy_112 : decode prog_14_method_80_code 112 = .ok (.aload_n 0, 1) := by decide +kernel
theorem d_MO_copy_113 : decode prog_14_method_80_code 113 = .ok (.getfield 43, 3) := by decide +kernel
theorem d_MO_copy_116 : decode prog_14_method_80_code 116 = .ok (.iload_n 3, 1) := by decide +kernel
theorem d_MO_copy_117 : decode prog_14_method_80_code 117 = .ok (.iaload, 1) := by decide +kernel
theorem d_MO_copy_118 : decode prog_14_method_80_code 118 = .ok (.iload 4, 2) := by decide +kernel
theorem d_MO_copy_120 : decode prog_14_method_80_code 120 = .ok (.isub, 1) := by decide +kernel
theorem d_MO_copy_121 : decode prog_14_method_80_code 121 = .ok (.if_icmp .le 6, 3) := by decide +kernel
theorem d_MO_copy_124 : decode prog_14_method_80_code 124 = .ok (.bipush (-12), 2) := by decide +kernel
theorem d_MO_copy_126 : decode prog_14_method_80_code 126 = .ok (.ireturn, 1) := by decide +kernel
theorem d_MO_copy_127 : decode prog_14_method_80_code 127 = .ok (.bipush 40, 2) := by decide +kernel
theorem d_MO_copy_129 : decode prog_14_method_80_code 129 = .ok (.iload_n 1, 1) := by decide +kernel
theorem d_MO_copy_130 : decode prog_14_method_80_code 130 = .ok (.imul, 1) := by decide +kernel
theorem d_MO_copy_131 : decode prog_14_method_80_code 131 = .ok (.iload_n 2, 1) := by decide +kernel
theorem d_MO_copy_132 : decode prog_14_method_80_code 132 = .ok (.iadd, 1) := by decide +kernel
theorem d_MO_copy_133 : decode prog_14_method_80_code 133 = .ok (.istore 6, 2) := by decide +kernel
theorem d_MO_copy_135 : decode prog_14_method_80_code 135 = .ok (.bipush 40, 2) := by decide +kernel
theorem d_MO_copy_137 : decode prog_14_method_80_code 137 = .ok (.iload_n 3, 1) := by decide +kernel
theorem d_MO_copy_138 : decode prog_14_method_80_code 138 = .ok (.imul, 1) := by decide +kernel
theorem d_MO_copy_139 : decode prog_14_method_80_code 139 = .ok (.iload 4, 2) := by decide +kernel
theorem d_MO_copy_141 : decode prog_14_method_80_code 141 = .ok (.iadd, 1) := by decide +kernel
theorem d_MO_copy_142 : decode prog_14_method_80_code 142 = .ok (.istore 7, 2) := by decide +kernel
theorem d_MO_copy_144 : decode prog_14_method_80_code 144 = .ok (.iconst 0, 1) := by decide +kernel
theorem d_MO_copy_145 : decode prog_14_method_80_code 145 = .ok (.istore 8, 2) := by decide +kernel
theorem d_MO_copy_147 : decode prog_14_method_80_code 147 = .ok (.iload 8, 2) := by decide +kernel
theorem d_MO_copy_149 : decode prog_14_method_80_code 149 = .ok (.iload 5, 2) := by decide +kernel
theorem d_MO_copy_151 : decode prog_14_method_80_code 151 = .ok (.if_icmp .ge 50, 3) := by decide +kernel
theorem d_MO_copy_154 : decode prog_14_method_80_code 154 = .ok (.iload 6, 2) := by decide +kernel
theorem d_MO_copy_156 : decode prog_14_method_80_code 156 = .ok (.iload 7, 2) := by decide +kernel
theorem d_MO_copy_158 : decode prog_14_method_80_code 158 = .ok (.if_icmp .ge 13, 3) := by decide +kernel
theorem d_MO_copy_161 : decode prog_14_method_80_code 161 = .ok (.iload 5, 2) := by decide +kernel
theorem d_MO_copy_163 : decode prog_14_method_80_code 163 = .ok (.iconst 1, 1) := by decide +kernel
theorem d_MO_copy_164 : decode prog_14_method_80_code 164 = .ok (.isub, 1) := by decide +kernel
theorem d_MO_copy_165 : decode prog_14_method_80_code 165 = .ok (.iload 8, 2) := by decide +kernel
theorem d_MO_copy_167 : decode prog_14_method_80_code 167 = .ok (.isub, 1) := by decide +kernel
theorem d_MO_copy_168 : decode prog_14_method_80_code 168 = .ok (.goto 5, 3) := by decide +kernel
theorem d_MO_copy_171 : decode prog_14_method_80_code 171 = .ok (.iload 8, 2) := by decide +kernel
theorem d_MO_copy_173 : decode prog_14_method_80_code 173 = .ok (.istore 9, 2) := by decide +kernel
theorem d_MO_copy_175 : decode prog_14_method_80_code 175 = .ok (.aload_n 0, 1) := by decide +kernel
theorem d_MO_copy_176 : decode prog_14_method_80_code 176 = .ok (.getfield 46, 3) := by decide +kernel
theorem d_MO_copy_179 : decode prog_14_method_80_code 179 = .ok (.iload 7, 2) := by decide +kernel
theorem d_MO_copy_181 : decode prog_14_method_80_code 181 = .ok (.iload 9, 2) := by decide +kernel
theorem d_MO_copy_183 : decode prog_14_method_80_code 183 = .ok (.iadd, 1) := by decide +kernel
theorem d_MO_copy_184 : decode prog_14_method_80_code 184 = .ok (.aload_n 0, 1) := by decide +kernel
theorem d_MO_copy_185 : decode prog_14_method_80_code 185 = .ok (.getfield 46, 3) := by decide +kernel
theorem d_MO_copy_188 : decode prog_14_method_80_code 188 = .ok (.iload 6, 2) := by decide +kernel
theorem d_MO_copy_190 : decode prog_14_method_80_code 190 = .ok (.iload 9, 2) := by decide +kernel
theorem d_MO_copy_192 : decode prog_14_method_80_code 192 = .ok (.iadd, 1) := by decide +kernel
theorem d_MO_copy_193 : decode prog_14_method_80_code 193 = .ok (.iaload, 1) := by decide +kernel
theorem d_MO_copy_194 : decode prog_14_method_80_code 194 = .ok (.iastore, 1) := by decide +kernel
theorem d_MO_copy_195 : decode prog_14_method_80_code 195 = .ok (.iinc 8 1, 3) := by decide +kernel
theorem d_MO_copy_198 : decode prog_14_method_80_code 198 = .ok (.goto (-51), 3) := by decide +kernel
theorem d_MO_copy_201 : decode prog_14_method_80_code 201 = .ok (.iload 5, 2) := by decide +kernel
theorem d_MO_copy_203 : decode prog_14_method_80_code 203 = .ok (.ireturn, 1) := by decide +kernel
def p_MO_copy_173 (Q : Int32 → AH → Prop) (K147 : Int32 → Int32 → Int32 → Int32 → AH → Prop) (x5 : Int32) (x6 : Int32) (x7 : Int32) (x8 : Int32) (s0 : Int32) (h : AH) : Prop := inb (x6 + s0) 160 ∧ inb (x7 + s0) 160 ∧ K147 x5 x6 x7 (x8 + 1) (wI h 72 (x7 + s0) (h.1 72 (x6 + s0)))
def p_MO_copy_147 (Q : Int32 → AH → Prop) : Nat → Int32 → Int32 → Int32 → Int32 → AH → Prop
  | 0 => fun _ _ _ _ _ => False
  | n + 1 => fun x5 x6 x7 x8 h => let K147 := p_MO_copy_147 Q n; ((x5 ≤ x8 → Q x5 h) ∧ (¬ x5 ≤ x8 → ((x7 ≤ x6 → p_MO_copy_173 Q  K147 x5 x6 x7 x8 x8 h) ∧ (¬ x7 ≤ x6 → p_MO_copy_173 Q  K147 x5 x6 x7 x8 ((x5 - 1) - x8) h))))
def p_MO_copy (Q : Int32 → AH → Prop) (x1 : Int32) (x2 : Int32) (x3 : Int32) (x4 : Int32) (x5 : Int32) (h : AH) : Prop := p_MO_in (fun r2 h1 => ((r2 = 0 → Q (-2) h1) ∧ (¬ r2 = 0 → p_MO_in (fun r4 h3 => ((¬ r4 = 0 → inb x1 4 ∧ (((h3.1 70 x1) = (-1) → Q (-11) h3) ∧ (¬ (h3.1 70 x1) = (-1) → inb x3 4 ∧ ((¬ (h3.1 70 x3) = (-1) → (((h3.1 70 x1) = (h3.1 70 x3) → ((x5 < 0 → Q (-12) h3) ∧ (¬ x5 < 0 → ((x2 < 0 → Q (-12) h3) ∧ (¬ x2 < 0 → ((x4 < 0 → Q (-12) h3) ∧ (¬ x4 < 0 → (((h3.1 71 x1) < x2 → Q (-12) h3) ∧ (¬ (h3.1 71 x1) < x2 → (((h3.1 71 x3) < x4 → Q (-12) h3) ∧ (¬ (h3.1 71 x3) < x4 → ((((h3.1 71 x1) - x2) < x5 → Q (-12) h3) ∧ (¬ ((h3.1 71 x1) - x2) < x5 → ((x5 ≤ ((h3.1 71 x3) - x4) → ∃ n, p_MO_copy_147 Q   n x5 ((40 * x1) + x2) ((40 * x3) + x4) 0 h3) ∧ (¬ x5 ≤ ((h3.1 71 x3) - x4) → Q (-12) h3))))))))))))))) ∧ (¬ (h3.1 70 x1) = (h3.1 70 x3) → Q (-13) h3))) ∧ ((h3.1 70 x3) = (-1) → Q (-11) h3))))) ∧ (r4 = 0 → Q (-2) h3))) x3 0 3 h1))) x1 0 3 h
set_option maxRecDepth 20000 in
theorem r_MO_copy_173 {G : GG} {d : Nat} {Q : Int32 → AH → Prop} {K147 : Int32 → Int32 → Int32 → Int32 → AH → Prop} (k147 : ∀ x5 x6 x7 x8 h, K147 x5 x6 x7 x8 h → Att G T1 m_MO_copy (d + 1) 147 [some (.ref 59), none, none, none, none, some (.int x5), some (.int x6), some (.int x7), some (.int x8), none] [] h 0 0 (iQ Q)) (x5 : Int32) (x6 : Int32) (x7 : Int32) (x8 : Int32) (s0 : Int32) (h : AH) (H : p_MO_copy_173 Q K147 x5 x6 x7 x8 s0 h) : Att G T1 m_MO_copy (d + 1) 173 [some (.ref 59), none, none, none, none, some (.int x5), some (.int x6), some (.int x7), some (.int x8), none] [.int s0] h 0 0 (iQ Q) := by
  refine A_istore [some (.ref 59), none, none, none, none, some (.int x5), some (.int x6), some (.int x7), some (.int x8), some (.int s0)] d_MO_copy_173 (by decide) rfl rfl ?_
  refine A_aload_n d_MO_copy_175 rfl ?_
  refine A_get (v := .ref 72) d_MO_copy_176 (fo_MO_46_12 rfl) (vA_s (by decide)) rfl rfl ?_
  refine A_iload d_MO_copy_179 rfl ?_
  refine A_iload d_MO_copy_181 rfl ?_
  refine A_iadd d_MO_copy_183 ?_
  refine A_aload_n d_MO_copy_184 rfl ?_
  refine A_get (v := .ref 72) d_MO_copy_185 (fo_MO_46_12 rfl) (vA_s (by decide)) rfl rfl ?_
  refine A_iload d_MO_copy_188 rfl ?_
  refine A_iload d_MO_copy_190 rfl ?_
  refine A_iadd d_MO_copy_192 ?_
  obtain ⟨c1, H⟩ := H
  refine A_iald (n := 160) d_MO_copy_193 (vA_s (by decide)) rfl c1 ?_
  obtain ⟨c2, H⟩ := H
  refine A_iast (n := 160) d_MO_copy_194 (vA_s (by decide)) rfl c2 ?_
  refine A_iinc 1 [some (.ref 59), none, none, none, none, some (.int x5), some (.int x6), some (.int x7), some (.int (x8 + 1)), some (.int s0)] d_MO_copy_195 rfl (by decide) (by decide) rfl rfl ?_
  refine A_goto 147 d_MO_copy_198 (by decide) ?_
  refine A_sub (L' := [some (.ref 59), none, none, none, none, some (.int x5), some (.int x6), some (.int x7), some (.int (x8 + 1)), none]) ⟨rfl, rfl, rfl, rfl, rfl, trivial⟩ ?_
  exact k147 _ _ _ _ _ H
set_option maxRecDepth 20000 in
theorem r_MO_copy_147 {G : GG} {d : Nat} {Q : Int32 → AH → Prop} : ∀ (n : Nat) (x5 : Int32) (x6 : Int32) (x7 : Int32) (x8 : Int32) (h : AH), p_MO_copy_147 Q n x5 x6 x7 x8 h → Att G T1 m_MO_copy (d + 1) 147 [some (.ref 59), none, none, none, none, some (.int x5), some (.int x6), some (.int x7), some (.int x8), none] [] h 0 0 (iQ Q) := by
  intro n
  induction n with
  | zero => intro x5 x6 x7 x8 h H; exact H.elim
  | succ n k147 =>
    intro x5 x6 x7 x8 h H
    refine A_iload d_MO_copy_147 rfl ?_
    refine A_iload d_MO_copy_149 rfl ?_
    refine A_icmp_ge 201 d_MO_copy_151 (by decide) (fun z => ?_) (fun z => ?_)
    · have H := H.1 z
      refine A_iload d_MO_copy_201 rfl ?_
      exact A_iret d_MO_copy_203 rfl rfl H
    · have H := H.2 z
      refine A_iload d_MO_copy_154 rfl ?_
      refine A_iload d_MO_copy_156 rfl ?_
      refine A_icmp_ge 171 d_MO_copy_158 (by decide) (fun z => ?_) (fun z => ?_)
      · have H := H.1 z
        refine A_iload d_MO_copy_171 rfl ?_
        exact r_MO_copy_173  k147 _ _ _ _ _ _ H
      · have H := H.2 z
        refine A_iload d_MO_copy_161 rfl ?_
        refine A_iconst 1 (by decide) d_MO_copy_163 ?_
        refine A_isub d_MO_copy_164 ?_
        refine A_iload d_MO_copy_165 rfl ?_
        refine A_isub d_MO_copy_167 ?_
        refine A_goto 173 d_MO_copy_168 (by decide) ?_
        exact r_MO_copy_173  k147 _ _ _ _ _ _ H
set_option maxRecDepth 20000 in
theorem r_MO_copy_0 {G : GG} {d : Nat} {Q : Int32 → AH → Prop} (x1 : Int32) (x2 : Int32) (x3 : Int32) (x4 : Int32) (x5 : Int32) (h : AH) (H : p_MO_copy Q x1 x2 x3 x4 x5 h) : Att G T1 m_MO_copy (d + 1) 0 [some (.ref 59), some (.int x1), some (.int x2), some (.int x3), some (.int x4), some (.int x5), none, none, none, none] [] h 0 0 (iQ Q) := by
  refine A_iload_n d_MO_copy_0 rfl ?_
  refine A_iconst 0 (by decide) d_MO_copy_1 ?_
  refine A_iconst 3 (by decide) d_MO_copy_2 ?_
  refine A_cI [.int x1, .int 0, .int 3] [] (ct_MO_93 rfl) d_MO_copy_3 rfl rfl (by decide) (Nat.le_of_ble_eq_true rfl) trivial (ok_MO_in (d := d) H) (fun r2 h1 H => ?_)
  refine A_if_eq 18 d_MO_copy_6 (by decide) (fun z => ?_) (fun z => ?_)
  · have H := H.1 z
    refine A_bipush (-2) (by decide) d_MO_copy_18 ?_
    exact A_iret d_MO_copy_20 rfl rfl H
  · have H := H.2 z
    refine A_iload_n d_MO_copy_9 rfl ?_
    refine A_iconst 0 (by decide) d_MO_copy_10 ?_
    refine A_iconst 3 (by decide) d_MO_copy_11 ?_
    refine A_cI [.int x3, .int 0, .int 3] [] (ct_MO_93 rfl) d_MO_copy_12 rfl rfl (by decide) (Nat.le_of_ble_eq_true rfl) trivial (ok_MO_in (d := d) H) (fun r4 h3 H => ?_)
    refine A_if_ne 21 d_MO_copy_15 (by decide) (fun z => ?_) (fun z => ?_)
    · have H := H.1 z
      refine A_aload_n d_MO_copy_21 rfl ?_
      refine A_get (v := .ref 70) d_MO_copy_22 (fo_MO_40_12 rfl) (vA_s (by decide)) rfl rfl ?_
      refine A_iload_n d_MO_copy_25 rfl ?_
      obtain ⟨c5, H⟩ := H
      refine A_iald (n := 4) d_MO_copy_26 (vA_s (by decide)) rfl c5 ?_
      refine A_iconst (-1) (by decide) d_MO_copy_27 ?_
      refine A_icmp_eq 41 d_MO_copy_28 (by decide) (fun z => ?_) (fun z => ?_)
      · have H := H.1 z
        refine A_bipush (-11) (by decide) d_MO_copy_41 ?_
        exact A_iret d_MO_copy_43 rfl rfl H
      · have H := H.2 z
        refine A_aload_n d_MO_copy_31 rfl ?_
        refine A_get (v := .ref 70) d_MO_copy_32 (fo_MO_40_12 rfl) (vA_s (by decide)) rfl rfl ?_
        refine A_iload_n d_MO_copy_35 rfl ?_
        obtain ⟨c6, H⟩ := H
        refine A_iald (n := 4) d_MO_copy_36 (vA_s (by decide)) rfl c6 ?_
        refine A_iconst (-1) (by decide) d_MO_copy_37 ?_
        refine A_icmp_ne 44 d_MO_copy_38 (by decide) (fun z => ?_) (fun z => ?_)
        · have H := H.1 z
          refine A_aload_n d_MO_copy_44 rfl ?_
          refine A_get (v := .ref 70) d_MO_copy_45 (fo_MO_40_12 rfl) (vA_s (by decide)) rfl rfl ?_
          refine A_iload_n d_MO_copy_48 rfl ?_
          refine A_iald (n := 4) d_MO_copy_49 (vA_s (by decide)) rfl c5 ?_
          refine A_aload_n d_MO_copy_50 rfl ?_
          refine A_get (v := .ref 70) d_MO_copy_51 (fo_MO_40_12 rfl) (vA_s (by decide)) rfl rfl ?_
          refine A_iload_n d_MO_copy_54 rfl ?_
          refine A_iald (n := 4) d_MO_copy_55 (vA_s (by decide)) rfl c6 ?_
          refine A_icmp_eq 62 d_MO_copy_56 (by decide) (fun z => ?_) (fun z => ?_)
          · have H := H.1 z
            refine A_iload d_MO_copy_62 rfl ?_
            refine A_if_lt 124 d_MO_copy_64 (by decide) (fun z => ?_) (fun z => ?_)
            · have H := H.1 z
              refine A_bipush (-12) (by decide) d_MO_copy_124 ?_
              exact A_iret d_MO_copy_126 rfl rfl H
            · have H := H.2 z
              refine A_iload_n d_MO_copy_67 rfl ?_
              refine A_if_lt 124 d_MO_copy_68 (by decide) (fun z => ?_) (fun z => ?_)
              · have H := H.1 z
                refine A_bipush (-12) (by decide) d_MO_copy_124 ?_
                exact A_iret d_MO_copy_126 rfl rfl H
              · have H := H.2 z
                refine A_iload d_MO_copy_71 rfl ?_
                refine A_if_lt 124 d_MO_copy_73 (by decide) (fun z => ?_) (fun z => ?_)
                · have H := H.1 z
                  refine A_bipush (-12) (by decide) d_MO_copy_124 ?_
                  exact A_iret d_MO_copy_126 rfl rfl H
                · have H := H.2 z
                  refine A_iload_n d_MO_copy_76 rfl ?_
                  refine A_aload_n d_MO_copy_77 rfl ?_
                  refine A_get (v := .ref 71) d_MO_copy_78 (fo_MO_43_12 rfl) (vA_s (by decide)) rfl rfl ?_
                  refine A_iload_n d_MO_copy_81 rfl ?_
                  refine A_iald (n := 4) d_MO_copy_82 (vA_s (by decide)) rfl c5 ?_
                  refine A_icmp_gt 124 d_MO_copy_83 (by decide) (fun z => ?_) (fun z => ?_)
                  · have H := H.1 z
                    refine A_bipush (-12) (by decide) d_MO_copy_124 ?_
                    exact A_iret d_MO_copy_126 rfl rfl H
                  · have H := H.2 z
                    refine A_iload d_MO_copy_86 rfl ?_
                    refine A_aload_n d_MO_copy_88 rfl ?_
                    refine A_get (v := .ref 71) d_MO_copy_89 (fo_MO_43_12 rfl) (vA_s (by decide)) rfl rfl ?_
                    refine A_iload_n d_MO_copy_92 rfl ?_
                    refine A_iald (n := 4) d_MO_copy_93 (vA_s (by decide)) rfl c6 ?_
                    refine A_icmp_gt 124 d_MO_copy_94 (by decide) (fun z => ?_) (fun z => ?_)
                    · have H := H.1 z
                      refine A_bipush (-12) (by decide) d_MO_copy_124 ?_
                      exact A_iret d_MO_copy_126 rfl rfl H
                    · have H := H.2 z
                      refine A_iload d_MO_copy_97 rfl ?_
                      refine A_aload_n d_MO_copy_99 rfl ?_
                      refine A_get (v := .ref 71) d_MO_copy_100 (fo_MO_43_12 rfl) (vA_s (by decide)) rfl rfl ?_
                      refine A_iload_n d_MO_copy_103 rfl ?_
                      refine A_iald (n := 4) d_MO_copy_104 (vA_s (by decide)) rfl c5 ?_
                      refine A_iload_n d_MO_copy_105 rfl ?_
                      refine A_isub d_MO_copy_106 ?_
                      refine A_icmp_gt 124 d_MO_copy_107 (by decide) (fun z => ?_) (fun z => ?_)
                      · have H := H.1 z
                        refine A_bipush (-12) (by decide) d_MO_copy_124 ?_
                        exact A_iret d_MO_copy_126 rfl rfl H
                      · have H := H.2 z
                        refine A_iload d_MO_copy_110 rfl ?_
                        refine A_aload_n d_MO_copy_112 rfl ?_
                        refine A_get (v := .ref 71) d_MO_copy_113 (fo_MO_43_12 rfl) (vA_s (by decide)) rfl rfl ?_
                        refine A_iload_n d_MO_copy_116 rfl ?_
                        refine A_iald (n := 4) d_MO_copy_117 (vA_s (by decide)) rfl c6 ?_
                        refine A_iload d_MO_copy_118 rfl ?_
                        refine A_isub d_MO_copy_120 ?_
                        refine A_icmp_le 127 d_MO_copy_121 (by decide) (fun z => ?_) (fun z => ?_)
                        · have H := H.1 z
                          refine A_bipush 40 (by decide) d_MO_copy_127 ?_
                          refine A_iload_n d_MO_copy_129 rfl ?_
                          refine A_imul d_MO_copy_130 ?_
                          refine A_iload_n d_MO_copy_131 rfl ?_
                          refine A_iadd d_MO_copy_132 ?_
                          refine A_istore [some (.ref 59), some (.int x1), some (.int x2), some (.int x3), some (.int x4), some (.int x5), some (.int ((40 * x1) + x2)), none, none, none] d_MO_copy_133 (by decide) rfl rfl ?_
                          refine A_bipush 40 (by decide) d_MO_copy_135 ?_
                          refine A_iload_n d_MO_copy_137 rfl ?_
                          refine A_imul d_MO_copy_138 ?_
                          refine A_iload d_MO_copy_139 rfl ?_
                          refine A_iadd d_MO_copy_141 ?_
                          refine A_istore [some (.ref 59), some (.int x1), some (.int x2), some (.int x3), some (.int x4), some (.int x5), some (.int ((40 * x1) + x2)), some (.int ((40 * x3) + x4)), none, none] d_MO_copy_142 (by decide) rfl rfl ?_
                          refine A_iconst 0 (by decide) d_MO_copy_144 ?_
                          refine A_istore [some (.ref 59), some (.int x1), some (.int x2), some (.int x3), some (.int x4), some (.int x5), some (.int ((40 * x1) + x2)), some (.int ((40 * x3) + x4)), some (.int 0), none] d_MO_copy_145 (by decide) rfl rfl ?_
                          refine A_sub (L' := [some (.ref 59), none, none, none, none, some (.int x5), some (.int ((40 * x1) + x2)), some (.int ((40 * x3) + x4)), some (.int 0), none]) ⟨rfl, rfl, rfl, rfl, rfl, trivial⟩ ?_
                          obtain ⟨n9, H⟩ := H
                          exact r_MO_copy_147   n9 _ _ _ _ _ H
                        · have H := H.2 z
                          refine A_bipush (-12) (by decide) d_MO_copy_124 ?_
                          exact A_iret d_MO_copy_126 rfl rfl H
          · have H := H.2 z
            refine A_bipush (-13) (by decide) d_MO_copy_59 ?_
            exact A_iret d_MO_copy_61 rfl rfl H
        · have H := H.2 z
          refine A_bipush (-11) (by decide) d_MO_copy_41 ?_
          exact A_iret d_MO_copy_43 rfl rfl H
    · have H := H.2 z
      refine A_bipush (-2) (by decide) d_MO_copy_18 ?_
      exact A_iret d_MO_copy_20 rfl rfl H
set_option maxRecDepth 20000 in
theorem ok_MO_copy {G : GG} {d : Nat} {Q : Int32 → AH → Prop} {x1 : Int32} {x2 : Int32} {x3 : Int32} {x4 : Int32} {x5 : Int32} {h : AH} (H : p_MO_copy Q x1 x2 x3 x4 x5 h) : WP G T1 m_MO_copy (d + 1) [.ref 59, .int x1, .int x2, .int x3, .int x4, .int x5] h 0 0 (iQ Q) := by
  exact WP.enter 4 (by decide) rfl rfl (r_MO_copy_0 x1 x2 x3 x4 x5 h H)
theorem d_MO_taken_0 : decode prog_14_method_83_code 0 = .ok (.iload_n 2, 1) := by decide +kernel
theorem d_MO_taken_1 : decode prog_14_method_83_code 1 = .ok (.iconst 0, 1) := by decide +kernel
theorem d_MO_taken_2 : decode prog_14_method_83_code 2 = .ok (.bipush 6, 2) := by decide +kernel
theorem d_MO_taken_4 : decode prog_14_method_83_code 4 = .ok (.invokestatic 93, 3) := by decide +kernel
theorem d_MO_taken_7 : decode prog_14_method_83_code 7 = .ok (.ifCond .ne 6, 3) := by decide +kernel
theorem d_MO_taken_10 : decode prog_14_method_83_code 10 = .ok (.bipush (-2), 2) := by decide +kernel
theorem d_MO_taken_12 : decode prog_14_method_83_code 12 = .ok (.ireturn, 1) := by decide +kernel
theorem d_MO_taken_13 : decode prog_14_method_83_code 13 = .ok (.iload_n 1, 1) := by decide +kernel
theorem d_MO_taken_14 : decode prog_14_method_83_code 14 = .ok (.iconst 0, 1) := by decide +kernel
theorem d_MO_taken_15 : decode prog_14_method_83_code 15 = .ok (.bipush 13, 2) := by decide +kernel
theorem d_MO_taken_17 : decode prog_14_method_83_code 17 = .ok (.invokestatic 93, 3) := by decide +kernel
theorem d_MO_taken_20 : decode prog_14_method_83_code 20 = .ok (.ifCond .ne 6, 3) := by decide +kernel
theorem d_MO_taken_23 : decode prog_14_method_83_code 23 = .ok (.bipush (-12), 2) := by decide +kernel
theorem d_MO_taken_25 : decode prog_14_method_83_code 25 = .ok (.ireturn, 1) := by decide +kernel
theorem d_MO_taken_26 : decode prog_14_method_83_code 26 = .ok (.iload_n 1, 1) := by decide +kernel
theorem d_MO_taken_27 : decode prog_14_method_83_code 27 = .ok (.bipush 7, 2) := by decide +kernel
theorem d_MO_taken_29 : decode prog_14_method_83_code 29 = .ok (.if_icmp .ge 42, 3) := by decide +kernel
theorem d_MO_taken_32 : decode prog_14_method_83_code 32 = .ok (.iload_n 1, 1) := by decide +kernel
theorem d_MO_taken_33 : decode prog_14_method_83_code 33 = .ok (.aload_n 0, 1) := by decide +kernel
theorem d_MO_taken_34 : decode prog_14_method_83_code 34 = .ok (.getfield 90, 3) := by decide +kernel
theorem d_MO_taken_37 : decode prog_14_method_83_code 37 = .ok (.if_icmp .lt 8, 3) := by decide +kernel
theorem d_MO_taken_40 : decode prog_14_method_83_code 40 = .ok (.bipush (-11), 2) := by decide +kernel
theorem d_MO_taken_42 : decode prog_14_method_83_code 42 = .ok (.goto 28, 3) := by decide +kernel
theorem d_MO_taken_45 : decode prog_14_method_83_code 45 = .ok (.iload_n 2, 1) := by decide +kernel
theorem d_MO_taken_46 : decode prog_14_method_83_code 46 = .ok (.bipush 6, 2) := by decide +kernel
theorem d_MO_taken_48 : decode prog_14_method_83_code 48 = .ok (.if_icmp .ge 20, 3) := by decide +kernel
theorem d_MO_taken_51 : decode prog_14_method_83_code 51 = .ok (.aload_n 0, 1) := by decide +kernel
theorem d_MO_taken_52 : decode prog_14_method_83_code 52 = .ok (.getfield 7, 3) := by decide +kernel
theorem d_MO_taken_55 : decode prog_14_method_83_code 55 = .ok (.iload_n 1, 1) := by decide +kernel
theorem d_MO_taken_56 : decode prog_14_method_83_code 56 = .ok (.iaload, 1) := by decide +kernel
theorem d_MO_taken_57 : decode prog_14_method_83_code 57 = .ok (.iload_n 2, 1) := by decide +kernel
theorem d_MO_taken_58 : decode prog_14_method_83_code 58 = .ok (.invokestatic 299, 3) := by decide +kernel
theorem d_MO_taken_61 : decode prog_14_method_83_code 61 = .ok (.ifCond .eq 7, 3) := by decide +kernel
theorem d_MO_taken_64 : decode prog_14_method_83_code 64 = .ok (.iload_n 1, 1) := by decide +kernel
theorem d_MO_taken_65 : decode prog_14_method_83_code 65 = .ok (.goto 5, 3) := by decide +kernel
theorem d_MO_taken_68 : decode prog_14_method_83_code 68 = .ok (.bipush (-13), 2) := by decide +kernel
theorem d_MO_taken_70 : decode prog_14_method_83_code 70 = .ok (.ireturn, 1) := by decide +kernel
theorem d_MO_taken_71 : decode prog_14_method_83_code 71 = .ok (.iload_n 1, 1) := by decide +kernel
theorem d_MO_taken_72 : decode prog_14_method_83_code 72 = .ok (.bipush 7, 2) := by decide +kernel
theorem d_MO_taken_74 : decode prog_14_method_83_code 74 = .ok (.isub, 1) := by decide +kernel
theorem d_MO_taken_75 : decode prog_14_method_83_code 75 = .ok (.aload_n 0, 1) := by decide +kernel
theorem d_MO_taken_76 : decode prog_14_method_83_code 76 = .ok (.getfield 90, 3) := by decide +kernel
theorem d_MO_taken_79 : decode prog_14_method_83_code 79 = .ok (.if_icmp .ge 19, 3) := by decide +kernel
theorem d_MO_taken_82 : decode prog_14_method_83_code 82 = .ok (.aload_n 0, 1) := by decide +kernel
theorem d_MO_taken_83 : decode prog_14_method_83_code 83 = .ok (.getfield 22, 3) := by decide +kernel
theorem d_MO_taken_86 : decode prog_14_method_83_code 86 = .ok (.iload_n 1, 1) := by decide +kernel
theorem d_MO_taken_87 : decode prog_14_method_83_code 87 = .ok (.bipush 7, 2) := by decide +kernel
theorem d_MO_taken_89 : decode prog_14_method_83_code 89 = .ok (.isub, 1) := by decide +kernel
theorem d_MO_taken_90 : decode prog_14_method_83_code 90 = .ok (.iaload, 1) := by decide +kernel
theorem d_MO_taken_91 : decode prog_14_method_83_code 91 = .ok (.ifCond .le 7, 3) := by decide +kernel
theorem d_MO_taken_94 : decode prog_14_method_83_code 94 = .ok (.iconst 1, 1) := by decide +kernel
theorem d_MO_taken_95 : decode prog_14_method_83_code 95 = .ok (.goto 4, 3) := by decide +kernel
theorem d_MO_taken_98 : decode prog_14_method_83_code 98 = .ok (.iconst 0, 1) := by decide +kernel
theorem d_MO_taken_99 : decode prog_14_method_83_code 99 = .ok (.istore_n 3, 1) := by decide +kernel
theorem d_MO_taken_100 : decode prog_14_method_83_code 100 = .ok (.iload_n 3, 1) := by decide +kernel
theorem d_MO_taken_101 : decode prog_14_method_83_code 101 = .ok (.ifCond .ne 8, 3) := by decide +kernel
theorem d_MO_taken_104 : decode prog_14_method_83_code 104 = .ok (.bipush (-11), 2) := by decide +kernel
theorem d_MO_taken_106 : decode prog_14_method_83_code 106 = .ok (.goto 23, 3) := by decide +kernel
theorem d_MO_taken_109 : decode prog_14_method_83_code 109 = .ok (.iload_n 2, 1) := by decide +kernel
theorem d_MO_taken_110 : decode prog_14_method_83_code 110 = .ok (.bipush 6, 2) := by decide +kernel
theorem d_MO_taken_112 : decode prog_14_method_83_code 112 = .ok (.if_icmp .ne 15, 3) := by decide +kernel
theorem d_MO_taken_115 : decode prog_14_method_83_code 115 = .ok (.aload_n 0, 1) := by decide +kernel
theorem d_MO_taken_116 : decode prog_14_method_83_code 116 = .ok (.getfield 22, 3) := by decide +kernel
theorem d_MO_taken_119 : decode prog_14_method_83_code 119 = .ok (.iload_n 1, 1) := by decide +kernel
theorem d_MO_taken_120 : decode prog_14_method_83_code 120 = .ok (.bipush 7, 2) := by decide +kernel
theorem d_MO_taken_122 : decode prog_14_method_83_code 122 = .ok (.isub, 1) := by decide +kernel
theorem d_MO_taken_123 : decode prog_14_method_83_code 123 = .ok (.iaload, 1) := by decide +kernel
theorem d_MO_taken_124 : decode prog_14_method_83_code 124 = .ok (.goto 5, 3) := by decide +kernel
theorem d_MO_taken_127 : decode prog_14_method_83_code 127 = .ok (.bipush (-13), 2) := by decide +kernel
theorem d_MO_taken_129 : decode prog_14_method_83_code 129 = .ok (.ireturn, 1) := by decide +kernel
def p_MO_taken_99 (Q : Int32 → AH → Prop) (x1 : Int32) (x2 : Int32) (s0 : Int32) (h : AH) : Prop := ((¬ s0 = 0 → ((¬ x2 = 6 → Q (-13) h) ∧ (x2 = 6 → inb (x1 - 7) 7 ∧ Q (h.1 64 (x1 - 7)) h))) ∧ (s0 = 0 → Q (-11) h))
def p_MO_taken_98 (Q : Int32 → AH → Prop) (x1 : Int32) (x2 : Int32) (h : AH) : Prop := p_MO_taken_99 Q   x1 x2 0 h
def p_MO_taken (Q : Int32 → AH → Prop) (x1 : Int32) (x2 : Int32) (h : AH) : Prop := p_MO_in (fun r2 h1 => ((¬ r2 = 0 → p_MO_in (fun r4 h3 => ((¬ r4 = 0 → ((7 ≤ x1 → (((h3.1 59 0) ≤ (x1 - 7) → p_MO_taken_98 Q   x1 x2 h3) ∧ (¬ (h3.1 59 0) ≤ (x1 - 7) → inb (x1 - 7) 7 ∧ (((h3.1 64 (x1 - 7)) ≤ 0 → p_MO_taken_98 Q   x1 x2 h3) ∧ (¬ (h3.1 64 (x1 - 7)) ≤ 0 → p_MO_taken_99 Q   x1 x2 1 h3))))) ∧ (¬ 7 ≤ x1 → ((x1 < (h3.1 59 0) → ((6 ≤ x2 → Q (-13) h3) ∧ (¬ 6 ≤ x2 → inb x1 7 ∧ p_MO_isUnder (fun r8 h7 => ((r8 = 0 → Q (-13) h7) ∧ (¬ r8 = 0 → Q x1 h7))) (h3.1 60 x1) x2 h3))) ∧ (¬ x1 < (h3.1 59 0) → Q (-11) h3))))) ∧ (r4 = 0 → Q (-12) h3))) x1 0 13 h1) ∧ (r2 = 0 → Q (-2) h1))) x2 0 6 h
set_option maxRecDepth 20000 in
theorem r_MO_taken_99 {G : GG} {d : Nat} {Q : Int32 → AH → Prop} (x1 : Int32) (x2 : Int32) (s0 : Int32) (h : AH) (H : p_MO_taken_99 Q x1 x2 s0 h) : Att G T1 m_MO_taken (d + 1) 99 [some (.ref 59), some (.int x1), some (.int x2), none] [.int s0] h 0 0 (iQ Q) := by
  refine A_istore_n [some (.ref 59), some (.int x1), some (.int x2), some (.int s0)] d_MO_taken_99 (by decide) rfl rfl ?_
  refine A_iload_n d_MO_taken_100 rfl ?_
  refine A_if_ne 109 d_MO_taken_101 (by decide) (fun z => ?_) (fun z => ?_)
  · have H := H.1 z
    refine A_iload_n d_MO_taken_109 rfl ?_
    refine A_bipush 6 (by decide) d_MO_taken_110 ?_
    refine A_icmp_ne 127 d_MO_taken_112 (by decide) (fun z => ?_) (fun z => ?_)
    · have H := H.1 z
      refine A_bipush (-13) (by decide) d_MO_taken_127 ?_
      exact A_iret d_MO_taken_129 rfl rfl H
    · have H := H.2 z
      refine A_aload_n d_MO_taken_115 rfl ?_
      refine A_get (v := .ref 64) d_MO_taken_116 (fo_MO_22_12 rfl) (vA_s (by decide)) rfl rfl ?_
      refine A_iload_n d_MO_taken_119 rfl ?_
      refine A_bipush 7 (by decide) d_MO_taken_120 ?_
      refine A_isub d_MO_taken_122 ?_
      obtain ⟨c1, H⟩ := H
      refine A_iald (n := 7) d_MO_taken_123 (vA_s (by decide)) rfl c1 ?_
      refine A_goto 129 d_MO_taken_124 (by decide) ?_
      exact A_iret d_MO_taken_129 rfl rfl H
  · have H := H.2 z
    refine A_bipush (-11) (by decide) d_MO_taken_104 ?_
    refine A_goto 129 d_MO_taken_106 (by decide) ?_
    exact A_iret d_MO_taken_129 rfl rfl H
set_option maxRecDepth 20000 in
theorem r_MO_taken_98 {G : GG} {d : Nat} {Q : Int32 → AH → Prop} (x1 : Int32) (x2 : Int32) (h : AH) (H : p_MO_taken_98 Q x1 x2 h) : Att G T1 m_MO_taken (d + 1) 98 [some (.ref 59), some (.int x1), some (.int x2), none] [] h 0 0 (iQ Q) := by
  refine A_iconst 0 (by decide) d_MO_taken_98 ?_
  exact r_MO_taken_99   _ _ _ _ H
set_option maxRecDepth 20000 in
theorem r_MO_taken_0 {G : GG} {d : Nat} {Q : Int32 → AH → Prop} (x1 : Int32) (x2 : Int32) (h : AH) (H : p_MO_taken Q x1 x2 h) : Att G T1 m_MO_taken (d + 1) 0 [some (.ref 59), some (.int x1), some (.int x2), none] [] h 0 0 (iQ Q) := by
  refine A_iload_n d_MO_taken_0 rfl ?_
  refine A_iconst 0 (by decide) d_MO_taken_1 ?_
  refine A_bipush 6 (by decide) d_MO_taken_2 ?_
  refine A_cI [.int x2, .int 0, .int 6] [] (ct_MO_93 rfl) d_MO_taken_4 rfl rfl (by decide) (Nat.le_of_ble_eq_true rfl) trivial (ok_MO_in (d := d) H) (fun r2 h1 H => ?_)
  refine A_if_ne 13 d_MO_taken_7 (by decide) (fun z => ?_) (fun z => ?_)
  · have H := H.1 z
    refine A_iload_n d_MO_taken_13 rfl ?_
    refine A_iconst 0 (by decide) d_MO_taken_14 ?_
    refine A_bipush 13 (by decide) d_MO_taken_15 ?_
    refine A_cI [.int x1, .int 0, .int 13] [] (ct_MO_93 rfl) d_MO_taken_17 rfl rfl (by decide) (Nat.le_of_ble_eq_true rfl) trivial (ok_MO_in (d := d) H) (fun r4 h3 H => ?_)
    refine A_if_ne 26 d_MO_taken_20 (by decide) (fun z => ?_) (fun z => ?_)
    · have H := H.1 z
      refine A_iload_n d_MO_taken_26 rfl ?_
      refine A_bipush 7 (by decide) d_MO_taken_27 ?_
      refine A_icmp_ge 71 d_MO_taken_29 (by decide) (fun z => ?_) (fun z => ?_)
      · have H := H.1 z
        refine A_iload_n d_MO_taken_71 rfl ?_
        refine A_bipush 7 (by decide) d_MO_taken_72 ?_
        refine A_isub d_MO_taken_74 ?_
        refine A_aload_n d_MO_taken_75 rfl ?_
        refine A_get (v := .int (h3.1 59 0)) d_MO_taken_76 (fo_MO_90_12 rfl) (vA_s (by decide)) rfl rfl ?_
        refine A_icmp_ge 98 d_MO_taken_79 (by decide) (fun z => ?_) (fun z => ?_)
        · have H := H.1 z
          exact r_MO_taken_98   _ _ _ H
        · have H := H.2 z
          refine A_aload_n d_MO_taken_82 rfl ?_
          refine A_get (v := .ref 64) d_MO_taken_83 (fo_MO_22_12 rfl) (vA_s (by decide)) rfl rfl ?_
          refine A_iload_n d_MO_taken_86 rfl ?_
          refine A_bipush 7 (by decide) d_MO_taken_87 ?_
          refine A_isub d_MO_taken_89 ?_
          obtain ⟨c5, H⟩ := H
          refine A_iald (n := 7) d_MO_taken_90 (vA_s (by decide)) rfl c5 ?_
          refine A_if_le 98 d_MO_taken_91 (by decide) (fun z => ?_) (fun z => ?_)
          · have H := H.1 z
            exact r_MO_taken_98   _ _ _ H
          · have H := H.2 z
            refine A_iconst 1 (by decide) d_MO_taken_94 ?_
            refine A_goto 99 d_MO_taken_95 (by decide) ?_
            exact r_MO_taken_99   _ _ _ _ H
      · have H := H.2 z
        refine A_iload_n d_MO_taken_32 rfl ?_
        refine A_aload_n d_MO_taken_33 rfl ?_
        refine A_get (v := .int (h3.1 59 0)) d_MO_taken_34 (fo_MO_90_12 rfl) (vA_s (by decide)) rfl rfl ?_
        refine A_icmp_lt 45 d_MO_taken_37 (by decide) (fun z => ?_) (fun z => ?_)
        · have H := H.1 z
          refine A_iload_n d_MO_taken_45 rfl ?_
          refine A_bipush 6 (by decide) d_MO_taken_46 ?_
          refine A_icmp_ge 68 d_MO_taken_48 (by decide) (fun z => ?_) (fun z => ?_)
          · have H := H.1 z
            refine A_bipush (-13) (by decide) d_MO_taken_68 ?_
            exact A_iret d_MO_taken_70 rfl rfl H
          · have H := H.2 z
            refine A_aload_n d_MO_taken_51 rfl ?_
            refine A_get (v := .ref 60) d_MO_taken_52 (fo_MO_7_12 rfl) (vA_s (by decide)) rfl rfl ?_
            refine A_iload_n d_MO_taken_55 rfl ?_
            obtain ⟨c6, H⟩ := H
            refine A_iald (n := 7) d_MO_taken_56 (vA_s (by decide)) rfl c6 ?_
            refine A_iload_n d_MO_taken_57 rfl ?_
            refine A_cI [.int (h3.1 60 x1), .int x2] [] (ct_MO_299 rfl) d_MO_taken_58 rfl rfl (by decide) (Nat.le_of_ble_eq_true rfl) trivial (ok_MO_isUnder (d := d) H) (fun r8 h7 H => ?_)
            refine A_if_eq 68 d_MO_taken_61 (by decide) (fun z => ?_) (fun z => ?_)
            · have H := H.1 z
              refine A_bipush (-13) (by decide) d_MO_taken_68 ?_
              exact A_iret d_MO_taken_70 rfl rfl H
            · have H := H.2 z
              refine A_iload_n d_MO_taken_64 rfl ?_
              refine A_goto 70 d_MO_taken_65 (by decide) ?_
              exact A_iret d_MO_taken_70 rfl rfl H
        · have H := H.2 z
          refine A_bipush (-11) (by decide) d_MO_taken_40 ?_
          refine A_goto 70 d_MO_taken_42 (by decide) ?_
          exact A_iret d_MO_taken_70 rfl rfl H
    · have H := H.2 z
      refine A_bipush (-12) (by decide) d_MO_taken_23 ?_
      exact A_iret d_MO_taken_25 rfl rfl H
  · have H := H.2 z
    refine A_bipush (-2) (by decide) d_MO_taken_10 ?_
    exact A_iret d_MO_taken_12 rfl rfl H
set_option maxRecDepth 20000 in
theorem ok_MO_taken {G : GG} {d : Nat} {Q : Int32 → AH → Prop} {x1 : Int32} {x2 : Int32} {h : AH} (H : p_MO_taken Q x1 x2 h) : WP G T1 m_MO_taken (d + 1) [.ref 59, .int x1, .int x2] h 0 0 (iQ Q) := by
  exact WP.enter 1 (by decide) rfl rfl (r_MO_taken_0 x1 x2 h H)
theorem d_Reader_number_0 : decode prog_9_method_15_code 0 = .ok (.aload_n 0, 1) := by decide +kernel
theorem d_Reader_number_1 : decode prog_9_method_15_code 1 = .ok (.iconst 0, 1) := by decide +kernel
theorem d_Reader_number_2 : decode prog_9_method_15_code 2 = .ok (.putfield 78, 3) := by decide +kernel
theorem d_Reader_number_5 : decode prog_9_method_15_code 5 = .ok (.aload_n 0, 1) := by decide +kernel
theorem d_Reader_number_6 : decode prog_9_method_15_code 6 = .ok (.getfield 34, 3) := by decide +kernel
theorem d_Reader_number_9 : decode prog_9_method_15_code 9 = .ok (.aload_n 0, 1) := by decide +kernel
theorem d_Reader_number_10 : decode prog_9_method_15_code 10 = .ok (.getfield 21, 3) := by decide +kernel
theorem d_Reader_number_13 : decode prog_9_method_15_code 13 = .ok (.if_icmp .ge 55, 3) := by decide +kernel
theorem d_Reader_number_16 : decode prog_9_method_15_code 16 = .ok (.aload_n 0, 1) := by decide +kernel
theorem d_Reader_number_17 : decode prog_9_method_15_code 17 = .ok (.getfield 9, 3) := by decide +kernel
theorem d_Reader_number_20 : decode prog_9_method_15_code 20 = .ok (.aload_n 0, 1) := by decide +kernel
theorem d_Reader_number_21 : decode prog_9_method_15_code 21 = .ok (.getfield 34, 3) := by decide +kernel
theorem d_Reader_number_24 : decode prog_9_method_15_code 24 = .ok (.iaload, 1) := by decide +kernel
theorem d_Reader_number_25 : decode prog_9_method_15_code 25 = .ok (.invokestatic 90, 3) := by decide +kernel
theorem d_Reader_number_28 : decode prog_9_method_15_code 28 = .ok (.ifCond .eq 40, 3) := by decide +kernel
theorem d_Reader_number_31 : decode prog_9_method_15_code 31 = .ok (.aload_n 0, 1) := by decide +kernel
theorem d_Reader_number_32 : decode prog_9_method_15_code 32 = .ok (.aload_n 0, 1) := by decide +kernel
theorem d_Reader_number_33 : decode prog_9_method_15_code 33 = .ok (.getfield 78, 3) := by decide +kernel
theorem d_Reader_number_36 : decode prog_9_method_15_code 36 = .ok (.bipush 10, 2) := by decide +kernel
theorem d_Reader_number_38 : decode prog_9_method_15_code 38 = .ok (.imul, 1) := by decide +kernel
theorem d_Reader_number_39 : decode prog_9_method_15_code 39 = .ok (.aload_n 0, 1) := by decide +kernel
theorem d_Reader_number_40 : decode prog_9_method_15_code 40 = .ok (.getfield 9, 3) := by decide +kernel
theorem d_Reader_number_43 : decode prog_9_method_15_code 43 = .ok (.aload_n 0, 1) := by decide +kernel
theorem d_Reader_number_44 : decode prog_9_method_15_code 44 = .ok (.getfield 34, 3) := by decide +kernel
theorem d_Reader_number_47 : decode prog_9_method_15_code 47 = .ok (.iaload, 1) := by decide +kernel
theorem d_Reader_number_48 : decode prog_9_method_15_code 48 = .ok (.iadd, 1) := by decide +kernel
theorem d_Reader_number_49 : decode prog_9_method_15_code 49 = .ok (.bipush 48, 2) := by decide +kernel
theorem d_Reader_number_51 : decode prog_9_method_15_code 51 = .ok (.isub, 1) := by decide +kernel
theorem d_Reader_number_52 : decode prog_9_method_15_code 52 = .ok (.putfield 78, 3) := by decide +kernel
theorem d_Reader_number_55 : decode prog_9_method_15_code 55 = .ok (.aload_n 0, 1) := by decide +kernel
theorem d_Reader_number_56 : decode prog_9_method_15_code 56 = .ok (.dup, 1) := by decide +kernel
theorem d_Reader_number_57 : decode prog_9_method_15_code 57 = .ok (.getfield 34, 3) := by decide +kernel
theorem d_Reader_number_60 : decode prog_9_method_15_code 60 = .ok (.iconst 1, 1) := by decide +kernel
theorem d_Reader_number_61 : decode prog_9_method_15_code 61 = .ok (.iadd, 1) := by decide +kernel
theorem d_Reader_number_62 : decode prog_9_method_15_code 62 = .ok (.putfield 34, 3) := by decide +kernel
theorem d_Reader_number_65 : decode prog_9_method_15_code 65 = .ok (.goto (-60), 3) := by decide +kernel
theorem d_Reader_number_68 : decode prog_9_method_15_code 68 = .ok (.aload_n 0, 1) := by decide +kernel
theorem d_Reader_number_69 : decode prog_9_method_15_code 69 = .ok (.aload_n 0, 1) := by decide +kernel
theorem d_Reader_number_70 : decode prog_9_method_15_code 70 = .ok (.getfield 34, 3) := by decide +kernel
theorem d_Reader_number_73 : decode prog_9_method_15_code 73 = .ok (.aload_n 0, 1) := by decide +kernel
theorem d_Reader_number_74 : decode prog_9_method_15_code 74 = .ok (.getfield 50, 3) := by decide +kernel
theorem d_Reader_number_77 : decode prog_9_method_15_code 77 = .ok (.isub, 1) := by decide +kernel
theorem d_Reader_number_78 : decode prog_9_method_15_code 78 = .ok (.iconst 4, 1) := by decide +kernel
theorem d_Reader_number_79 : decode prog_9_method_15_code 79 = .ok (.if_icmp .le 7, 3) := by decide +kernel
theorem d_Reader_number_82 : decode prog_9_method_15_code 82 = .ok (.iconst 1, 1) := by decide +kernel
theorem d_Reader_number_83 : decode prog_9_method_15_code 83 = .ok (.goto 4, 3) := by decide +kernel
theorem d_Reader_number_86 : decode prog_9_method_15_code 86 = .ok (.iconst 2, 1) := by decide +kernel
theorem d_Reader_number_87 : decode prog_9_method_15_code 87 = .ok (.putfield 53, 3) := by decide +kernel
theorem d_Reader_number_90 : decode prog_9_method_15_code 90 = .ok (.return_, 1) := by decide +kernel
def p_Reader_number_68 (Q : AH → Prop) (h : AH) : Prop := ((((h.1 25 3) - (h.1 25 4)) ≤ 4 → Q (wI h 25 5 2)) ∧ (¬ ((h.1 25 3) - (h.1 25 4)) ≤ 4 → Q (wI h 25 5 1)))
def p_Reader_number_5 (Q : AH → Prop) : Nat → AH → Prop
  | 0 => fun  _ => False
  | n + 1 => fun h => let K5 := p_Reader_number_5 Q n; (((h.1 25 1) ≤ (h.1 25 3) → p_Reader_number_68 Q   h) ∧ (¬ (h.1 25 1) ≤ (h.1 25 3) → 0 < rR T1 h 25 0 ∧ vA T1 h (rR T1 h 25 0 - 1) ∧ (rS T1 h (rR T1 h 25 0 - 1)).1 = 100 ∧ inb (h.1 25 3) ((rS T1 h (rR T1 h 25 0 - 1)).2) ∧ p_Reader_isDigit (fun r6 h5 => ((r6 = 0 → p_Reader_number_68 Q   h5) ∧ (¬ r6 = 0 → 0 < rR T1 h5 25 0 ∧ vA T1 h5 (rR T1 h5 25 0 - 1) ∧ (rS T1 h5 (rR T1 h5 25 0 - 1)).1 = 100 ∧ inb (h5.1 25 3) ((rS T1 h5 (rR T1 h5 25 0 - 1)).2) ∧ K5 (wI (wI h5 25 6 ((((h5.1 25 6) * 10) + (h5.1 (rR T1 h5 25 0 - 1) (h5.1 25 3))) - 48)) 25 3 (((wI h5 25 6 ((((h5.1 25 6) * 10) + (h5.1 (rR T1 h5 25 0 - 1) (h5.1 25 3))) - 48)).1 25 3) + 1))))) (h.1 (rR T1 h 25 0 - 1) (h.1 25 3)) h))
def p_Reader_number (Q : AH → Prop) (h : AH) : Prop := ∃ n, p_Reader_number_5 Q   n (wI h 25 6 0)
set_option maxRecDepth 20000 in
theorem r_Reader_number_68 {G : GG} {d : Nat} {Q : AH → Prop} (h : AH) (H : p_Reader_number_68 Q h) : Att G T1 m_Reader_number (d + 2) 68 [some (.ref 25)] [] h 0 0 (vQ Q) := by
  refine A_aload_n d_Reader_number_68 rfl ?_
  refine A_aload_n d_Reader_number_69 rfl ?_
  refine A_get (v := .int (h.1 25 3)) d_Reader_number_70 (fo_Reader_34_7 rfl) (vA_s (by decide)) rfl rfl ?_
  refine A_aload_n d_Reader_number_73 rfl ?_
  refine A_get (v := .int (h.1 25 4)) d_Reader_number_74 (fo_Reader_50_7 rfl) (vA_s (by decide)) rfl rfl ?_
  refine A_isub d_Reader_number_77 ?_
  refine A_iconst 4 (by decide) d_Reader_number_78 ?_
  refine A_icmp_le 86 d_Reader_number_79 (by decide) (fun z => ?_) (fun z => ?_)
  · have H := H.1 z
    refine A_iconst 2 (by decide) d_Reader_number_86 ?_
    refine A_putI (k := 5) d_Reader_number_87 (fo_Reader_53_7 rfl) (Or.inr ⟨rfl, _, ft_7_5⟩) (fun z => by cases z) rfl (vA_s (by decide)) rfl rfl rfl ?_
    exact A_ret d_Reader_number_90 rfl H
  · have H := H.2 z
    refine A_iconst 1 (by decide) d_Reader_number_82 ?_
    refine A_goto 87 d_Reader_number_83 (by decide) ?_
    refine A_putI (k := 5) d_Reader_number_87 (fo_Reader_53_7 rfl) (Or.inr ⟨rfl, _, ft_7_5⟩) (fun z => by cases z) rfl (vA_s (by decide)) rfl rfl rfl ?_
    exact A_ret d_Reader_number_90 rfl H
set_option maxRecDepth 20000 in
theorem r_Reader_number_5 {G : GG} {d : Nat} {Q : AH → Prop} : ∀ (n : Nat) (h : AH), p_Reader_number_5 Q n h → Att G T1 m_Reader_number (d + 2) 5 [some (.ref 25)] [] h 0 0 (vQ Q) := by
  intro n
  induction n with
  | zero => intro h H; exact H.elim
  | succ n k5 =>
    intro h H
    refine A_aload_n d_Reader_number_5 rfl ?_
    refine A_get (v := .int (h.1 25 3)) d_Reader_number_6 (fo_Reader_34_7 rfl) (vA_s (by decide)) rfl rfl ?_
    refine A_aload_n d_Reader_number_9 rfl ?_
    refine A_get (v := .int (h.1 25 1)) d_Reader_number_10 (fo_Reader_21_7 rfl) (vA_s (by decide)) rfl rfl ?_
    refine A_icmp_ge 68 d_Reader_number_13 (by decide) (fun z => ?_) (fun z => ?_)
    · have H := H.1 z
      exact r_Reader_number_68   _ H
    · have H := H.2 z
      refine A_aload_n d_Reader_number_16 rfl ?_
      obtain ⟨c1, H⟩ := H
      refine A_get (v := .ref (rR T1 h 25 0 - 1)) d_Reader_number_17 (fo_Reader_9_7 rfl) (vA_s (by decide)) rfl (vR_pos c1) ?_
      refine A_aload_n d_Reader_number_20 rfl ?_
      refine A_get (v := .int (h.1 25 3)) d_Reader_number_21 (fo_Reader_34_7 rfl) (vA_s (by decide)) rfl rfl ?_
      obtain ⟨c2, H⟩ := H
      obtain ⟨c3, H⟩ := H
      obtain ⟨c4, H⟩ := H
      refine A_iald (n := _) d_Reader_number_24 c2 (rS_ex c3) c4 ?_
      refine A_cI [.int (h.1 (rR T1 h 25 0 - 1) (h.1 25 3))] [] (ct_Reader_90 rfl) d_Reader_number_25 rfl rfl (by decide) (Nat.le_of_ble_eq_true rfl) trivial (ok_Reader_isDigit (d := d) H) (fun r6 h5 H => ?_)
      refine A_if_eq 68 d_Reader_number_28 (by decide) (fun z => ?_) (fun z => ?_)
      · have H := H.1 z
        exact r_Reader_number_68   _ H
      · have H := H.2 z
        refine A_aload_n d_Reader_number_31 rfl ?_
        refine A_aload_n d_Reader_number_32 rfl ?_
        refine A_get (v := .int (h5.1 25 6)) d_Reader_number_33 (fo_Reader_78_7 rfl) (vA_s (by decide)) rfl rfl ?_
        refine A_bipush 10 (by decide) d_Reader_number_36 ?_
        refine A_imul d_Reader_number_38 ?_
        refine A_aload_n d_Reader_number_39 rfl ?_
        obtain ⟨c7, H⟩ := H
        refine A_get (v := .ref (rR T1 h5 25 0 - 1)) d_Reader_number_40 (fo_Reader_9_7 rfl) (vA_s (by decide)) rfl (vR_pos c7) ?_
        refine A_aload_n d_Reader_number_43 rfl ?_
        refine A_get (v := .int (h5.1 25 3)) d_Reader_number_44 (fo_Reader_34_7 rfl) (vA_s (by decide)) rfl rfl ?_
        obtain ⟨c8, H⟩ := H
        obtain ⟨c9, H⟩ := H
        obtain ⟨c10, H⟩ := H
        refine A_iald (n := _) d_Reader_number_47 c8 (rS_ex c9) c10 ?_
        refine A_iadd d_Reader_number_48 ?_
        refine A_bipush 48 (by decide) d_Reader_number_49 ?_
        refine A_isub d_Reader_number_51 ?_
        refine A_putI (k := 6) d_Reader_number_52 (fo_Reader_78_7 rfl) (Or.inr ⟨rfl, _, ft_7_6⟩) (fun z => by cases z) rfl (vA_s (by decide)) rfl rfl rfl ?_
        refine A_aload_n d_Reader_number_55 rfl ?_
        refine A_dup rfl d_Reader_number_56 ?_
        refine A_get (v := .int ((wI h5 25 6 ((((h5.1 25 6) * 10) + (h5.1 (rR T1 h5 25 0 - 1) (h5.1 25 3))) - 48)).1 25 3)) d_Reader_number_57 (fo_Reader_34_7 rfl) (vA_s (by decide)) rfl rfl ?_
        refine A_iconst 1 (by decide) d_Reader_number_60 ?_
        refine A_iadd d_Reader_number_61 ?_
        refine A_putI (k := 3) d_Reader_number_62 (fo_Reader_34_7 rfl) (Or.inr ⟨rfl, _, ft_7_3⟩) (fun z => by cases z) rfl (vA_s (by decide)) rfl rfl rfl ?_
        refine A_goto 5 d_Reader_number_65 (by decide) ?_
        exact k5 _ H
set_option maxRecDepth 20000 in
theorem r_Reader_number_0 {G : GG} {d : Nat} {Q : AH → Prop} (h : AH) (H : p_Reader_number Q h) : Att G T1 m_Reader_number (d + 2) 0 [some (.ref 25)] [] h 0 0 (vQ Q) := by
  refine A_aload_n d_Reader_number_0 rfl ?_
  refine A_iconst 0 (by decide) d_Reader_number_1 ?_
  refine A_putI (k := 6) d_Reader_number_2 (fo_Reader_78_7 rfl) (Or.inr ⟨rfl, _, ft_7_6⟩) (fun z => by cases z) rfl (vA_s (by decide)) rfl rfl rfl ?_
  obtain ⟨n9, H⟩ := H
  exact r_Reader_number_5   n9 _ H
set_option maxRecDepth 20000 in
theorem ok_Reader_number {G : GG} {d : Nat} {Q : AH → Prop} {h : AH} (H : p_Reader_number Q h) : WP G T1 m_Reader_number (d + 2) [.ref 25] h 0 0 (vQ Q) := by
  exact WP.enter 0 (by decide) rfl rfl (r_Reader_number_0 h H)
theorem d_UF_count_0 : decode prog_1_method_2_code 0 = .ok (.iload_n 1, 1) := by decide +kernel
theorem d_UF_count_1 : decode prog_1_method_2_code 1 = .ok (.tableswitch 81 0 5 #[39, 47, 55, 63, 68, 76], 39) := by decide +kernel
theorem d_UF_count_40 : decode prog_1_method_2_code 40 = .ok (.aload_n 0, 1) := by decide +kernel
theorem d_UF_count_41 : decode prog_1_method_2_code 41 = .ok (.getfield 34, 3) := by decide +kernel
theorem d_UF_count_44 : decode prog_1_method_2_code 44 = .ok (.getfield 80, 3) := by decide +kernel
theorem d_UF_count_47 : decode prog_1_method_2_code 47 = .ok (.ireturn, 1) := by decide +kernel
theorem d_UF_count_48 : decode prog_1_method_2_code 48 = .ok (.aload_n 0, 1) := by decide +kernel
theorem d_UF_count_49 : decode prog_1_method_2_code 49 = .ok (.getfield 34, 3) := by decide +kernel
theorem d_UF_count_52 : decode prog_1_method_2_code 52 = .ok (.invokevirtual 83, 3) := by decide +kernel
theorem d_UF_count_55 : decode prog_1_method_2_code 55 = .ok (.ireturn, 1) := by decide +kernel
theorem d_UF_count_56 : decode prog_1_method_2_code 56 = .ok (.aload_n 0, 1) := by decide +kernel
theorem d_UF_count_57 : decode prog_1_method_2_code 57 = .ok (.getfield 34, 3) := by decide +kernel
theorem d_UF_count_60 : decode prog_1_method_2_code 60 = .ok (.invokevirtual 86, 3) := by decide +kernel
theorem d_UF_count_63 : decode prog_1_method_2_code 63 = .ok (.ireturn, 1) := by decide +kernel
theorem d_UF_count_64 : decode prog_1_method_2_code 64 = .ok (.aload_n 0, 1) := by decide +kernel
theorem d_UF_count_65 : decode prog_1_method_2_code 65 = .ok (.getfield 76, 3) := by decide +kernel
theorem d_UF_count_68 : decode prog_1_method_2_code 68 = .ok (.ireturn, 1) := by decide +kernel
theorem d_UF_count_69 : decode prog_1_method_2_code 69 = .ok (.aload_n 0, 1) := by decide +kernel
theorem d_UF_count_70 : decode prog_1_method_2_code 70 = .ok (.getfield 34, 3) := by decide +kernel
theorem d_UF_count_73 : decode prog_1_method_2_code 73 = .ok (.getfield 89, 3) := by decide +kernel
theorem d_UF_count_76 : decode prog_1_method_2_code 76 = .ok (.ireturn, 1) := by decide +kernel
theorem d_UF_count_77 : decode prog_1_method_2_code 77 = .ok (.aload_n 0, 1) := by decide +kernel
theorem d_UF_count_78 : decode prog_1_method_2_code 78 = .ok (.getfield 92, 3) := by decide +kernel
theorem d_UF_count_81 : decode prog_1_method_2_code 81 = .ok (.ireturn, 1) := by decide +kernel
theorem d_UF_count_82 : decode prog_1_method_2_code 82 = .ok (.bipush (-2), 2) := by decide +kernel
theorem d_UF_count_84 : decode prog_1_method_2_code 84 = .ok (.ireturn, 1) := by decide +kernel
def p_UF_count (Q : Int32 → AH → Prop) (x1 : Int32) (h : AH) : Prop := ((x1 = 0 → Q (h.1 5 3) h) ∧ (x1 = 1 → p_Town_chains (fun r2 h1 => Q r2 h1) 5 h) ∧ (x1 = 2 → p_Town_crowd (fun r4 h3 => Q r4 h3) 5 h) ∧ (x1 = 3 → Q (h.1 0 8) h) ∧ (x1 = 4 → Q (h.1 5 4) h) ∧ (x1 = 5 → Q (h.1 0 9) h) ∧ (¬ x1 = 0 → ¬ x1 = 1 → ¬ x1 = 2 → ¬ x1 = 3 → ¬ x1 = 4 → ¬ x1 = 5 → Q (-2) h))
set_option maxRecDepth 20000 in
theorem r_UF_count_0 {G : GG} {d : Nat} {Q : Int32 → AH → Prop} (x1 : Int32) (h : AH) (H : p_UF_count Q x1 h) : Att G T1 m_UF_count (d + 2) 0 [some (.ref 0), some (.int x1)] [] h 0 0 (iQ Q) := by
  refine A_iload_n d_UF_count_0 rfl ?_
  by_cases z0 : x1 = 0
  · have H := H.1 z0
    refine A_tsI 40 d_UF_count_1 (by rw [z0]; decide) (by rw [z0]; decide) (by rw [z0]; rfl) (by decide) ?_
    refine A_aload_n d_UF_count_40 rfl ?_
    refine A_get (v := .ref 5) d_UF_count_41 (fo_UF_34_11 rfl) (vA_s (by decide)) rfl rfl ?_
    refine A_get (v := .int (h.1 5 3)) d_UF_count_44 (fo_UF_80_10 rfl) (vA_s (by decide)) rfl rfl ?_
    exact A_iret d_UF_count_47 rfl rfl H
  · have H := H.2
    by_cases z1 : x1 = 1
    · have H := H.1 z1
      refine A_tsI 48 d_UF_count_1 (by rw [z1]; decide) (by rw [z1]; decide) (by rw [z1]; rfl) (by decide) ?_
      refine A_aload_n d_UF_count_48 rfl ?_
      refine A_get (v := .ref 5) d_UF_count_49 (fo_UF_34_11 rfl) (vA_s (by decide)) rfl rfl ?_
      refine A_cI [.ref 5] [] (ct_UF_83 rfl) d_UF_count_52 rfl rfl (by decide) (Nat.le_of_ble_eq_true rfl) (rcA_o (c := 10) rfl (vA_s (by decide)) rfl (by decide) rfl) (ok_Town_chains (d := d) H) (fun r2 h1 H => ?_)
      exact A_iret d_UF_count_55 rfl rfl H
    · have H := H.2
      by_cases z2 : x1 = 2
      · have H := H.1 z2
        refine A_tsI 56 d_UF_count_1 (by rw [z2]; decide) (by rw [z2]; decide) (by rw [z2]; rfl) (by decide) ?_
        refine A_aload_n d_UF_count_56 rfl ?_
        refine A_get (v := .ref 5) d_UF_count_57 (fo_UF_34_11 rfl) (vA_s (by decide)) rfl rfl ?_
        refine A_cI [.ref 5] [] (ct_UF_86 rfl) d_UF_count_60 rfl rfl (by decide) (Nat.le_of_ble_eq_true rfl) (rcA_o (c := 10) rfl (vA_s (by decide)) rfl (by decide) rfl) (ok_Town_crowd (d := d + 1) H) (fun r4 h3 H => ?_)
        exact A_iret d_UF_count_63 rfl rfl H
      · have H := H.2
        by_cases z3 : x1 = 3
        · have H := H.1 z3
          refine A_tsI 64 d_UF_count_1 (by rw [z3]; decide) (by rw [z3]; decide) (by rw [z3]; rfl) (by decide) ?_
          refine A_aload_n d_UF_count_64 rfl ?_
          refine A_get (v := .int (h.1 0 8)) d_UF_count_65 (fo_UF_76_11 rfl) (vA_s (by decide)) rfl rfl ?_
          exact A_iret d_UF_count_68 rfl rfl H
        · have H := H.2
          by_cases z4 : x1 = 4
          · have H := H.1 z4
            refine A_tsI 69 d_UF_count_1 (by rw [z4]; decide) (by rw [z4]; decide) (by rw [z4]; rfl) (by decide) ?_
            refine A_aload_n d_UF_count_69 rfl ?_
            refine A_get (v := .ref 5) d_UF_count_70 (fo_UF_34_11 rfl) (vA_s (by decide)) rfl rfl ?_
            refine A_get (v := .int (h.1 5 4)) d_UF_count_73 (fo_UF_89_10 rfl) (vA_s (by decide)) rfl rfl ?_
            exact A_iret d_UF_count_76 rfl rfl H
          · have H := H.2
            by_cases z5 : x1 = 5
            · have H := H.1 z5
              refine A_tsI 77 d_UF_count_1 (by rw [z5]; decide) (by rw [z5]; decide) (by rw [z5]; rfl) (by decide) ?_
              refine A_aload_n d_UF_count_77 rfl ?_
              refine A_get (v := .int (h.1 0 9)) d_UF_count_78 (fo_UF_92_11 rfl) (vA_s (by decide)) rfl rfl ?_
              exact A_iret d_UF_count_81 rfl rfl H
            · have H := H.2
              have H := H z0 z1 z2 z3 z4 z5
              refine A_tsO 82 d_UF_count_1 (by have t0 := lv_neT z0 (a := 0) (by decide); have t1 := lv_neT z1 (a := 1) (by decide); have t2 := lv_neT z2 (a := 2) (by decide); have t3 := lv_neT z3 (a := 3) (by decide); have t4 := lv_neT z4 (a := 4) (by decide); have t5 := lv_neT z5 (a := 5) (by decide); omega) (by decide) ?_
              refine A_bipush (-2) (by decide) d_UF_count_82 ?_
              exact A_iret d_UF_count_84 rfl rfl H
set_option maxRecDepth 20000 in
theorem ok_UF_count {G : GG} {d : Nat} {Q : Int32 → AH → Prop} {x1 : Int32} {h : AH} (H : p_UF_count Q x1 h) : WP G T1 m_UF_count (d + 2) [.ref 0, .int x1] h 0 0 (iQ Q) := by
  exact WP.enter 0 (by decide) rfl rfl (r_UF_count_0 x1 h H)
theorem d_UF_feed_0 : decode prog_1_method_3_code 0 = .ok (.iload_n 1, 1) := by decide +kernel
theorem d_UF_feed_1 : decode prog_1_method_3_code 1 = .ok (.iconst 1, 1) := by decide +kernel
theorem d_UF_feed_2 : decode prog_1_method_3_code 2 = .ok (.iconst 5, 1) := by decide +kernel
theorem d_UF_feed_3 : decode prog_1_method_3_code 3 = .ok (.invokestatic 95, 3) := by decide +kernel
theorem d_UF_feed_6 : decode prog_1_method_3_code 6 = .ok (.ifCond .ne 6, 3) := by decide +kernel
theorem d_UF_feed_9 : decode prog_1_method_3_code 9 = .ok (.bipush (-2), 2) := by decide +kernel
theorem d_UF_feed_11 : decode prog_1_method_3_code 11 = .ok (.ireturn, 1) := by decide +kernel
theorem d_UF_feed_12 : decode prog_1_method_3_code 12 = .ok (.iload_n 2, 1) := by decide +kernel
theorem d_UF_feed_13 : decode prog_1_method_3_code 13 = .ok (.invokestatic 99, 3) := by decide +kernel
theorem d_UF_feed_16 : decode prog_1_method_3_code 16 = .ok (.ifCond .eq 34, 3) := by decide +kernel
theorem d_UF_feed_19 : decode prog_1_method_3_code 19 = .ok (.iload_n 3, 1) := by decide +kernel
theorem d_UF_feed_20 : decode prog_1_method_3_code 20 = .ok (.invokestatic 99, 3) := by decide +kernel
theorem d_UF_feed_23 : decode prog_1_method_3_code 23 = .ok (.ifCond .eq 27, 3) := by decide +kernel
theorem d_UF_feed_26 : decode prog_1_method_3_code 26 = .ok (.iload 4, 2) := by decide +kernel
theorem d_UF_feed_28 : decode prog_1_method_3_code 28 = .ok (.invokestatic 99, 3) := by decide +kernel
theorem d_UF_feed_31 : decode prog_1_method_3_code 31 = .ok (.ifCond .eq 19, 3) := by decide +kernel
theorem d_UF_feed_34 : decode prog_1_method_3_code 34 = .ok (.iload 5, 2) := by decide +kernel
theorem d_UF_feed_36 : decode prog_1_method_3_code 36 = .ok (.invokestatic 99, 3) := by decide +kernel
theorem d_UF_feed_39 : decode prog_1_method_3_code 39 = .ok (.ifCond .eq 11, 3) := by decide +kernel
theorem d_UF_feed_42 : decode prog_1_method_3_code 42 = .ok (.iload 6, 2) := by decide +kernel
theorem d_UF_feed_44 : decode prog_1_method_3_code 44 = .ok (.invokestatic 99, 3) := by decide +kernel
theorem d_UF_feed_47 : decode prog_1_method_3_code 47 = .ok (.ifCond .ne 6, 3) := by decide +kernel
theorem d_UF_feed_50 : decode prog_1_method_3_code 50 = .ok (.bipush (-2), 2) := by decide +kernel
theorem d_UF_feed_52 : decode prog_1_method_3_code 52 = .ok (.ireturn, 1) := by decide +kernel
theorem d_UF_feed_53 : decode prog_1_method_3_code 53 = .ok (.aload_n 0, 1) := by decide +kernel
theorem d_UF_feed_54 : decode prog_1_method_3_code 54 = .ok (.getfield 92, 3) := by decide +kernel
theorem d_UF_feed_57 : decode prog_1_method_3_code 57 = .ok (.iload_n 1, 1) := by decide +kernel
theorem d_UF_feed_58 : decode prog_1_method_3_code 58 = .ok (.iadd, 1) := by decide +kernel
theorem d_UF_feed_59 : decode prog_1_method_3_code 59 = .ok (.sipush 160, 3) := by decide +kernel
theorem d_UF_feed_62 : decode prog_1_method_3_code 62 = .ok (.if_icmp .le 6, 3) := by decide +kernel
theorem d_UF_feed_65 : decode prog_1_method_3_code 65 = .ok (.bipush (-4), 2) := by decide +kernel
theorem d_UF_feed_67 : decode prog_1_method_3_code 67 = .ok (.ireturn, 1) := by decide +kernel
theorem d_UF_feed_68 : decode prog_1_method_3_code 68 = .ok (.aload_n 0, 1) := by decide +kernel
theorem d_UF_feed_69 : decode prog_1_method_3_code 69 = .ok (.iload_n 2, 1) := by decide +kernel
theorem d_UF_feed_70 : decode prog_1_method_3_code 70 = .ok (.invokevirtual 103, 3) := by decide +kernel
theorem d_UF_feed_73 : decode prog_1_method_3_code 73 = .ok (.iload_n 1, 1) := by decide +kernel
theorem d_UF_feed_74 : decode prog_1_method_3_code 74 = .ok (.iconst 1, 1) := by decide +kernel
theorem d_UF_feed_75 : decode prog_1_method_3_code 75 = .ok (.if_icmp .le 8, 3) := by decide +kernel
theorem d_UF_feed_78 : decode prog_1_method_3_code 78 = .ok (.aload_n 0, 1) := by decide +kernel
theorem d_UF_feed_79 : decode prog_1_method_3_code 79 = .ok (.iload_n 3, 1) := by decide +kernel
theorem d_UF_feed_80 : decode prog_1_method_3_code 80 = .ok (.invokevirtual 103, 3) := by decide +kernel
theorem d_UF_feed_83 : decode prog_1_method_3_code 83 = .ok (.iload_n 1, 1) := by decide +kernel
theorem d_UF_feed_84 : decode prog_1_method_3_code 84 = .ok (.iconst 2, 1) := by decide +kernel
theorem d_UF_feed_85 : decode prog_1_method_3_code 85 = .ok (.if_icmp .le 9, 3) := by decide +kernel
theorem d_UF_feed_88 : decode prog_1_method_3_code 88 = .ok (.aload_n 0, 1) := by decide +kernel
theorem d_UF_feed_89 : decode prog_1_method_3_code 89 = .ok (.iload 4, 2) := by decide +kernel
theorem d_UF_feed_91 : decode prog_1_method_3_code 91 = .ok (.invokevirtual 103, 3) := by decide +kernel
theorem d_UF_feed_94 : decode prog_1_method_3_code 94 = .ok (.iload_n 1, 1) := by decide +kernel
theorem d_UF_feed_95 : decode prog_1_method_3_code 95 = .ok (.iconst 3, 1) := by decide +kernel
theorem d_UF_feed_96 : decode prog_1_method_3_code 96 = .ok (.if_icmp .le 9, 3) := by decide +kernel
theorem d_UF_feed_99 : decode prog_1_method_3_code 99 = .ok (.aload_n 0, 1) := by decide +kernel
theorem d_UF_feed_100 : decode prog_1_method_3_code 100 = .ok (.iload 5, 2) := by decide +kernel
theorem d_UF_feed_102 : decode prog_1_method_3_code 102 = .ok (.invokevirtual 103, 3) := by decide +kernel
theorem d_UF_feed_105 : decode prog_1_method_3_code 105 = .ok (.iload_n 1, 1) := by decide +kernel
theorem d_UF_feed_106 : decode prog_1_method_3_code 106 = .ok (.iconst 4, 1) := by decide +kernel
theorem d_UF_feed_107 : decode prog_1_method_3_code 107 = .ok (.if_icmp .le 9, 3) := by decide +kernel
theorem d_UF_feed_110 : decode prog_1_method_3_code 110 = .ok (.aload_n 0, 1) := by decide +kernel
theorem d_UF_feed_111 : decode prog_1_method_3_code 111 = .ok (.iload 6, 2) := by decide +kernel
theorem d_UF_feed_113 : decode prog_1_method_3_code 113 = .ok (.invokevirtual 103, 3) := by decide +kernel
theorem d_UF_feed_116 : decode prog_1_method_3_code 116 = .ok (.aload_n 0, 1) := by decide +kernel
theorem d_UF_feed_117 : decode prog_1_method_3_code 117 = .ok (.getfield 92, 3) := by decide +kernel
theorem d_UF_feed_120 : decode prog_1_method_3_code 120 = .ok (.ireturn, 1) := by decide +kernel
def p_UF_feed_105 (Q : Int32 → AH → Prop) (x1 : Int32) (x6 : Int32) (h : AH) : Prop := ((x1 ≤ 4 → Q (h.1 0 9) h) ∧ (¬ x1 ≤ 4 → p_UF_put (fun h1 => Q (h1.1 0 9) h1) x6 h))
def p_UF_feed_94 (Q : Int32 → AH → Prop) (x1 : Int32) (x5 : Int32) (x6 : Int32) (h : AH) : Prop := ((x1 ≤ 3 → p_UF_feed_105 Q   x1 x6 h) ∧ (¬ x1 ≤ 3 → p_UF_put (fun h1 => p_UF_feed_105 Q   x1 x6 h1) x5 h))
def p_UF_feed_83 (Q : Int32 → AH → Prop) (x1 : Int32) (x4 : Int32) (x5 : Int32) (x6 : Int32) (h : AH) : Prop := ((x1 ≤ 2 → p_UF_feed_94 Q   x1 x5 x6 h) ∧ (¬ x1 ≤ 2 → p_UF_put (fun h1 => p_UF_feed_94 Q   x1 x5 x6 h1) x4 h))
def p_UF_feed (Q : Int32 → AH → Prop) (x1 : Int32) (x2 : Int32) (x3 : Int32) (x4 : Int32) (x5 : Int32) (x6 : Int32) (h : AH) : Prop := p_UF_within (fun r2 h1 => ((¬ r2 = 0 → p_UF_isByte (fun r4 h3 => ((r4 = 0 → Q (-2) h3) ∧ (¬ r4 = 0 → p_UF_isByte (fun r6 h5 => ((r6 = 0 → Q (-2) h5) ∧ (¬ r6 = 0 → p_UF_isByte (fun r8 h7 => ((r8 = 0 → Q (-2) h7) ∧ (¬ r8 = 0 → p_UF_isByte (fun r10 h9 => ((r10 = 0 → Q (-2) h9) ∧ (¬ r10 = 0 → p_UF_isByte (fun r12 h11 => ((¬ r12 = 0 → ((((h11.1 0 9) + x1) ≤ 160 → p_UF_put (fun h13 => ((x1 ≤ 1 → p_UF_feed_83 Q   x1 x4 x5 x6 h13) ∧ (¬ x1 ≤ 1 → p_UF_put (fun h14 => p_UF_feed_83 Q   x1 x4 x5 x6 h14) x3 h13))) x2 h11) ∧ (¬ ((h11.1 0 9) + x1) ≤ 160 → Q (-4) h11))) ∧ (r12 = 0 → Q (-2) h11))) x6 h9))) x5 h7))) x4 h5))) x3 h3))) x2 h1) ∧ (r2 = 0 → Q (-2) h1))) x1 1 5 h
set_option maxRecDepth 20000 in
theorem r_UF_feed_105 {G : GG} {d : Nat} {Q : Int32 → AH → Prop} (x1 : Int32) (x6 : Int32) (h : AH) (H : p_UF_feed_105 Q x1 x6 h) : Att G T1 m_UF_feed (d + 2) 105 [some (.ref 0), some (.int x1), none, none, none, none, some (.int x6)] [] h 0 0 (iQ Q) := by
  refine A_iload_n d_UF_feed_105 rfl ?_
  refine A_iconst 4 (by decide) d_UF_feed_106 ?_
  refine A_icmp_le 116 d_UF_feed_107 (by decide) (fun z => ?_) (fun z => ?_)
  · have H := H.1 z
    refine A_aload_n d_UF_feed_116 rfl ?_
    refine A_get (v := .int (h.1 0 9)) d_UF_feed_117 (fo_UF_92_11 rfl) (vA_s (by decide)) rfl rfl ?_
    exact A_iret d_UF_feed_120 rfl rfl H
  · have H := H.2 z
    refine A_aload_n d_UF_feed_110 rfl ?_
    refine A_iload d_UF_feed_111 rfl ?_
    refine A_cV [.ref 0, .int x6] [] (ct_UF_103 rfl) d_UF_feed_113 rfl rfl (by decide) (Nat.le_of_ble_eq_true rfl) (rcA_o (c := 11) rfl (vA_s (by decide)) rfl (by decide) rfl) (ok_UF_put (d := d + 1) H) (fun h1 H => ?_)
    refine A_aload_n d_UF_feed_116 rfl ?_
    refine A_get (v := .int (h1.1 0 9)) d_UF_feed_117 (fo_UF_92_11 rfl) (vA_s (by decide)) rfl rfl ?_
    exact A_iret d_UF_feed_120 rfl rfl H
set_option maxRecDepth 20000 in
theorem r_UF_feed_94 {G : GG} {d : Nat} {Q : Int32 → AH → Prop} (x1 : Int32) (x5 : Int32) (x6 : Int32) (h : AH) (H : p_UF_feed_94 Q x1 x5 x6 h) : Att G T1 m_UF_feed (d + 2) 94 [some (.ref 0), some (.int x1), none, none, none, some (.int x5), some (.int x6)] [] h 0 0 (iQ Q) := by
  refine A_iload_n d_UF_feed_94 rfl ?_
  refine A_iconst 3 (by decide) d_UF_feed_95 ?_
  refine A_icmp_le 105 d_UF_feed_96 (by decide) (fun z => ?_) (fun z => ?_)
  · have H := H.1 z
    refine A_sub (L' := [some (.ref 0), some (.int x1), none, none, none, none, some (.int x6)]) ⟨rfl, rfl, rfl, trivial⟩ ?_
    exact r_UF_feed_105   _ _ _ H
  · have H := H.2 z
    refine A_aload_n d_UF_feed_99 rfl ?_
    refine A_iload d_UF_feed_100 rfl ?_
    refine A_cV [.ref 0, .int x5] [] (ct_UF_103 rfl) d_UF_feed_102 rfl rfl (by decide) (Nat.le_of_ble_eq_true rfl) (rcA_o (c := 11) rfl (vA_s (by decide)) rfl (by decide) rfl) (ok_UF_put (d := d + 1) H) (fun h1 H => ?_)
    refine A_sub (L' := [some (.ref 0), some (.int x1), none, none, none, none, some (.int x6)]) ⟨rfl, rfl, rfl, trivial⟩ ?_
    exact r_UF_feed_105   _ _ _ H
set_option maxRecDepth 20000 in
theorem r_UF_feed_83 {G : GG} {d : Nat} {Q : Int32 → AH → Prop} (x1 : Int32) (x4 : Int32) (x5 : Int32) (x6 : Int32) (h : AH) (H : p_UF_feed_83 Q x1 x4 x5 x6 h) : Att G T1 m_UF_feed (d + 2) 83 [some (.ref 0), some (.int x1), none, none, some (.int x4), some (.int x5), some (.int x6)] [] h 0 0 (iQ Q) := by
  refine A_iload_n d_UF_feed_83 rfl ?_
  refine A_iconst 2 (by decide) d_UF_feed_84 ?_
  refine A_icmp_le 94 d_UF_feed_85 (by decide) (fun z => ?_) (fun z => ?_)
  · have H := H.1 z
    refine A_sub (L' := [some (.ref 0), some (.int x1), none, none, none, some (.int x5), some (.int x6)]) ⟨rfl, rfl, rfl, rfl, trivial⟩ ?_
    exact r_UF_feed_94   _ _ _ _ H
  · have H := H.2 z
    refine A_aload_n d_UF_feed_88 rfl ?_
    refine A_iload d_UF_feed_89 rfl ?_
    refine A_cV [.ref 0, .int x4] [] (ct_UF_103 rfl) d_UF_feed_91 rfl rfl (by decide) (Nat.le_of_ble_eq_true rfl) (rcA_o (c := 11) rfl (vA_s (by decide)) rfl (by decide) rfl) (ok_UF_put (d := d + 1) H) (fun h1 H => ?_)
    refine A_sub (L' := [some (.ref 0), some (.int x1), none, none, none, some (.int x5), some (.int x6)]) ⟨rfl, rfl, rfl, rfl, trivial⟩ ?_
    exact r_UF_feed_94   _ _ _ _ H
set_option maxRecDepth 20000 in
theorem r_UF_feed_0 {G : GG} {d : Nat} {Q : Int32 → AH → Prop} (x1 : Int32) (x2 : Int32) (x3 : Int32) (x4 : Int32) (x5 : Int32) (x6 : Int32) (h : AH) (H : p_UF_feed Q x1 x2 x3 x4 x5 x6 h) : Att G T1 m_UF_feed (d + 2) 0 [some (.ref 0), some (.int x1), some (.int x2), some (.int x3), some (.int x4), some (.int x5), some (.int x6)] [] h 0 0 (iQ Q) := by
  refine A_iload_n d_UF_feed_0 rfl ?_
  refine A_iconst 1 (by decide) d_UF_feed_1 ?_
  refine A_iconst 5 (by decide) d_UF_feed_2 ?_
  refine A_cI [.int x1, .int 1, .int 5] [] (ct_UF_95 rfl) d_UF_feed_3 rfl rfl (by decide) (Nat.le_of_ble_eq_true rfl) trivial (ok_UF_within (d := d + 1) H) (fun r2 h1 H => ?_)
  refine A_if_ne 12 d_UF_feed_6 (by decide) (fun z => ?_) (fun z => ?_)
  · have H := H.1 z
    refine A_iload_n d_UF_feed_12 rfl ?_
    refine A_cI [.int x2] [] (ct_UF_99 rfl) d_UF_feed_13 rfl rfl (by decide) (Nat.le_of_ble_eq_true rfl) trivial (ok_UF_isByte (d := d) H) (fun r4 h3 H => ?_)
    refine A_if_eq 50 d_UF_feed_16 (by decide) (fun z => ?_) (fun z => ?_)
    · have H := H.1 z
      refine A_bipush (-2) (by decide) d_UF_feed_50 ?_
      exact A_iret d_UF_feed_52 rfl rfl H
    · have H := H.2 z
      refine A_iload_n d_UF_feed_19 rfl ?_
      refine A_cI [.int x3] [] (ct_UF_99 rfl) d_UF_feed_20 rfl rfl (by decide) (Nat.le_of_ble_eq_true rfl) trivial (ok_UF_isByte (d := d) H) (fun r6 h5 H => ?_)
      refine A_if_eq 50 d_UF_feed_23 (by decide) (fun z => ?_) (fun z => ?_)
      · have H := H.1 z
        refine A_bipush (-2) (by decide) d_UF_feed_50 ?_
        exact A_iret d_UF_feed_52 rfl rfl H
      · have H := H.2 z
        refine A_iload d_UF_feed_26 rfl ?_
        refine A_cI [.int x4] [] (ct_UF_99 rfl) d_UF_feed_28 rfl rfl (by decide) (Nat.le_of_ble_eq_true rfl) trivial (ok_UF_isByte (d := d) H) (fun r8 h7 H => ?_)
        refine A_if_eq 50 d_UF_feed_31 (by decide) (fun z => ?_) (fun z => ?_)
        · have H := H.1 z
          refine A_bipush (-2) (by decide) d_UF_feed_50 ?_
          exact A_iret d_UF_feed_52 rfl rfl H
        · have H := H.2 z
          refine A_iload d_UF_feed_34 rfl ?_
          refine A_cI [.int x5] [] (ct_UF_99 rfl) d_UF_feed_36 rfl rfl (by decide) (Nat.le_of_ble_eq_true rfl) trivial (ok_UF_isByte (d := d) H) (fun r10 h9 H => ?_)
          refine A_if_eq 50 d_UF_feed_39 (by decide) (fun z => ?_) (fun z => ?_)
          · have H := H.1 z
            refine A_bipush (-2) (by decide) d_UF_feed_50 ?_
            exact A_iret d_UF_feed_52 rfl rfl H
          · have H := H.2 z
            refine A_iload d_UF_feed_42 rfl ?_
            refine A_cI [.int x6] [] (ct_UF_99 rfl) d_UF_feed_44 rfl rfl (by decide) (Nat.le_of_ble_eq_true rfl) trivial (ok_UF_isByte (d := d) H) (fun r12 h11 H => ?_)
            refine A_if_ne 53 d_UF_feed_47 (by decide) (fun z => ?_) (fun z => ?_)
            · have H := H.1 z
              refine A_aload_n d_UF_feed_53 rfl ?_
              refine A_get (v := .int (h11.1 0 9)) d_UF_feed_54 (fo_UF_92_11 rfl) (vA_s (by decide)) rfl rfl ?_
              refine A_iload_n d_UF_feed_57 rfl ?_
              refine A_iadd d_UF_feed_58 ?_
              refine A_sipush 160 (by decide) d_UF_feed_59 ?_
              refine A_icmp_le 68 d_UF_feed_62 (by decide) (fun z => ?_) (fun z => ?_)
              · have H := H.1 z
                refine A_aload_n d_UF_feed_68 rfl ?_
                refine A_iload_n d_UF_feed_69 rfl ?_
                refine A_cV [.ref 0, .int x2] [] (ct_UF_103 rfl) d_UF_feed_70 rfl rfl (by decide) (Nat.le_of_ble_eq_true rfl) (rcA_o (c := 11) rfl (vA_s (by decide)) rfl (by decide) rfl) (ok_UF_put (d := d + 1) H) (fun h13 H => ?_)
                refine A_iload_n d_UF_feed_73 rfl ?_
                refine A_iconst 1 (by decide) d_UF_feed_74 ?_
                refine A_icmp_le 83 d_UF_feed_75 (by decide) (fun z => ?_) (fun z => ?_)
                · have H := H.1 z
                  refine A_sub (L' := [some (.ref 0), some (.int x1), none, none, some (.int x4), some (.int x5), some (.int x6)]) ⟨rfl, rfl, rfl, rfl, rfl, trivial⟩ ?_
                  exact r_UF_feed_83   _ _ _ _ _ H
                · have H := H.2 z
                  refine A_aload_n d_UF_feed_78 rfl ?_
                  refine A_iload_n d_UF_feed_79 rfl ?_
                  refine A_cV [.ref 0, .int x3] [] (ct_UF_103 rfl) d_UF_feed_80 rfl rfl (by decide) (Nat.le_of_ble_eq_true rfl) (rcA_o (c := 11) rfl (vA_s (by decide)) rfl (by decide) rfl) (ok_UF_put (d := d + 1) H) (fun h14 H => ?_)
                  refine A_sub (L' := [some (.ref 0), some (.int x1), none, none, some (.int x4), some (.int x5), some (.int x6)]) ⟨rfl, rfl, rfl, rfl, rfl, trivial⟩ ?_
                  exact r_UF_feed_83   _ _ _ _ _ H
              · have H := H.2 z
                refine A_bipush (-4) (by decide) d_UF_feed_65 ?_
                exact A_iret d_UF_feed_67 rfl rfl H
            · have H := H.2 z
              refine A_bipush (-2) (by decide) d_UF_feed_50 ?_
              exact A_iret d_UF_feed_52 rfl rfl H
  · have H := H.2 z
    refine A_bipush (-2) (by decide) d_UF_feed_9 ?_
    exact A_iret d_UF_feed_11 rfl rfl H
set_option maxRecDepth 20000 in
theorem ok_UF_feed {G : GG} {d : Nat} {Q : Int32 → AH → Prop} {x1 : Int32} {x2 : Int32} {x3 : Int32} {x4 : Int32} {x5 : Int32} {x6 : Int32} {h : AH} (H : p_UF_feed Q x1 x2 x3 x4 x5 x6 h) : WP G T1 m_UF_feed (d + 2) [.ref 0, .int x1, .int x2, .int x3, .int x4, .int x5, .int x6] h 0 0 (iQ Q) := by
  exact WP.enter 0 (by decide) rfl rfl (r_UF_feed_0 x1 x2 x3 x4 x5 x6 h H)
theorem d_Dusk_begin_0 : decode prog_4_method_2_code 0 = .ok (.aload_n 0, 1) := by decide +kernel
theorem d_Dusk_begin_1 : decode prog_4_method_2_code 1 = .ok (.getfield 12, 3) := by decide +kernel
theorem d_Dusk_begin_4 : decode prog_4_method_2_code 4 = .ok (.aload_n 1, 1) := by decide +kernel
theorem d_Dusk_begin_5 : decode prog_4_method_2_code 5 = .ok (.invokevirtual 45, 3) := by decide +kernel
theorem d_Dusk_begin_8 : decode prog_4_method_2_code 8 = .ok (.aload_n 0, 1) := by decide +kernel
theorem d_Dusk_begin_9 : decode prog_4_method_2_code 9 = .ok (.aload_n 3, 1) := by decide +kernel
theorem d_Dusk_begin_10 : decode prog_4_method_2_code 10 = .ok (.putfield 49, 3) := by decide +kernel
theorem d_Dusk_begin_13 : decode prog_4_method_2_code 13 = .ok (.iconst 0, 1) := by decide +kernel
theorem d_Dusk_begin_14 : decode prog_4_method_2_code 14 = .ok (.istore 4, 2) := by decide +kernel
theorem d_Dusk_begin_16 : decode prog_4_method_2_code 16 = .ok (.iload 4, 2) := by decide +kernel
theorem d_Dusk_begin_18 : decode prog_4_method_2_code 18 = .ok (.bipush 7, 2) := by decide +kernel
theorem d_Dusk_begin_20 : decode prog_4_method_2_code 20 = .ok (.if_icmp .ge 59, 3) := by decide +kernel
theorem d_Dusk_begin_23 : decode prog_4_method_2_code 23 = .ok (.iload 4, 2) := by decide +kernel
theorem d_Dusk_begin_25 : decode prog_4_method_2_code 25 = .ok (.aload_n 2, 1) := by decide +kernel
theorem d_Dusk_begin_26 : decode prog_4_method_2_code 26 = .ok (.arraylength, 1) := by decide +kernel
theorem d_Dusk_begin_27 : decode prog_4_method_2_code 27 = .ok (.if_icmp .ge 52, 3) := by decide +kernel
theorem d_Dusk_begin_30 : decode prog_4_method_2_code 30 = .ok (.aload_n 0, 1) := by decide +kernel
theorem d_Dusk_begin_31 : decode prog_4_method_2_code 31 = .ok (.getfield 20, 3) := by decide +kernel
theorem d_Dusk_begin_34 : decode prog_4_method_2_code 34 = .ok (.iload 4, 2) := by decide +kernel
theorem d_Dusk_begin_36 : decode prog_4_method_2_code 36 = .ok (.aload_n 2, 1) := by decide +kernel
theorem d_Dusk_begin_37 : decode prog_4_method_2_code 37 = .ok (.iload 4, 2) := by decide +kernel
theorem d_Dusk_begin_39 : decode prog_4_method_2_code 39 = .ok (.aaload, 1) := by decide +kernel
theorem d_Dusk_begin_40 : decode prog_4_method_2_code 40 = .ok (.aastore, 1) := by decide +kernel
theorem d_Dusk_begin_41 : decode prog_4_method_2_code 41 = .ok (.aload_n 0, 1) := by decide +kernel
theorem d_Dusk_begin_42 : decode prog_4_method_2_code 42 = .ok (.getfield 24, 3) := by decide +kernel
theorem d_Dusk_begin_45 : decode prog_4_method_2_code 45 = .ok (.iload 4, 2) := by decide +kernel
theorem d_Dusk_begin_47 : decode prog_4_method_2_code 47 = .ok (.iconst 0, 1) := by decide +kernel
theorem d_Dusk_begin_48 : decode prog_4_method_2_code 48 = .ok (.iastore, 1) := by decide +kernel
theorem d_Dusk_begin_49 : decode prog_4_method_2_code 49 = .ok (.aload_n 0, 1) := by decide +kernel
theorem d_Dusk_begin_50 : decode prog_4_method_2_code 50 = .ok (.getfield 28, 3) := by decide +kernel
theorem d_Dusk_begin_53 : decode prog_4_method_2_code 53 = .ok (.iload 4, 2) := by decide +kernel
theorem d_Dusk_begin_55 : decode prog_4_method_2_code 55 = .ok (.iconst 0, 1) := by decide +kernel
theorem d_Dusk_begin_56 : decode prog_4_method_2_code 56 = .ok (.iastore, 1) := by decide +kernel
theorem d_Dusk_begin_57 : decode prog_4_method_2_code 57 = .ok (.aload_n 0, 1) := by decide +kernel
theorem d_Dusk_begin_58 : decode prog_4_method_2_code 58 = .ok (.getfield 31, 3) := by decide +kernel
theorem d_Dusk_begin_61 : decode prog_4_method_2_code 61 = .ok (.iload 4, 2) := by decide +kernel
theorem d_Dusk_begin_63 : decode prog_4_method_2_code 63 = .ok (.iconst 0, 1) := by decide +kernel
theorem d_Dusk_begin_64 : decode prog_4_method_2_code 64 = .ok (.iastore, 1) := by decide +kernel
theorem d_Dusk_begin_65 : decode prog_4_method_2_code 65 = .ok (.aload_n 0, 1) := by decide +kernel
theorem d_Dusk_begin_66 : decode prog_4_method_2_code 66 = .ok (.getfield 34, 3) := by decide +kernel
theorem d_Dusk_begin_69 : decode prog_4_method_2_code 69 = .ok (.iload 4, 2) := by decide +kernel
theorem d_Dusk_begin_71 : decode prog_4_method_2_code 71 = .ok (.iconst (-1), 1) := by decide +kernel
theorem d_Dusk_begin_72 : decode prog_4_method_2_code 72 = .ok (.iastore, 1) := by decide +kernel
theorem d_Dusk_begin_73 : decode prog_4_method_2_code 73 = .ok (.iinc 4 1, 3) := by decide +kernel
theorem d_Dusk_begin_76 : decode prog_4_method_2_code 76 = .ok (.goto (-60), 3) := by decide +kernel
theorem d_Dusk_begin_79 : decode prog_4_method_2_code 79 = .ok (.return_, 1) := by decide +kernel
def p_Dusk_begin_16 (Q : AH → Prop) : Nat → Nat → Int32 → AH → Prop
  | 0 => fun _ _ _ => False
  | n + 1 => fun a2 x4 h => let K16 := p_Dusk_begin_16 Q n; ((7 ≤ x4 → Q h) ∧ (¬ 7 ≤ x4 → vA T1 h a2 ∧ (rS T1 h a2).1 = 101 ∧ (((Int32.ofNat (rS T1 h a2).2) ≤ x4 → Q h) ∧ (¬ (Int32.ofNat (rS T1 h a2).2) ≤ x4 → inb x4 ((rS T1 h a2).2) ∧ 0 < rR T1 h a2 x4.toNatClampNeg ∧ famA T1 h (rR T1 h a2 x4.toNatClampNeg - 1) ∧ inb x4 7 ∧ inb x4 7 ∧ K16 a2 (x4 + 1) (wI (wI (wI (wI (wR h 18 x4.toNatClampNeg ((rR T1 h a2 x4.toNatClampNeg - 1) + 1)) 19 x4 0) 20 x4 0) 21 x4 0) 22 x4 (-1))))))
def p_Dusk_begin (Q : AH → Prop) (a1 : Nat) (a2 : Nat) (a3 : Nat) (h : AH) : Prop := p_Town_become (fun h1 => ∃ n, p_Dusk_begin_16 Q   n a2 0 (wR h1 13 8 (a3 + 1))) 14 a1 h
set_option maxRecDepth 20000 in
theorem r_Dusk_begin_16 {G : GG} {d : Nat} {Q : AH → Prop} : ∀ (n : Nat) (a2 : Nat) (x4 : Int32) (h : AH), p_Dusk_begin_16 Q n a2 x4 h → Att G T1 m_Dusk_begin (d + 2) 16 [some (.ref 13), none, some (.ref a2), none, some (.int x4)] [] h 0 0 (vQ Q) := by
  intro n
  induction n with
  | zero => intro a2 x4 h H; exact H.elim
  | succ n k16 =>
    intro a2 x4 h H
    refine A_iload d_Dusk_begin_16 rfl ?_
    refine A_bipush 7 (by decide) d_Dusk_begin_18 ?_
    refine A_icmp_ge 79 d_Dusk_begin_20 (by decide) (fun z => ?_) (fun z => ?_)
    · have H := H.1 z
      exact A_ret d_Dusk_begin_79 rfl H
    · have H := H.2 z
      refine A_iload d_Dusk_begin_23 rfl ?_
      refine A_aload_n d_Dusk_begin_25 rfl ?_
      obtain ⟨c1, H⟩ := H
      obtain ⟨c2, H⟩ := H
      refine A_alenR (t := 0) d_Dusk_begin_26 (by decide) c1 (rS_ex c2) ?_
      refine A_icmp_ge 79 d_Dusk_begin_27 (by decide) (fun z => ?_) (fun z => ?_)
      · have H := H.1 z
        exact A_ret d_Dusk_begin_79 rfl H
      · have H := H.2 z
        refine A_aload_n d_Dusk_begin_30 rfl ?_
        refine A_get (v := .ref 18) d_Dusk_begin_31 (fo_Dusk_20_2 rfl) (vA_s (by decide)) rfl rfl ?_
        refine A_iload d_Dusk_begin_34 rfl ?_
        refine A_aload_n d_Dusk_begin_36 rfl ?_
        refine A_iload d_Dusk_begin_37 rfl ?_
        obtain ⟨c3, H⟩ := H
        obtain ⟨c4, H⟩ := H
        refine A_aald (t := 0) (n := _) d_Dusk_begin_39 (by decide) c1 (rS_ex c2) c3 (pos_sub c4) ?_
        obtain ⟨c5, H⟩ := H
        obtain ⟨c6, H⟩ := H
        refine A_aastH (n := 7) d_Dusk_begin_40 (vA_s (by decide)) rfl c6 c5 rfl ?_
        refine A_aload_n d_Dusk_begin_41 rfl ?_
        refine A_get (v := .ref 19) d_Dusk_begin_42 (fo_Dusk_24_2 rfl) (vA_s (by decide)) rfl rfl ?_
        refine A_iload d_Dusk_begin_45 rfl ?_
        refine A_iconst 0 (by decide) d_Dusk_begin_47 ?_
        obtain ⟨c7, H⟩ := H
        refine A_iast (n := 7) d_Dusk_begin_48 (vA_s (by decide)) rfl c7 ?_
        refine A_aload_n d_Dusk_begin_49 rfl ?_
        refine A_get (v := .ref 20) d_Dusk_begin_50 (fo_Dusk_28_2 rfl) (vA_s (by decide)) rfl rfl ?_
        refine A_iload d_Dusk_begin_53 rfl ?_
        refine A_iconst 0 (by decide) d_Dusk_begin_55 ?_
        refine A_iast (n := 7) d_Dusk_begin_56 (vA_s (by decide)) rfl c7 ?_
        refine A_aload_n d_Dusk_begin_57 rfl ?_
        refine A_get (v := .ref 21) d_Dusk_begin_58 (fo_Dusk_31_2 rfl) (vA_s (by decide)) rfl rfl ?_
        refine A_iload d_Dusk_begin_61 rfl ?_
        refine A_iconst 0 (by decide) d_Dusk_begin_63 ?_
        refine A_iast (n := 7) d_Dusk_begin_64 (vA_s (by decide)) rfl c7 ?_
        refine A_aload_n d_Dusk_begin_65 rfl ?_
        refine A_get (v := .ref 22) d_Dusk_begin_66 (fo_Dusk_34_2 rfl) (vA_s (by decide)) rfl rfl ?_
        refine A_iload d_Dusk_begin_69 rfl ?_
        refine A_iconst (-1) (by decide) d_Dusk_begin_71 ?_
        refine A_iast (n := 7) d_Dusk_begin_72 (vA_s (by decide)) rfl c7 ?_
        refine A_iinc 1 [some (.ref 13), none, some (.ref a2), none, some (.int (x4 + 1))] d_Dusk_begin_73 rfl (by decide) (by decide) rfl rfl ?_
        refine A_goto 16 d_Dusk_begin_76 (by decide) ?_
        exact k16 _ _ _ H
set_option maxRecDepth 20000 in
theorem r_Dusk_begin_0 {G : GG} {d : Nat} {Q : AH → Prop} (a1 : Nat) (a2 : Nat) (a3 : Nat) (h : AH) (H : p_Dusk_begin Q a1 a2 a3 h) : Att G T1 m_Dusk_begin (d + 2) 0 [some (.ref 13), some (.ref a1), some (.ref a2), some (.ref a3), none] [] h 0 0 (vQ Q) := by
  refine A_aload_n d_Dusk_begin_0 rfl ?_
  refine A_get (v := .ref 14) d_Dusk_begin_1 (fo_Dusk_12_2 rfl) (vA_s (by decide)) rfl rfl ?_
  refine A_aload_n d_Dusk_begin_4 rfl ?_
  refine A_cV [.ref 14, .ref a1] [] (ct_Dusk_45 rfl) d_Dusk_begin_5 rfl rfl (by decide) (Nat.le_of_ble_eq_true rfl) (rcA_o (c := 10) rfl (vA_s (by decide)) rfl (by decide) rfl) (ok_Town_become (d := d) H) (fun h1 H => ?_)
  refine A_aload_n d_Dusk_begin_8 rfl ?_
  refine A_aload_n d_Dusk_begin_9 rfl ?_
  refine A_putR (k := 8) d_Dusk_begin_10 (fo_Dusk_49_2 rfl) (Or.inr ⟨rfl, _, ft_2_8⟩) (fun z => by cases z) rfl (vA_s (by decide)) rfl rfl (fun _ => rfl) (fun _ => rfl) ?_
  refine A_iconst 0 (by decide) d_Dusk_begin_13 ?_
  refine A_istore [some (.ref 13), some (.ref a1), some (.ref a2), some (.ref a3), some (.int 0)] d_Dusk_begin_14 (by decide) rfl rfl ?_
  refine A_sub (L' := [some (.ref 13), none, some (.ref a2), none, some (.int 0)]) ⟨rfl, rfl, rfl, trivial⟩ ?_
  obtain ⟨n9, H⟩ := H
  exact r_Dusk_begin_16   n9 _ _ _ H
set_option maxRecDepth 20000 in
theorem ok_Dusk_begin {G : GG} {d : Nat} {Q : AH → Prop} {a1 : Nat} {a2 : Nat} {a3 : Nat} {h : AH} (H : p_Dusk_begin Q a1 a2 a3 h) : WP G T1 m_Dusk_begin (d + 2) [.ref 13, .ref a1, .ref a2, .ref a3] h 0 0 (vQ Q) := by
  exact WP.enter 1 (by decide) rfl rfl (r_Dusk_begin_0 a1 a2 a3 h H)
