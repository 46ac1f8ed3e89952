/-! settle, house, housesBy (printed by wip/gen/make.py) -/
theorem d_UF_settle_0 : decode prog_1_method_44_code 0 = .ok (.iload_n 1, 1) := by decide +kernel
theorem d_UF_settle_1 : decode prog_1_method_44_code 1 = .ok (.iconst 0, 1) := by decide +kernel
theorem d_UF_settle_2 : decode prog_1_method_44_code 2 = .ok (.iconst 5, 1) := by decide +kernel
theorem d_UF_settle_3 : decode prog_1_method_44_code 3 = .ok (.invokestatic 95, 3) := by decide +kernel
theorem d_UF_settle_6 : decode prog_1_method_44_code 6 = .ok (.ifCond .eq 23, 3) := by decide +kernel
theorem d_UF_settle_9 : decode prog_1_method_44_code 9 = .ok (.iload_n 2, 1) := by decide +kernel
theorem d_UF_settle_10 : decode prog_1_method_44_code 10 = .ok (.iconst 0, 1) := by decide +kernel
theorem d_UF_settle_11 : decode prog_1_method_44_code 11 = .ok (.bipush 99, 2) := by decide +kernel
theorem d_UF_settle_13 : decode prog_1_method_44_code 13 = .ok (.invokestatic 95, 3) := by decide +kernel
theorem d_UF_settle_16 : decode prog_1_method_44_code 16 = .ok (.ifCond .eq 13, 3) := by decide +kernel
theorem d_UF_settle_19 : decode prog_1_method_44_code 19 = .ok (.iload_n 3, 1) := by decide +kernel
theorem d_UF_settle_20 : decode prog_1_method_44_code 20 = .ok (.iconst 0, 1) := by decide +kernel
theorem d_UF_settle_21 : decode prog_1_method_44_code 21 = .ok (.bipush 9, 2) := by decide +kernel
theorem d_UF_settle_23 : decode prog_1_method_44_code 23 = .ok (.invokestatic 95, 3) := by decide +kernel
theorem d_UF_settle_26 : decode prog_1_method_44_code 26 = .ok (.ifCond .ne 6, 3) := by decide +kernel
theorem d_UF_settle_29 : decode prog_1_method_44_code 29 = .ok (.bipush (-2), 2) := by decide +kernel
theorem d_UF_settle_31 : decode prog_1_method_44_code 31 = .ok (.ireturn, 1) := by decide +kernel
theorem d_UF_settle_32 : decode prog_1_method_44_code 32 = .ok (.aload_n 0, 1) := by decide +kernel
theorem d_UF_settle_33 : decode prog_1_method_44_code 33 = .ok (.getfield 34, 3) := by decide +kernel
theorem d_UF_settle_36 : decode prog_1_method_44_code 36 = .ok (.getfield 80, 3) := by decide +kernel
theorem d_UF_settle_39 : decode prog_1_method_44_code 39 = .ok (.bipush 7, 2) := by decide +kernel
theorem d_UF_settle_41 : decode prog_1_method_44_code 41 = .ok (.if_icmp .lt 6, 3) := by decide +kernel
theorem d_UF_settle_44 : decode prog_1_method_44_code 44 = .ok (.bipush (-4), 2) := by decide +kernel
theorem d_UF_settle_46 : decode prog_1_method_44_code 46 = .ok (.ireturn, 1) := by decide +kernel
theorem d_UF_settle_47 : decode prog_1_method_44_code 47 = .ok (.aload_n 0, 1) := by decide +kernel
theorem d_UF_settle_48 : decode prog_1_method_44_code 48 = .ok (.getfield 11, 3) := by decide +kernel
theorem d_UF_settle_51 : decode prog_1_method_44_code 51 = .ok (.aload_n 0, 1) := by decide +kernel
theorem d_UF_settle_52 : decode prog_1_method_44_code 52 = .ok (.getfield 34, 3) := by decide +kernel
theorem d_UF_settle_55 : decode prog_1_method_44_code 55 = .ok (.getfield 80, 3) := by decide +kernel
theorem d_UF_settle_58 : decode prog_1_method_44_code 58 = .ok (.iload_n 1, 1) := by decide +kernel
theorem d_UF_settle_59 : decode prog_1_method_44_code 59 = .ok (.iload_n 2, 1) := by decide +kernel
theorem d_UF_settle_60 : decode prog_1_method_44_code 60 = .ok (.iload_n 3, 1) := by decide +kernel
theorem d_UF_settle_61 : decode prog_1_method_44_code 61 = .ok (.invokestatic 256, 3) := by decide +kernel
theorem d_UF_settle_64 : decode prog_1_method_44_code 64 = .ok (.aastore, 1) := by decide +kernel
theorem d_UF_settle_65 : decode prog_1_method_44_code 65 = .ok (.aload_n 0, 1) := by decide +kernel
theorem d_UF_settle_66 : decode prog_1_method_44_code 66 = .ok (.getfield 34, 3) := by decide +kernel
theorem d_UF_settle_69 : decode prog_1_method_44_code 69 = .ok (.invokevirtual 260, 3) := by decide +kernel
theorem d_UF_settle_72 : decode prog_1_method_44_code 72 = .ok (.aload_n 0, 1) := by decide +kernel
theorem d_UF_settle_73 : decode prog_1_method_44_code 73 = .ok (.getfield 34, 3) := by decide +kernel
theorem d_UF_settle_76 : decode prog_1_method_44_code 76 = .ok (.getfield 80, 3) := by decide +kernel
theorem d_UF_settle_79 : decode prog_1_method_44_code 79 = .ok (.iconst 1, 1) := by decide +kernel
theorem d_UF_settle_80 : decode prog_1_method_44_code 80 = .ok (.isub, 1) := by decide +kernel
theorem d_UF_settle_81 : decode prog_1_method_44_code 81 = .ok (.ireturn, 1) := by decide +kernel
def p_UF_settle (Q : Int32 → AH → Prop) (x1 : Int32) (x2 : Int32) (x3 : Int32) (h : AH) : Prop := p_UF_within (fun r2 h1 => ((r2 = 0 → Q (-2) h1) ∧ (¬ r2 = 0 → p_UF_within (fun r4 h3 => ((r4 = 0 → Q (-2) h3) ∧ (¬ r4 = 0 → p_UF_within (fun r6 h5 => ((¬ r6 = 0 → (((h5.1 5 3) < 7 → p_UF_build (fun r8 h7 => famA T1 h7 r8 ∧ inb (h5.1 5 3) 7 ∧ p_Town_grow (fun h11 => Q ((h11.1 5 3) - 1) h11) 5 (wR h7 1 (h5.1 5 3).toNatClampNeg (r8 + 1))) x1 x2 x3 h5) ∧ (¬ (h5.1 5 3) < 7 → Q (-4) h5))) ∧ (r6 = 0 → Q (-2) h5))) x3 0 9 h3))) x2 0 99 h1))) x1 0 5 h
set_option maxRecDepth 20000 in
theorem r_UF_settle_0 {G : GG} {d : Nat} {Q : Int32 → AH → Prop} (x1 : Int32) (x2 : Int32) (x3 : Int32) (h : AH) (H : p_UF_settle Q x1 x2 x3 h) : Att G T1 m_UF_settle (d + 5) 0 [some (.ref 0), some (.int x1), some (.int x2), some (.int x3)] [] h 1 3 (iQ Q) := by
  refine A_iload_n d_UF_settle_0 rfl ?_
  refine A_iconst 0 (by decide) d_UF_settle_1 ?_
  refine A_iconst 5 (by decide) d_UF_settle_2 ?_
  refine A_cI [.int x1, .int 0, .int 5] [] (ct_UF_95 rfl) d_UF_settle_3 rfl rfl (by decide) (Nat.le_of_ble_eq_true rfl) trivial (ok_UF_within (d := d + 4) H) (fun r2 h1 H => ?_)
  refine A_if_eq 29 d_UF_settle_6 (by decide) (fun z => ?_) (fun z => ?_)
  · have H := H.1 z
    refine A_bipush (-2) (by decide) d_UF_settle_29 ?_
    exact A_iret d_UF_settle_31 rfl rfl H
  · have H := H.2 z
    refine A_iload_n d_UF_settle_9 rfl ?_
    refine A_iconst 0 (by decide) d_UF_settle_10 ?_
    refine A_bipush 99 (by decide) d_UF_settle_11 ?_
    refine A_cI [.int x2, .int 0, .int 99] [] (ct_UF_95 rfl) d_UF_settle_13 rfl rfl (by decide) (Nat.le_of_ble_eq_true rfl) trivial (ok_UF_within (d := d + 4) H) (fun r4 h3 H => ?_)
    refine A_if_eq 29 d_UF_settle_16 (by decide) (fun z => ?_) (fun z => ?_)
    · have H := H.1 z
      refine A_bipush (-2) (by decide) d_UF_settle_29 ?_
      exact A_iret d_UF_settle_31 rfl rfl H
    · have H := H.2 z
      refine A_iload_n d_UF_settle_19 rfl ?_
      refine A_iconst 0 (by decide) d_UF_settle_20 ?_
      refine A_bipush 9 (by decide) d_UF_settle_21 ?_
      refine A_cI [.int x3, .int 0, .int 9] [] (ct_UF_95 rfl) d_UF_settle_23 rfl rfl (by decide) (Nat.le_of_ble_eq_true rfl) trivial (ok_UF_within (d := d + 4) H) (fun r6 h5 H => ?_)
      refine A_if_ne 32 d_UF_settle_26 (by decide) (fun z => ?_) (fun z => ?_)
      · have H := H.1 z
        refine A_aload_n d_UF_settle_32 rfl ?_
        refine A_get (v := .ref 5) d_UF_settle_33 (fo_UF_34_11 rfl) (vA_s (by decide)) rfl (by first | rfl | (show Value.int _ = Value.int _; simp [wI, wL, wR, wC, up])) ?_
        refine A_get (v := .int (h5.1 5 3)) d_UF_settle_36 (fo_UF_80_10 rfl) (vA_s (by decide)) rfl (by first | rfl | (show Value.int _ = Value.int _; simp [wI, wL, wR, wC, up])) ?_
        refine A_bipush 7 (by decide) d_UF_settle_39 ?_
        refine A_icmp_lt 47 d_UF_settle_41 (by decide) (fun z => ?_) (fun z => ?_)
        · have H := H.1 z
          refine A_aload_n d_UF_settle_47 rfl ?_
          refine A_get (v := .ref 1) d_UF_settle_48 (fo_UF_11_11 rfl) (vA_s (by decide)) rfl (by first | rfl | (show Value.int _ = Value.int _; simp [wI, wL, wR, wC, up])) ?_
          refine A_aload_n d_UF_settle_51 rfl ?_
          refine A_get (v := .ref 5) d_UF_settle_52 (fo_UF_34_11 rfl) (vA_s (by decide)) rfl (by first | rfl | (show Value.int _ = Value.int _; simp [wI, wL, wR, wC, up])) ?_
          refine A_get (v := .int (h5.1 5 3)) d_UF_settle_55 (fo_UF_80_10 rfl) (vA_s (by decide)) rfl (by first | rfl | (show Value.int _ = Value.int _; simp [wI, wL, wR, wC, up])) ?_
          refine A_iload_n d_UF_settle_58 rfl ?_
          refine A_iload_n d_UF_settle_59 rfl ?_
          refine A_iload_n d_UF_settle_60 rfl ?_
          refine A_callR [.int x1, .int x2, .int x3] [.int (h5.1 5 3), .ref 1] (ct_UF_256 rfl) d_UF_settle_61 rfl rfl (by decide) (Nat.le_of_ble_eq_true rfl) trivial 1 3 (by decide) (by decide) (ok_UF_build (d := d) H) (fun r8 h7 H => ?_)
          obtain ⟨c9, H⟩ := H
          obtain ⟨c10, H⟩ := H
          refine A_aastH (n := 7) d_UF_settle_64 (vA_s (by decide)) rfl c10 c9 rfl ?_
          refine A_aload_n d_UF_settle_65 rfl ?_
          refine A_get (v := .ref 5) d_UF_settle_66 (fo_UF_34_11 rfl) (vA_s (by decide)) rfl (by first | rfl | (show Value.int _ = Value.int _; simp [wI, wL, wR, wC, up])) ?_
          refine A_cV [.ref 5] [] (ct_UF_260 rfl) d_UF_settle_69 rfl rfl (by decide) (Nat.le_of_ble_eq_true rfl) (rcA_o (c := 10) rfl (vA_s (by decide)) rfl (by decide) rfl) (ok_Town_grow (d := d + 4) H) (fun h11 H => ?_)
          refine A_aload_n d_UF_settle_72 rfl ?_
          refine A_get (v := .ref 5) d_UF_settle_73 (fo_UF_34_11 rfl) (vA_s (by decide)) rfl (by first | rfl | (show Value.int _ = Value.int _; simp [wI, wL, wR, wC, up])) ?_
          refine A_get (v := .int (h11.1 5 3)) d_UF_settle_76 (fo_UF_80_10 rfl) (vA_s (by decide)) rfl (by first | rfl | (show Value.int _ = Value.int _; simp [wI, wL, wR, wC, up])) ?_
          refine A_iconst 1 (by decide) d_UF_settle_79 ?_
          refine A_isub d_UF_settle_80 ?_
          exact A_iret d_UF_settle_81 rfl rfl H
        · have H := H.2 z
          refine A_bipush (-4) (by decide) d_UF_settle_44 ?_
          exact A_iret d_UF_settle_46 rfl rfl H
      · have H := H.2 z
        refine A_bipush (-2) (by decide) d_UF_settle_29 ?_
        exact A_iret d_UF_settle_31 rfl rfl H
set_option maxRecDepth 20000 in
theorem ok_UF_settle {G : GG} {d : Nat} {Q : Int32 → AH → Prop} {x1 : Int32} {x2 : Int32} {x3 : Int32} {h : AH} (H : p_UF_settle Q x1 x2 x3 h) : WP G T1 m_UF_settle (d + 5) [.ref 0, .int x1, .int x2, .int x3] h 1 3 (iQ Q) := by
  exact WP.enter 0 (by decide) rfl rfl (r_UF_settle_0 x1 x2 x3 h H)
theorem d_UF_house_0 : decode prog_1_method_7_code 0 = .ok (.aload_n 0, 1) := by decide +kernel
theorem d_UF_house_1 : decode prog_1_method_7_code 1 = .ok (.iload_n 1, 1) := by decide +kernel
theorem d_UF_house_2 : decode prog_1_method_7_code 2 = .ok (.iload_n 2, 1) := by decide +kernel
theorem d_UF_house_3 : decode prog_1_method_7_code 3 = .ok (.iload_n 3, 1) := by decide +kernel
theorem d_UF_house_4 : decode prog_1_method_7_code 4 = .ok (.invokevirtual 117, 3) := by decide +kernel
theorem d_UF_house_7 : decode prog_1_method_7_code 7 = .ok (.ireturn, 1) := by decide +kernel
def p_UF_house (Q : Int32 → AH → Prop) (x1 : Int32) (x2 : Int32) (x3 : Int32) (h : AH) : Prop := p_UF_settle (fun r2 h1 => Q r2 h1) x1 x2 x3 h
set_option maxRecDepth 20000 in
theorem r_UF_house_0 {G : GG} {d : Nat} {Q : Int32 → AH → Prop} (x1 : Int32) (x2 : Int32) (x3 : Int32) (h : AH) (H : p_UF_house Q x1 x2 x3 h) : Att G T1 m_UF_house (d + 6) 0 [some (.ref 0), some (.int x1), some (.int x2), some (.int x3)] [] h 1 3 (iQ Q) := by
  refine A_aload_n d_UF_house_0 rfl ?_
  refine A_iload_n d_UF_house_1 rfl ?_
  refine A_iload_n d_UF_house_2 rfl ?_
  refine A_iload_n d_UF_house_3 rfl ?_
  refine A_callI [.ref 0, .int x1, .int x2, .int x3] [] (ct_UF_117 rfl) d_UF_house_4 rfl rfl (by decide) (Nat.le_of_ble_eq_true rfl) (rcA_o (c := 11) rfl (vA_s (by decide)) rfl (by decide) rfl) 1 3 (by omega) (by omega) (ok_UF_settle (d := d) H) (fun r2 h1 H => ?_)
  exact A_iret d_UF_house_7 rfl rfl H
set_option maxRecDepth 20000 in
theorem ok_UF_house {G : GG} {d : Nat} {Q : Int32 → AH → Prop} {x1 : Int32} {x2 : Int32} {x3 : Int32} {h : AH} (H : p_UF_house Q x1 x2 x3 h) : WP G T1 m_UF_house (d + 6) [.ref 0, .int x1, .int x2, .int x3] h 1 3 (iQ Q) := by
  exact WP.enter 0 (by decide) rfl rfl (r_UF_house_0 x1 x2 x3 h H)
theorem d_UF_housesBy_0 : decode prog_1_method_35_code 0 = .ok (.iload_n 1, 1) := by decide +kernel
theorem d_UF_housesBy_1 : decode prog_1_method_35_code 1 = .ok (.invokestatic 211, 3) := by decide +kernel
theorem d_UF_housesBy_4 : decode prog_1_method_35_code 4 = .ok (.ifCond .eq 23, 3) := by decide +kernel
theorem d_UF_housesBy_7 : decode prog_1_method_35_code 7 = .ok (.iload_n 2, 1) := by decide +kernel
theorem d_UF_housesBy_8 : decode prog_1_method_35_code 8 = .ok (.iconst 0, 1) := by decide +kernel
theorem d_UF_housesBy_9 : decode prog_1_method_35_code 9 = .ok (.iconst 2, 1) := by decide +kernel
theorem d_UF_housesBy_10 : decode prog_1_method_35_code 10 = .ok (.invokestatic 95, 3) := by decide +kernel
theorem d_UF_housesBy_13 : decode prog_1_method_35_code 13 = .ok (.ifCond .eq 14, 3) := by decide +kernel
theorem d_UF_housesBy_16 : decode prog_1_method_35_code 16 = .ok (.iload 4, 2) := by decide +kernel
theorem d_UF_housesBy_18 : decode prog_1_method_35_code 18 = .ok (.iconst 0, 1) := by decide +kernel
theorem d_UF_housesBy_19 : decode prog_1_method_35_code 19 = .ok (.bipush 7, 2) := by decide +kernel
theorem d_UF_housesBy_21 : decode prog_1_method_35_code 21 = .ok (.invokestatic 95, 3) := by decide +kernel
theorem d_UF_housesBy_24 : decode prog_1_method_35_code 24 = .ok (.ifCond .ne 6, 3) := by decide +kernel
theorem d_UF_housesBy_27 : decode prog_1_method_35_code 27 = .ok (.bipush (-2), 2) := by decide +kernel
theorem d_UF_housesBy_29 : decode prog_1_method_35_code 29 = .ok (.ireturn, 1) := by decide +kernel
theorem d_UF_housesBy_30 : decode prog_1_method_35_code 30 = .ok (.aload_n 0, 1) := by decide +kernel
theorem d_UF_housesBy_31 : decode prog_1_method_35_code 31 = .ok (.getfield 23, 3) := by decide +kernel
theorem d_UF_housesBy_34 : decode prog_1_method_35_code 34 = .ok (.iload_n 1, 1) := by decide +kernel
theorem d_UF_housesBy_35 : decode prog_1_method_35_code 35 = .ok (.aaload, 1) := by decide +kernel
theorem d_UF_housesBy_36 : decode prog_1_method_35_code 36 = .ok (.astore 5, 2) := by decide +kernel
theorem d_UF_housesBy_38 : decode prog_1_method_35_code 38 = .ok (.aload 5, 2) := by decide +kernel
theorem d_UF_housesBy_40 : decode prog_1_method_35_code 40 = .ok (.getfield 236, 3) := by decide +kernel
theorem d_UF_housesBy_43 : decode prog_1_method_35_code 43 = .ok (.iconst (-1), 1) := by decide +kernel
theorem d_UF_housesBy_44 : decode prog_1_method_35_code 44 = .ok (.if_icmp .ne 6, 3) := by decide +kernel
theorem d_UF_housesBy_47 : decode prog_1_method_35_code 47 = .ok (.bipush (-11), 2) := by decide +kernel
theorem d_UF_housesBy_49 : decode prog_1_method_35_code 49 = .ok (.ireturn, 1) := by decide +kernel
theorem d_UF_housesBy_50 : decode prog_1_method_35_code 50 = .ok (.aload 5, 2) := by decide +kernel
theorem d_UF_housesBy_52 : decode prog_1_method_35_code 52 = .ok (.getfield 236, 3) := by decide +kernel
theorem d_UF_housesBy_55 : decode prog_1_method_35_code 55 = .ok (.iload_n 2, 1) := by decide +kernel
theorem d_UF_housesBy_56 : decode prog_1_method_35_code 56 = .ok (.if_icmp .eq 6, 3) := by decide +kernel
theorem d_UF_housesBy_59 : decode prog_1_method_35_code 59 = .ok (.bipush (-13), 2) := by decide +kernel
theorem d_UF_housesBy_61 : decode prog_1_method_35_code 61 = .ok (.ireturn, 1) := by decide +kernel
theorem d_UF_housesBy_62 : decode prog_1_method_35_code 62 = .ok (.iconst 0, 1) := by decide +kernel
theorem d_UF_housesBy_63 : decode prog_1_method_35_code 63 = .ok (.istore 6, 2) := by decide +kernel
theorem d_UF_housesBy_65 : decode prog_1_method_35_code 65 = .ok (.iconst 0, 1) := by decide +kernel
theorem d_UF_housesBy_66 : decode prog_1_method_35_code 66 = .ok (.istore 7, 2) := by decide +kernel
theorem d_UF_housesBy_68 : decode prog_1_method_35_code 68 = .ok (.iload 7, 2) := by decide +kernel
theorem d_UF_housesBy_70 : decode prog_1_method_35_code 70 = .ok (.iload 4, 2) := by decide +kernel
theorem d_UF_housesBy_72 : decode prog_1_method_35_code 72 = .ok (.if_icmp .ge 89, 3) := by decide +kernel
theorem d_UF_housesBy_75 : decode prog_1_method_35_code 75 = .ok (.iload_n 3, 1) := by decide +kernel
theorem d_UF_housesBy_76 : decode prog_1_method_35_code 76 = .ok (.ifCond .lt 30, 3) := by decide +kernel
theorem d_UF_housesBy_79 : decode prog_1_method_35_code 79 = .ok (.iload_n 3, 1) := by decide +kernel
theorem d_UF_housesBy_80 : decode prog_1_method_35_code 80 = .ok (.aload 5, 2) := by decide +kernel
theorem d_UF_housesBy_82 : decode prog_1_method_35_code 82 = .ok (.getfield 242, 3) := by decide +kernel
theorem d_UF_housesBy_85 : decode prog_1_method_35_code 85 = .ok (.iconst 3, 1) := by decide +kernel
theorem d_UF_housesBy_86 : decode prog_1_method_35_code 86 = .ok (.isub, 1) := by decide +kernel
theorem d_UF_housesBy_87 : decode prog_1_method_35_code 87 = .ok (.if_icmp .gt 19, 3) := by decide +kernel
theorem d_UF_housesBy_90 : decode prog_1_method_35_code 90 = .ok (.iload_n 3, 1) := by decide +kernel
theorem d_UF_housesBy_91 : decode prog_1_method_35_code 91 = .ok (.iconst 3, 1) := by decide +kernel
theorem d_UF_housesBy_92 : decode prog_1_method_35_code 92 = .ok (.iload 7, 2) := by decide +kernel
theorem d_UF_housesBy_94 : decode prog_1_method_35_code 94 = .ok (.imul, 1) := by decide +kernel
theorem d_UF_housesBy_95 : decode prog_1_method_35_code 95 = .ok (.iadd, 1) := by decide +kernel
theorem d_UF_housesBy_96 : decode prog_1_method_35_code 96 = .ok (.aload 5, 2) := by decide +kernel
theorem d_UF_housesBy_98 : decode prog_1_method_35_code 98 = .ok (.getfield 242, 3) := by decide +kernel
theorem d_UF_housesBy_101 : decode prog_1_method_35_code 101 = .ok (.iconst 3, 1) := by decide +kernel
theorem d_UF_housesBy_102 : decode prog_1_method_35_code 102 = .ok (.isub, 1) := by decide +kernel
theorem d_UF_housesBy_103 : decode prog_1_method_35_code 103 = .ok (.if_icmp .le 6, 3) := by decide +kernel
theorem d_UF_housesBy_106 : decode prog_1_method_35_code 106 = .ok (.bipush (-12), 2) := by decide +kernel
theorem d_UF_housesBy_108 : decode prog_1_method_35_code 108 = .ok (.ireturn, 1) := by decide +kernel
theorem d_UF_housesBy_109 : decode prog_1_method_35_code 109 = .ok (.iload_n 3, 1) := by decide +kernel
theorem d_UF_housesBy_110 : decode prog_1_method_35_code 110 = .ok (.iconst 3, 1) := by decide +kernel
theorem d_UF_housesBy_111 : decode prog_1_method_35_code 111 = .ok (.iload 7, 2) := by decide +kernel
theorem d_UF_housesBy_113 : decode prog_1_method_35_code 113 = .ok (.imul, 1) := by decide +kernel
theorem d_UF_housesBy_114 : decode prog_1_method_35_code 114 = .ok (.iadd, 1) := by decide +kernel
theorem d_UF_housesBy_115 : decode prog_1_method_35_code 115 = .ok (.istore 8, 2) := by decide +kernel
theorem d_UF_housesBy_117 : decode prog_1_method_35_code 117 = .ok (.aload_n 0, 1) := by decide +kernel
theorem d_UF_housesBy_118 : decode prog_1_method_35_code 118 = .ok (.aload 5, 2) := by decide +kernel
theorem d_UF_housesBy_120 : decode prog_1_method_35_code 120 = .ok (.getfield 243, 3) := by decide +kernel
theorem d_UF_housesBy_123 : decode prog_1_method_35_code 123 = .ok (.iload 8, 2) := by decide +kernel
theorem d_UF_housesBy_125 : decode prog_1_method_35_code 125 = .ok (.iaload, 1) := by decide +kernel
theorem d_UF_housesBy_126 : decode prog_1_method_35_code 126 = .ok (.aload 5, 2) := by decide +kernel
theorem d_UF_housesBy_128 : decode prog_1_method_35_code 128 = .ok (.getfield 243, 3) := by decide +kernel
theorem d_UF_housesBy_131 : decode prog_1_method_35_code 131 = .ok (.iload 8, 2) := by decide +kernel
theorem d_UF_housesBy_133 : decode prog_1_method_35_code 133 = .ok (.iconst 1, 1) := by decide +kernel
theorem d_UF_housesBy_134 : decode prog_1_method_35_code 134 = .ok (.iadd, 1) := by decide +kernel
theorem d_UF_housesBy_135 : decode prog_1_method_35_code 135 = .ok (.iaload, 1) := by decide +kernel
theorem d_UF_housesBy_136 : decode prog_1_method_35_code 136 = .ok (.aload 5, 2) := by decide +kernel
theorem d_UF_housesBy_138 : decode prog_1_method_35_code 138 = .ok (.getfield 243, 3) := by decide +kernel
theorem d_UF_housesBy_141 : decode prog_1_method_35_code 141 = .ok (.iload 8, 2) := by decide +kernel
theorem d_UF_housesBy_143 : decode prog_1_method_35_code 143 = .ok (.iconst 2, 1) := by decide +kernel
theorem d_UF_housesBy_144 : decode prog_1_method_35_code 144 = .ok (.iadd, 1) := by decide +kernel
theorem d_UF_housesBy_145 : decode prog_1_method_35_code 145 = .ok (.iaload, 1) := by decide +kernel
theorem d_UF_housesBy_146 : decode prog_1_method_35_code 146 = .ok (.invokevirtual 117, 3) := by decide +kernel
theorem d_UF_housesBy_149 : decode prog_1_method_35_code 149 = .ok (.ifCond .lt 6, 3) := by decide +kernel
theorem d_UF_housesBy_152 : decode prog_1_method_35_code 152 = .ok (.iinc 6 1, 3) := by decide +kernel
theorem d_UF_housesBy_155 : decode prog_1_method_35_code 155 = .ok (.iinc 7 1, 3) := by decide +kernel
theorem d_UF_housesBy_158 : decode prog_1_method_35_code 158 = .ok (.goto (-90), 3) := by decide +kernel
theorem d_UF_housesBy_161 : decode prog_1_method_35_code 161 = .ok (.iload 6, 2) := by decide +kernel
theorem d_UF_housesBy_163 : decode prog_1_method_35_code 163 = .ok (.ireturn, 1) := by decide +kernel
def p_UF_housesBy_155 (Q : Int32 → AH → Prop) (K68 : Int32 → Int32 → Nat → Int32 → Int32 → AH → Prop) (x3 : Int32) (x4 : Int32) (a5 : Nat) (x6 : Int32) (x7 : Int32) (h : AH) : Prop := K68 x3 x4 a5 x6 (x7 + 1) h
def p_UF_housesBy_68 (Q : Int32 → AH → Prop) : Nat → Int32 → Int32 → Nat → Int32 → Int32 → AH → Prop
  | 0 => fun _ _ _ _ _ _ => False
  | n + 1 => fun x3 x4 a5 x6 x7 h => let K68 := p_UF_housesBy_68 Q n; ((x4 ≤ x7 → Q x6 h) ∧ (¬ x4 ≤ x7 → ((x3 < 0 → Q (-12) h) ∧ (¬ x3 < 0 → vA T1 h a5 ∧ (rS T1 h a5).1 = 8 ∧ ((((h.1 a5 2) - 3) < x3 → Q (-12) h) ∧ (¬ ((h.1 a5 2) - 3) < x3 → (((x3 + (3 * x7)) ≤ ((h.1 a5 2) - 3) → 0 < rR T1 h a5 0 ∧ vA T1 h (rR T1 h a5 0 - 1) ∧ (rS T1 h (rR T1 h a5 0 - 1)).1 = 100 ∧ inb (x3 + (3 * x7)) ((rS T1 h (rR T1 h a5 0 - 1)).2) ∧ inb ((x3 + (3 * x7)) + 1) ((rS T1 h (rR T1 h a5 0 - 1)).2) ∧ inb ((x3 + (3 * x7)) + 2) ((rS T1 h (rR T1 h a5 0 - 1)).2) ∧ p_UF_settle (fun r10 h9 => ((r10 < 0 → p_UF_housesBy_155 Q  K68 x3 x4 a5 x6 x7 h9) ∧ (¬ r10 < 0 → p_UF_housesBy_155 Q  K68 x3 x4 a5 (x6 + 1) x7 h9))) (h.1 (rR T1 h a5 0 - 1) (x3 + (3 * x7))) (h.1 (rR T1 h a5 0 - 1) ((x3 + (3 * x7)) + 1)) (h.1 (rR T1 h a5 0 - 1) ((x3 + (3 * x7)) + 2)) h) ∧ (¬ (x3 + (3 * x7)) ≤ ((h.1 a5 2) - 3) → Q (-12) h))))))))
def p_UF_housesBy (Q : Int32 → AH → Prop) (x1 : Int32) (x2 : Int32) (x3 : Int32) (x4 : Int32) (h : AH) : Prop := p_UF_isSheet (fun r2 h1 => ((r2 = 0 → Q (-2) h1) ∧ (¬ r2 = 0 → p_UF_within (fun r4 h3 => ((r4 = 0 → Q (-2) h3) ∧ (¬ r4 = 0 → p_UF_within (fun r6 h5 => ((¬ r6 = 0 → inb x1 4 ∧ 0 < rR T1 h5 3 x1.toNatClampNeg ∧ vA T1 h5 (rR T1 h5 3 x1.toNatClampNeg - 1) ∧ (rS T1 h5 (rR T1 h5 3 x1.toNatClampNeg - 1)).1 = 8 ∧ ((¬ (h5.1 (rR T1 h5 3 x1.toNatClampNeg - 1) 1) = (-1) → (((h5.1 (rR T1 h5 3 x1.toNatClampNeg - 1) 1) = x2 → p_UF_housesBy_68 Q 8 x3 x4 (rR T1 h5 3 x1.toNatClampNeg - 1) 0 0 h5) ∧ (¬ (h5.1 (rR T1 h5 3 x1.toNatClampNeg - 1) 1) = x2 → Q (-13) h5))) ∧ ((h5.1 (rR T1 h5 3 x1.toNatClampNeg - 1) 1) = (-1) → Q (-11) h5))) ∧ (r6 = 0 → Q (-2) h5))) x4 0 7 h3))) x2 0 2 h1))) x1 h
set_option maxRecDepth 20000 in
theorem r_UF_housesBy_155 {G : GG} {d bc bs : Nat} {Q : Int32 → AH → Prop} {K68 : Int32 → Int32 → Nat → Int32 → Int32 → AH → Prop} (k68 : ∀ x3 x4 a5 x6 x7 h, K68 x3 x4 a5 x6 x7 h → Att G T1 m_UF_housesBy (d + 6) 68 [some (.ref 0), none, none, some (.int x3), some (.int x4), some (.ref a5), some (.int x6), some (.int x7), none] [] h bc bs (iQ Q)) (x3 : Int32) (x4 : Int32) (a5 : Nat) (x6 : Int32) (x7 : Int32) (h : AH) (H : p_UF_housesBy_155 Q K68 x3 x4 a5 x6 x7 h) : Att G T1 m_UF_housesBy (d + 6) 155 [some (.ref 0), none, none, some (.int x3), some (.int x4), some (.ref a5), some (.int x6), some (.int x7), none] [] h bc bs (iQ Q) := by
  refine A_iinc 1 [some (.ref 0), none, none, some (.int x3), some (.int x4), some (.ref a5), some (.int x6), some (.int (x7 + 1)), none] d_UF_housesBy_155 rfl (by decide) (by decide) rfl rfl ?_
  refine A_goto 68 d_UF_housesBy_158 (by decide) ?_
  exact k68 _ _ _ _ _ _ H
set_option maxRecDepth 20000 in
theorem r_UF_housesBy_68 {G : GG} {d : Nat} {Q : Int32 → AH → Prop} : ∀ (n : Nat) (x3 : Int32) (x4 : Int32) (a5 : Nat) (x6 : Int32) (x7 : Int32) (h : AH), p_UF_housesBy_68 Q n x3 x4 a5 x6 x7 h → Att G T1 m_UF_housesBy (d + 6) 68 [some (.ref 0), none, none, some (.int x3), some (.int x4), some (.ref a5), some (.int x6), some (.int x7), none] [] h n (3 * n) (iQ Q) := by
  intro n
  induction n with
  | zero => intro x3 x4 a5 x6 x7 h H; exact H.elim
  | succ n k68 =>
    intro x3 x4 a5 x6 x7 h H
    refine A_iload d_UF_housesBy_68 rfl ?_
    refine A_iload d_UF_housesBy_70 rfl ?_
    refine A_icmp_ge 161 d_UF_housesBy_72 (by decide) (fun z => ?_) (fun z => ?_)
    · have H := H.1 z
      refine A_iload d_UF_housesBy_161 rfl ?_
      exact A_iret d_UF_housesBy_163 rfl rfl H
    · have H := H.2 z
      refine A_iload_n d_UF_housesBy_75 rfl ?_
      refine A_if_lt 106 d_UF_housesBy_76 (by decide) (fun z => ?_) (fun z => ?_)
      · have H := H.1 z
        refine A_bipush (-12) (by decide) d_UF_housesBy_106 ?_
        exact A_iret d_UF_housesBy_108 rfl rfl H
      · have H := H.2 z
        refine A_iload_n d_UF_housesBy_79 rfl ?_
        refine A_aload d_UF_housesBy_80 rfl ?_
        obtain ⟨c1, H⟩ := H
        obtain ⟨c2, H⟩ := H
        refine A_get (v := .int (h.1 a5 2)) d_UF_housesBy_82 (fo_UF_242_8 rfl) c1 c2 (by first | rfl | (show Value.int _ = Value.int _; simp [wI, wL, wR, wC, up])) ?_
        refine A_iconst 3 (by decide) d_UF_housesBy_85 ?_
        refine A_isub d_UF_housesBy_86 ?_
        refine A_icmp_gt 106 d_UF_housesBy_87 (by decide) (fun z => ?_) (fun z => ?_)
        · have H := H.1 z
          refine A_bipush (-12) (by decide) d_UF_housesBy_106 ?_
          exact A_iret d_UF_housesBy_108 rfl rfl H
        · have H := H.2 z
          refine A_iload_n d_UF_housesBy_90 rfl ?_
          refine A_iconst 3 (by decide) d_UF_housesBy_91 ?_
          refine A_iload d_UF_housesBy_92 rfl ?_
          refine A_imul d_UF_housesBy_94 ?_
          refine A_iadd d_UF_housesBy_95 ?_
          refine A_aload d_UF_housesBy_96 rfl ?_
          refine A_get (v := .int (h.1 a5 2)) d_UF_housesBy_98 (fo_UF_242_8 rfl) c1 c2 (by first | rfl | (show Value.int _ = Value.int _; simp [wI, wL, wR, wC, up])) ?_
          refine A_iconst 3 (by decide) d_UF_housesBy_101 ?_
          refine A_isub d_UF_housesBy_102 ?_
          refine A_icmp_le 109 d_UF_housesBy_103 (by decide) (fun z => ?_) (fun z => ?_)
          · have H := H.1 z
            refine A_iload_n d_UF_housesBy_109 rfl ?_
            refine A_iconst 3 (by decide) d_UF_housesBy_110 ?_
            refine A_iload d_UF_housesBy_111 rfl ?_
            refine A_imul d_UF_housesBy_113 ?_
            refine A_iadd d_UF_housesBy_114 ?_
            refine A_istore [some (.ref 0), none, none, some (.int x3), some (.int x4), some (.ref a5), some (.int x6), some (.int x7), some (.int (x3 + (3 * x7)))] d_UF_housesBy_115 (by decide) rfl rfl ?_
            refine A_aload_n d_UF_housesBy_117 rfl ?_
            refine A_aload d_UF_housesBy_118 rfl ?_
            obtain ⟨c3, H⟩ := H
            refine A_get (v := .ref (rR T1 h a5 0 - 1)) d_UF_housesBy_120 (fo_UF_243_8 rfl) c1 c2 (vR_pos c3) ?_
            refine A_iload d_UF_housesBy_123 rfl ?_
            obtain ⟨c4, H⟩ := H
            obtain ⟨c5, H⟩ := H
            obtain ⟨c6, H⟩ := H
            refine A_ialdv (n := _) (v := (h.1 (rR T1 h a5 0 - 1) (x3 + (3 * x7)))) d_UF_housesBy_125 c4 (rS_ex c5) c6 rfl ?_
            refine A_aload d_UF_housesBy_126 rfl ?_
            refine A_get (v := .ref (rR T1 h a5 0 - 1)) d_UF_housesBy_128 (fo_UF_243_8 rfl) c1 c2 (vR_pos c3) ?_
            refine A_iload d_UF_housesBy_131 rfl ?_
            refine A_iconst 1 (by decide) d_UF_housesBy_133 ?_
            refine A_iadd d_UF_housesBy_134 ?_
            obtain ⟨c7, H⟩ := H
            refine A_ialdv (n := _) (v := (h.1 (rR T1 h a5 0 - 1) ((x3 + (3 * x7)) + 1))) d_UF_housesBy_135 c4 (rS_ex c5) c7 rfl ?_
            refine A_aload d_UF_housesBy_136 rfl ?_
            refine A_get (v := .ref (rR T1 h a5 0 - 1)) d_UF_housesBy_138 (fo_UF_243_8 rfl) c1 c2 (vR_pos c3) ?_
            refine A_iload d_UF_housesBy_141 rfl ?_
            refine A_iconst 2 (by decide) d_UF_housesBy_143 ?_
            refine A_iadd d_UF_housesBy_144 ?_
            obtain ⟨c8, H⟩ := H
            refine A_ialdv (n := _) (v := (h.1 (rR T1 h a5 0 - 1) ((x3 + (3 * x7)) + 2))) d_UF_housesBy_145 c4 (rS_ex c5) c8 rfl ?_
            refine A_callI [.ref 0, .int (h.1 (rR T1 h a5 0 - 1) (x3 + (3 * x7))), .int (h.1 (rR T1 h a5 0 - 1) ((x3 + (3 * x7)) + 1)), .int (h.1 (rR T1 h a5 0 - 1) ((x3 + (3 * x7)) + 2))] [] (ct_UF_117 rfl) d_UF_housesBy_146 rfl rfl (by decide) (Nat.le_of_ble_eq_true rfl) (rcA_o (c := 11) rfl (vA_s (by decide)) rfl (by decide) rfl) 1 3 (by omega) (by omega) (ok_UF_settle (d := d) H) (fun r10 h9 H => ?_)
            refine A_if_lt 155 d_UF_housesBy_149 (by decide) (fun z => ?_) (fun z => ?_)
            · have H := H.1 z
              refine A_sub (L' := [some (.ref 0), none, none, some (.int x3), some (.int x4), some (.ref a5), some (.int x6), some (.int x7), none]) ⟨rfl, rfl, rfl, rfl, rfl, rfl, trivial⟩ ?_
              exact r_UF_housesBy_155  k68 _ _ _ _ _ _ H
            · have H := H.2 z
              refine A_iinc 1 [some (.ref 0), none, none, some (.int x3), some (.int x4), some (.ref a5), some (.int (x6 + 1)), some (.int x7), some (.int (x3 + (3 * x7)))] d_UF_housesBy_152 rfl (by decide) (by decide) rfl rfl ?_
              refine A_sub (L' := [some (.ref 0), none, none, some (.int x3), some (.int x4), some (.ref a5), some (.int (x6 + 1)), some (.int x7), none]) ⟨rfl, rfl, rfl, rfl, rfl, rfl, trivial⟩ ?_
              exact r_UF_housesBy_155  k68 _ _ _ _ _ _ H
          · have H := H.2 z
            refine A_bipush (-12) (by decide) d_UF_housesBy_106 ?_
            exact A_iret d_UF_housesBy_108 rfl rfl H
set_option maxRecDepth 20000 in
theorem r_UF_housesBy_0 {G : GG} {d : Nat} {Q : Int32 → AH → Prop} (x1 : Int32) (x2 : Int32) (x3 : Int32) (x4 : Int32) (h : AH) (H : p_UF_housesBy Q x1 x2 x3 x4 h) : Att G T1 m_UF_housesBy (d + 6) 0 [some (.ref 0), some (.int x1), some (.int x2), some (.int x3), some (.int x4), none, none, none, none] [] h 8 24 (iQ Q) := by
  refine A_iload_n d_UF_housesBy_0 rfl ?_
  refine A_cI [.int x1] [] (ct_UF_211 rfl) d_UF_housesBy_1 rfl rfl (by decide) (Nat.le_of_ble_eq_true rfl) trivial (ok_UF_isSheet (d := d + 4) H) (fun r2 h1 H => ?_)
  refine A_if_eq 27 d_UF_housesBy_4 (by decide) (fun z => ?_) (fun z => ?_)
  · have H := H.1 z
    refine A_bipush (-2) (by decide) d_UF_housesBy_27 ?_
    exact A_iret d_UF_housesBy_29 rfl rfl H
  · have H := H.2 z
    refine A_iload_n d_UF_housesBy_7 rfl ?_
    refine A_iconst 0 (by decide) d_UF_housesBy_8 ?_
    refine A_iconst 2 (by decide) d_UF_housesBy_9 ?_
    refine A_cI [.int x2, .int 0, .int 2] [] (ct_UF_95 rfl) d_UF_housesBy_10 rfl rfl (by decide) (Nat.le_of_ble_eq_true rfl) trivial (ok_UF_within (d := d + 5) H) (fun r4 h3 H => ?_)
    refine A_if_eq 27 d_UF_housesBy_13 (by decide) (fun z => ?_) (fun z => ?_)
    · have H := H.1 z
      refine A_bipush (-2) (by decide) d_UF_housesBy_27 ?_
      exact A_iret d_UF_housesBy_29 rfl rfl H
    · have H := H.2 z
      refine A_iload d_UF_housesBy_16 rfl ?_
      refine A_iconst 0 (by decide) d_UF_housesBy_18 ?_
      refine A_bipush 7 (by decide) d_UF_housesBy_19 ?_
      refine A_cI [.int x4, .int 0, .int 7] [] (ct_UF_95 rfl) d_UF_housesBy_21 rfl rfl (by decide) (Nat.le_of_ble_eq_true rfl) trivial (ok_UF_within (d := d + 5) H) (fun r6 h5 H => ?_)
      refine A_if_ne 30 d_UF_housesBy_24 (by decide) (fun z => ?_) (fun z => ?_)
      · have H := H.1 z
        refine A_aload_n d_UF_housesBy_30 rfl ?_
        refine A_get (v := .ref 3) d_UF_housesBy_31 (fo_UF_23_11 rfl) (vA_s (by decide)) rfl (by first | rfl | (show Value.int _ = Value.int _; simp [wI, wL, wR, wC, up])) ?_
        refine A_iload_n d_UF_housesBy_34 rfl ?_
        obtain ⟨c7, H⟩ := H
        obtain ⟨c8, H⟩ := H
        refine A_aald (t := 2) (n := 4) d_UF_housesBy_35 (by decide) (vA_s (by decide)) rfl c7 (pos_sub c8) ?_
        refine A_astore [some (.ref 0), some (.int x1), some (.int x2), some (.int x3), some (.int x4), some (.ref (rR T1 h5 3 x1.toNatClampNeg - 1)), none, none, none] d_UF_housesBy_36 (by decide) rfl rfl ?_
        refine A_aload d_UF_housesBy_38 rfl ?_
        obtain ⟨c9, H⟩ := H
        obtain ⟨c10, H⟩ := H
        refine A_get (v := .int (h5.1 (rR T1 h5 3 x1.toNatClampNeg - 1) 1)) d_UF_housesBy_40 (fo_UF_236_8 rfl) c9 c10 (by first | rfl | (show Value.int _ = Value.int _; simp [wI, wL, wR, wC, up])) ?_
        refine A_iconst (-1) (by decide) d_UF_housesBy_43 ?_
        refine A_icmp_ne 50 d_UF_housesBy_44 (by decide) (fun z => ?_) (fun z => ?_)
        · have H := H.1 z
          refine A_aload d_UF_housesBy_50 rfl ?_
          refine A_get (v := .int (h5.1 (rR T1 h5 3 x1.toNatClampNeg - 1) 1)) d_UF_housesBy_52 (fo_UF_236_8 rfl) c9 c10 (by first | rfl | (show Value.int _ = Value.int _; simp [wI, wL, wR, wC, up])) ?_
          refine A_iload_n d_UF_housesBy_55 rfl ?_
          refine A_icmp_eq 62 d_UF_housesBy_56 (by decide) (fun z => ?_) (fun z => ?_)
          · have H := H.1 z
            refine A_iconst 0 (by decide) d_UF_housesBy_62 ?_
            refine A_istore [some (.ref 0), some (.int x1), some (.int x2), some (.int x3), some (.int x4), some (.ref (rR T1 h5 3 x1.toNatClampNeg - 1)), some (.int 0), none, none] d_UF_housesBy_63 (by decide) rfl rfl ?_
            refine A_iconst 0 (by decide) d_UF_housesBy_65 ?_
            refine A_istore [some (.ref 0), some (.int x1), some (.int x2), some (.int x3), some (.int x4), some (.ref (rR T1 h5 3 x1.toNatClampNeg - 1)), some (.int 0), some (.int 0), none] d_UF_housesBy_66 (by decide) rfl rfl ?_
            refine A_sub (L' := [some (.ref 0), none, none, some (.int x3), some (.int x4), some (.ref (rR T1 h5 3 x1.toNatClampNeg - 1)), some (.int 0), some (.int 0), none]) ⟨rfl, rfl, rfl, rfl, rfl, rfl, trivial⟩ ?_
            exact r_UF_housesBy_68 8 _ _ _ _ _ _ H
          · have H := H.2 z
            refine A_bipush (-13) (by decide) d_UF_housesBy_59 ?_
            exact A_iret d_UF_housesBy_61 rfl rfl H
        · have H := H.2 z
          refine A_bipush (-11) (by decide) d_UF_housesBy_47 ?_
          exact A_iret d_UF_housesBy_49 rfl rfl H
      · have H := H.2 z
        refine A_bipush (-2) (by decide) d_UF_housesBy_27 ?_
        exact A_iret d_UF_housesBy_29 rfl rfl H
set_option maxRecDepth 20000 in
theorem ok_UF_housesBy {G : GG} {d : Nat} {Q : Int32 → AH → Prop} {x1 : Int32} {x2 : Int32} {x3 : Int32} {x4 : Int32} {h : AH} (H : p_UF_housesBy Q x1 x2 x3 x4 h) : WP G T1 m_UF_housesBy (d + 6) [.ref 0, .int x1, .int x2, .int x3, .int x4] h 8 24 (iQ Q) := by
  exact WP.enter 4 (by decide) rfl rfl (r_UF_housesBy_0 x1 x2 x3 x4 h H)
