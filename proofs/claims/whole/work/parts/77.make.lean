/-! call sites of what makes cells; the houses (printed by wip/gen/make.py) -/
theorem ct_Aunt_1 {q : MM} (hq : q.1 = R_Aunt) : CallTo q m_Heavy_init (.invokespecial 1) 4 (some none) := ct_I (by rw [hq]; exact tG 495 (by decide +kernel) (by decide +kernel)) (tG 473 (by decide +kernel) (by decide +kernel)) (tG 15 (by decide +kernel) (by decide +kernel)) (tG 474 (by decide +kernel) (by decide +kernel)) rfl rfl (by decide +kernel)
theorem ct_Braked_1 {q : MM} (hq : q.1 = R_Braked) : CallTo q m_House_init (.invokespecial 1) 4 (some none) := ct_I (by rw [hq]; exact tG 485 (by decide +kernel) (by decide +kernel)) (tG 141 (by decide +kernel) (by decide +kernel)) (tG 5 (by decide +kernel) (by decide +kernel)) (tG 142 (by decide +kernel) (by decide +kernel)) rfl rfl (by decide +kernel)
theorem ct_Dusk_11 {q : MM} (hq : q.1 = R_Dusk) : CallTo q m_Town_init (.invokespecial 11) 1 (some none) := ct_IN (host := "UpperFloors") (by rw [hq]; decide +kernel) (tG 38 (by decide +kernel) (by decide +kernel)) (tG 2 (by decide +kernel) (by decide +kernel)) (tG 39 (by decide +kernel) (by decide +kernel)) rfl rfl (by decide +kernel)
theorem ct_Heavy_1 {q : MM} (hq : q.1 = R_Heavy) : CallTo q m_House_init (.invokespecial 1) 4 (some none) := ct_I (by rw [hq]; exact tG 475 (by decide +kernel) (by decide +kernel)) (tG 141 (by decide +kernel) (by decide +kernel)) (tG 5 (by decide +kernel) (by decide +kernel)) (tG 142 (by decide +kernel) (by decide +kernel)) rfl rfl (by decide +kernel)
theorem ct_Late_1 {q : MM} (hq : q.1 = R_Late) : CallTo q m_House_init (.invokespecial 1) 4 (some none) := ct_I (by rw [hq]; exact tG 515 (by decide +kernel) (by decide +kernel)) (tG 141 (by decide +kernel) (by decide +kernel)) (tG 5 (by decide +kernel) (by decide +kernel)) (tG 142 (by decide +kernel) (by decide +kernel)) rfl rfl (by decide +kernel)
theorem ct_MO_86 {q : MM} (hq : q.1 = R_MO) : CallTo q m_MO_text (.invokevirtual 86) 1 (some (some R_MO)) := ct_V (by rw [hq]; exact tG 836 (by decide +kernel) (by decide +kernel)) (tG 837 (by decide +kernel) (by decide +kernel)) (tG 838 (by decide +kernel) (by decide +kernel)) (tG 13 (by decide +kernel) (by decide +kernel)) (tG 839 (by decide +kernel) (by decide +kernel)) (by decide +kernel)
theorem ct_Stuck_1 {q : MM} (hq : q.1 = R_Stuck) : CallTo q m_Braked_init (.invokespecial 1) 4 (some none) := ct_I (by rw [hq]; exact tG 505 (by decide +kernel) (by decide +kernel)) (tG 483 (by decide +kernel) (by decide +kernel)) (tG 16 (by decide +kernel) (by decide +kernel)) (tG 484 (by decide +kernel) (by decide +kernel)) rfl rfl (by decide +kernel)
theorem ct_UF_117 {q : MM} (hq : q.1 = R_UF) : CallTo q m_UF_settle (.invokevirtual 117) 4 (some (some R_UF)) := ct_V (by rw [hq]; exact tG 463 (by decide +kernel) (by decide +kernel)) (tG 465 (by decide +kernel) (by decide +kernel)) (sG 17 (by decide +kernel) (by decide +kernel)) (tG 1 (by decide +kernel) (by decide +kernel)) (tG 466 (by decide +kernel) (by decide +kernel)) (by decide +kernel)
theorem ct_UF_256 {q : MM} (hq : q.1 = R_UF) : CallTo q m_UF_build (.invokestatic 256) 3 none := ct_So (by rw [hq]; exact tG 467 (by decide +kernel) (by decide +kernel)) (tG 468 (by decide +kernel) (by decide +kernel)) (tG 1 (by decide +kernel) (by decide +kernel)) (tG 469 (by decide +kernel) (by decide +kernel)) (by decide +kernel)
theorem ct_UF_260 {q : MM} (hq : q.1 = R_UF) : CallTo q m_Town_grow (.invokevirtual 260) 1 (some (some R_Town)) := ct_V (by rw [hq]; exact tG 520 (by decide +kernel) (by decide +kernel)) (tG 521 (by decide +kernel) (by decide +kernel)) (tG 522 (by decide +kernel) (by decide +kernel)) (tG 2 (by decide +kernel) (by decide +kernel)) (tG 523 (by decide +kernel) (by decide +kernel)) (by decide +kernel)
theorem ct_UF_265 {q : MM} (hq : q.1 = R_UF) : CallTo q m_Heavy_init (.invokespecial 265) 4 (some none) := ct_I (by rw [hq]; exact tG 472 (by decide +kernel) (by decide +kernel)) (tG 473 (by decide +kernel) (by decide +kernel)) (tG 15 (by decide +kernel) (by decide +kernel)) (tG 474 (by decide +kernel) (by decide +kernel)) rfl rfl (by decide +kernel)
theorem ct_UF_268 {q : MM} (hq : q.1 = R_UF) : CallTo q m_Braked_init (.invokespecial 268) 4 (some none) := ct_I (by rw [hq]; exact tG 482 (by decide +kernel) (by decide +kernel)) (tG 483 (by decide +kernel) (by decide +kernel)) (tG 16 (by decide +kernel) (by decide +kernel)) (tG 484 (by decide +kernel) (by decide +kernel)) rfl rfl (by decide +kernel)
theorem ct_UF_271 {q : MM} (hq : q.1 = R_UF) : CallTo q m_Aunt_init (.invokespecial 271) 4 (some none) := ct_I (by rw [hq]; exact tG 492 (by decide +kernel) (by decide +kernel)) (tG 493 (by decide +kernel) (by decide +kernel)) (tG 17 (by decide +kernel) (by decide +kernel)) (tG 494 (by decide +kernel) (by decide +kernel)) rfl rfl (by decide +kernel)
theorem ct_UF_274 {q : MM} (hq : q.1 = R_UF) : CallTo q m_Stuck_init (.invokespecial 274) 4 (some none) := ct_I (by rw [hq]; exact tG 502 (by decide +kernel) (by decide +kernel)) (tG 503 (by decide +kernel) (by decide +kernel)) (tG 18 (by decide +kernel) (by decide +kernel)) (tG 504 (by decide +kernel) (by decide +kernel)) rfl rfl (by decide +kernel)
theorem ct_UF_277 {q : MM} (hq : q.1 = R_UF) : CallTo q m_Late_init (.invokespecial 277) 4 (some none) := ct_I (by rw [hq]; exact tG 512 (by decide +kernel) (by decide +kernel)) (tG 513 (by decide +kernel) (by decide +kernel)) (tG 19 (by decide +kernel) (by decide +kernel)) (tG 514 (by decide +kernel) (by decide +kernel)) rfl rfl (by decide +kernel)
theorem ct_UF_33 {q : MM} (hq : q.1 = R_UF) : CallTo q m_Town_init (.invokespecial 33) 1 (some none) := ct_IN (host := "UpperFloors") (by rw [hq]; decide +kernel) (tG 38 (by decide +kernel) (by decide +kernel)) (tG 2 (by decide +kernel) (by decide +kernel)) (tG 39 (by decide +kernel) (by decide +kernel)) rfl rfl (by decide +kernel)
theorem ct_UF_43 {q : MM} (hq : q.1 = R_UF) : CallTo q m_Dusk_init (.invokespecial 43) 1 (some none) := ct_IN (host := "UpperFloors") (by rw [hq]; decide +kernel) (tG 72 (by decide +kernel) (by decide +kernel)) (tG 3 (by decide +kernel) (by decide +kernel)) (tG 73 (by decide +kernel) (by decide +kernel)) rfl rfl (by decide +kernel)
theorem ct_UF_50 {q : MM} (hq : q.1 = R_UF) : CallTo q m_Reader_init (.invokespecial 50) 1 (some none) := ct_IN (host := "UpperFloors") (by rw [hq]; decide +kernel) (tG 114 (by decide +kernel) (by decide +kernel)) (tG 4 (by decide +kernel) (by decide +kernel)) (tG 115 (by decide +kernel) (by decide +kernel)) rfl rfl (by decide +kernel)
theorem ct_UF_55 {q : MM} (hq : q.1 = R_UF) : CallTo q m_House_init (.invokespecial 55) 4 (some none) := ct_I (by rw [hq]; exact tG 140 (by decide +kernel) (by decide +kernel)) (tG 141 (by decide +kernel) (by decide +kernel)) (tG 5 (by decide +kernel) (by decide +kernel)) (tG 142 (by decide +kernel) (by decide +kernel)) rfl rfl (by decide +kernel)
theorem ct_UF_58 {q : MM} (hq : q.1 = R_UF) : CallTo q m_Law_init (.invokespecial 58) 1 (some none) := ct_IN (host := "UpperFloors") (by rw [hq]; decide +kernel) (tG 169 (by decide +kernel) (by decide +kernel)) (tG 6 (by decide +kernel) (by decide +kernel)) (tG 170 (by decide +kernel) (by decide +kernel)) rfl rfl (by decide +kernel)
theorem ct_UF_59 {q : MM} (hq : q.1 = R_UF) : CallTo q m_Sheet_init (.invokespecial 59) 1 (some none) := ct_IN (host := "UpperFloors") (by rw [hq]; decide +kernel) (tG 186 (by decide +kernel) (by decide +kernel)) (tG 7 (by decide +kernel) (by decide +kernel)) (tG 187 (by decide +kernel) (by decide +kernel)) rfl rfl (by decide +kernel)
theorem ct_UF_62 {q : MM} (hq : q.1 = R_UF) : CallTo q m_Str_length (.invokevirtual 62) 1 (some (some "java/lang/String")) := ct_V (by rw [hq]; exact tG 203 (by decide +kernel) (by decide +kernel)) (tG 204 (by decide +kernel) (by decide +kernel)) (tG 205 (by decide +kernel) (by decide +kernel)) (tG 8 (by decide +kernel) (by decide +kernel)) (tG 206 (by decide +kernel) (by decide +kernel)) (by decide +kernel)
theorem ct_UF_68 {q : MM} (hq : q.1 = R_UF) : CallTo q m_Str_charAt (.invokevirtual 68) 2 (some (some "java/lang/String")) := ct_V (by rw [hq]; exact tG 213 (by decide +kernel) (by decide +kernel)) (tG 214 (by decide +kernel) (by decide +kernel)) (tG 215 (by decide +kernel) (by decide +kernel)) (tG 8 (by decide +kernel) (by decide +kernel)) (tG 216 (by decide +kernel) (by decide +kernel)) (by decide +kernel)
theorem d_House_init_0 : decode prog_6_method_1_code 0 = .ok (.aload_n 0, 1) := by decide +kernel
theorem d_House_init_1 : decode prog_6_method_1_code 1 = .ok (.invokespecial 1, 3) := by decide +kernel
theorem d_House_init_4 : decode prog_6_method_1_code 4 = .ok (.aload_n 0, 1) := by decide +kernel
theorem d_House_init_5 : decode prog_6_method_1_code 5 = .ok (.iload_n 1, 1) := by decide +kernel
theorem d_House_init_6 : decode prog_6_method_1_code 6 = .ok (.putfield 7, 3) := by decide +kernel
theorem d_House_init_9 : decode prog_6_method_1_code 9 = .ok (.aload_n 0, 1) := by decide +kernel
theorem d_House_init_10 : decode prog_6_method_1_code 10 = .ok (.iload_n 2, 1) := by decide +kernel
theorem d_House_init_11 : decode prog_6_method_1_code 11 = .ok (.putfield 13, 3) := by decide +kernel
theorem d_House_init_14 : decode prog_6_method_1_code 14 = .ok (.aload_n 0, 1) := by decide +kernel
theorem d_House_init_15 : decode prog_6_method_1_code 15 = .ok (.iload_n 3, 1) := by decide +kernel
theorem d_House_init_16 : decode prog_6_method_1_code 16 = .ok (.putfield 16, 3) := by decide +kernel
theorem d_House_init_19 : decode prog_6_method_1_code 19 = .ok (.return_, 1) := by decide +kernel
theorem d_Heavy_init_0 : decode prog_5_method_1_code 0 = .ok (.aload_n 0, 1) := by decide +kernel
theorem d_Heavy_init_1 : decode prog_5_method_1_code 1 = .ok (.iload_n 1, 1) := by decide +kernel
theorem d_Heavy_init_2 : decode prog_5_method_1_code 2 = .ok (.iload_n 2, 1) := by decide +kernel
theorem d_Heavy_init_3 : decode prog_5_method_1_code 3 = .ok (.iload_n 3, 1) := by decide +kernel
theorem d_Heavy_init_4 : decode prog_5_method_1_code 4 = .ok (.invokespecial 1, 3) := by decide +kernel
theorem d_Heavy_init_7 : decode prog_5_method_1_code 7 = .ok (.return_, 1) := by decide +kernel
theorem d_Braked_init_0 : decode prog_3_method_1_code 0 = .ok (.aload_n 0, 1) := by decide +kernel
theorem d_Braked_init_1 : decode prog_3_method_1_code 1 = .ok (.iload_n 1, 1) := by decide +kernel
theorem d_Braked_init_2 : decode prog_3_method_1_code 2 = .ok (.iload_n 2, 1) := by decide +kernel
theorem d_Braked_init_3 : decode prog_3_method_1_code 3 = .ok (.iload_n 3, 1) := by decide +kernel
theorem d_Braked_init_4 : decode prog_3_method_1_code 4 = .ok (.invokespecial 1, 3) := by decide +kernel
theorem d_Braked_init_7 : decode prog_3_method_1_code 7 = .ok (.return_, 1) := by decide +kernel
theorem d_Aunt_init_0 : decode prog_2_method_1_code 0 = .ok (.aload_n 0, 1) := by decide +kernel
theorem d_Aunt_init_1 : decode prog_2_method_1_code 1 = .ok (.iload_n 1, 1) := by decide +kernel
theorem d_Aunt_init_2 : decode prog_2_method_1_code 2 = .ok (.iload_n 2, 1) := by decide +kernel
theorem d_Aunt_init_3 : decode prog_2_method_1_code 3 = .ok (.iload_n 3, 1) := by decide +kernel
theorem d_Aunt_init_4 : decode prog_2_method_1_code 4 = .ok (.invokespecial 1, 3) := by decide +kernel
theorem d_Aunt_init_7 : decode prog_2_method_1_code 7 = .ok (.return_, 1) := by decide +kernel
theorem d_Stuck_init_0 : decode prog_11_method_1_code 0 = .ok (.aload_n 0, 1) := by decide +kernel
theorem d_Stuck_init_1 : decode prog_11_method_1_code 1 = .ok (.iload_n 1, 1) := by decide +kernel
theorem d_Stuck_init_2 : decode prog_11_method_1_code 2 = .ok (.iload_n 2, 1) := by decide +kernel
theorem d_Stuck_init_3 : decode prog_11_method_1_code 3 = .ok (.iload_n 3, 1) := by decide +kernel
theorem d_Stuck_init_4 : decode prog_11_method_1_code 4 = .ok (.invokespecial 1, 3) := by decide +kernel
theorem d_Stuck_init_7 : decode prog_11_method_1_code 7 = .ok (.return_, 1) := by decide +kernel
theorem d_Late_init_0 : decode prog_7_method_1_code 0 = .ok (.aload_n 0, 1) := by decide +kernel
theorem d_Late_init_1 : decode prog_7_method_1_code 1 = .ok (.iload_n 1, 1) := by decide +kernel
theorem d_Late_init_2 : decode prog_7_method_1_code 2 = .ok (.iload_n 2, 1) := by decide +kernel
theorem d_Late_init_3 : decode prog_7_method_1_code 3 = .ok (.iload_n 3, 1) := by decide +kernel
theorem d_Late_init_4 : decode prog_7_method_1_code 4 = .ok (.invokespecial 1, 3) := by decide +kernel
theorem d_Late_init_7 : decode prog_7_method_1_code 7 = .ok (.return_, 1) := by decide +kernel
theorem d_UF_build_0 : decode prog_1_method_45_code 0 = .ok (.iload_n 0, 1) := by decide +kernel
theorem d_UF_build_1 : decode prog_1_method_45_code 1 = .ok (.tableswitch 90 1 5 #[35, 46, 57, 68, 79], 35) := by decide +kernel
theorem d_UF_build_36 : decode prog_1_method_45_code 36 = .ok (.new 263, 3) := by decide +kernel
theorem d_UF_build_39 : decode prog_1_method_45_code 39 = .ok (.dup, 1) := by decide +kernel
theorem d_UF_build_40 : decode prog_1_method_45_code 40 = .ok (.iload_n 0, 1) := by decide +kernel
theorem d_UF_build_41 : decode prog_1_method_45_code 41 = .ok (.iload_n 1, 1) := by decide +kernel
theorem d_UF_build_42 : decode prog_1_method_45_code 42 = .ok (.iload_n 2, 1) := by decide +kernel
theorem d_UF_build_43 : decode prog_1_method_45_code 43 = .ok (.invokespecial 265, 3) := by decide +kernel
theorem d_UF_build_46 : decode prog_1_method_45_code 46 = .ok (.areturn, 1) := by decide +kernel
theorem d_UF_build_47 : decode prog_1_method_45_code 47 = .ok (.new 266, 3) := by decide +kernel
theorem d_UF_build_50 : decode prog_1_method_45_code 50 = .ok (.dup, 1) := by decide +kernel
theorem d_UF_build_51 : decode prog_1_method_45_code 51 = .ok (.iload_n 0, 1) := by decide +kernel
theorem d_UF_build_52 : decode prog_1_method_45_code 52 = .ok (.iload_n 1, 1) := by decide +kernel
theorem d_UF_build_53 : decode prog_1_method_45_code 53 = .ok (.iload_n 2, 1) := by decide +kernel
theorem d_UF_build_54 : decode prog_1_method_45_code 54 = .ok (.invokespecial 268, 3) := by decide +kernel
theorem d_UF_build_57 : decode prog_1_method_45_code 57 = .ok (.areturn, 1) := by decide +kernel
theorem d_UF_build_58 : decode prog_1_method_45_code 58 = .ok (.new 269, 3) := by decide +kernel
theorem d_UF_build_61 : decode prog_1_method_45_code 61 = .ok (.dup, 1) := by decide +kernel
theorem d_UF_build_62 : decode prog_1_method_45_code 62 = .ok (.iload_n 0, 1) := by decide +kernel
theorem d_UF_build_63 : decode prog_1_method_45_code 63 = .ok (.iload_n 1, 1) := by decide +kernel
theorem d_UF_build_64 : decode prog_1_method_45_code 64 = .ok (.iload_n 2, 1) := by decide +kernel
theorem d_UF_build_65 : decode prog_1_method_45_code 65 = .ok (.invokespecial 271, 3) := by decide +kernel
theorem d_UF_build_68 : decode prog_1_method_45_code 68 = .ok (.areturn, 1) := by decide +kernel
theorem d_UF_build_69 : decode prog_1_method_45_code 69 = .ok (.new 272, 3) := by decide +kernel
theorem d_UF_build_72 : decode prog_1_method_45_code 72 = .ok (.dup, 1) := by decide +kernel
theorem d_UF_build_73 : decode prog_1_method_45_code 73 = .ok (.iload_n 0, 1) := by decide +kernel
theorem d_UF_build_74 : decode prog_1_method_45_code 74 = .ok (.iload_n 1, 1) := by decide +kernel
theorem d_UF_build_75 : decode prog_1_method_45_code 75 = .ok (.iload_n 2, 1) := by decide +kernel
theorem d_UF_build_76 : decode prog_1_method_45_code 76 = .ok (.invokespecial 274, 3) := by decide +kernel
theorem d_UF_build_79 : decode prog_1_method_45_code 79 = .ok (.areturn, 1) := by decide +kernel
theorem d_UF_build_80 : decode prog_1_method_45_code 80 = .ok (.new 275, 3) := by decide +kernel
theorem d_UF_build_83 : decode prog_1_method_45_code 83 = .ok (.dup, 1) := by decide +kernel
theorem d_UF_build_84 : decode prog_1_method_45_code 84 = .ok (.iload_n 0, 1) := by decide +kernel
theorem d_UF_build_85 : decode prog_1_method_45_code 85 = .ok (.iload_n 1, 1) := by decide +kernel
theorem d_UF_build_86 : decode prog_1_method_45_code 86 = .ok (.iload_n 2, 1) := by decide +kernel
theorem d_UF_build_87 : decode prog_1_method_45_code 87 = .ok (.invokespecial 277, 3) := by decide +kernel
theorem d_UF_build_90 : decode prog_1_method_45_code 90 = .ok (.areturn, 1) := by decide +kernel
theorem d_UF_build_91 : decode prog_1_method_45_code 91 = .ok (.new 9, 3) := by decide +kernel
theorem d_UF_build_94 : decode prog_1_method_45_code 94 = .ok (.dup, 1) := by decide +kernel
theorem d_UF_build_95 : decode prog_1_method_45_code 95 = .ok (.iload_n 0, 1) := by decide +kernel
theorem d_UF_build_96 : decode prog_1_method_45_code 96 = .ok (.iload_n 1, 1) := by decide +kernel
theorem d_UF_build_97 : decode prog_1_method_45_code 97 = .ok (.iload_n 2, 1) := by decide +kernel
theorem d_UF_build_98 : decode prog_1_method_45_code 98 = .ok (.invokespecial 55, 3) := by decide +kernel
theorem d_UF_build_101 : decode prog_1_method_45_code 101 = .ok (.areturn, 1) := by decide +kernel
theorem fty_fam {c : Nat} (hc : famP c) : FTY c 0 .int true R_House ∧ FTY c 1 .int true R_House ∧ FTY c 2 .int true R_House := by
  rcases hc with rfl | rfl | rfl | rfl | rfl | rfl
  · exact ⟨ft_0_0, ft_0_1, ft_0_2⟩
  · exact ⟨ft_1_0, ft_1_1, ft_1_2⟩
  · exact ⟨ft_3_0, ft_3_1, ft_3_2⟩
  · exact ⟨ft_4_0, ft_4_1, ft_4_2⟩
  · exact ⟨ft_5_0, ft_5_1, ft_5_2⟩
  · exact ⟨ft_9_0, ft_9_1, ft_9_2⟩
theorem w_House_init {G : GG} {T : TT} {d : Nat} {Q : AH → Prop} {h : AH} {a c : Nat} {x1 x2 x3 : Int32} (ha : vA T h a) (hs : (rS T h a).1 = c) (hc : famP c) (H : Q (wI (wI (wI h a 0 x1) a 1 x2) a 2 x3)) : WP G T m_House_init (d + 1) [.ref a, .int x1, .int x2, .int x3] h 0 0 (vQ Q) := by
  refine WP.enter 0 (by decide) rfl rfl ?_
  obtain ⟨f0, f1, f2⟩ := fty_fam hc
  refine A_aload_n d_House_init_0 rfl ?_
  refine A_objI d_House_init_1 (tG 143 (by decide +kernel) (by decide +kernel)) (tG 27 (by decide +kernel) (by decide +kernel)) (tG 28 (by decide +kernel) (by decide +kernel)) (by decide) ?_
  refine A_aload_n d_House_init_4 rfl ?_
  refine A_iload_n d_House_init_5 rfl ?_
  refine A_putI (k := 0) (x := x1) d_House_init_6 (foh_House_7 rfl _ hc) (Or.inl f0) (fun _ => rfl) (fam_fty hc (by decide)) ha hs rfl rfl ?_
  refine A_aload_n d_House_init_9 rfl ?_
  refine A_iload_n d_House_init_10 rfl ?_
  refine A_putI (k := 1) (x := x2) d_House_init_11 (foh_House_13 rfl _ hc) (Or.inl f1) (fun _ => rfl) (fam_fty hc (by decide)) ha hs rfl rfl ?_
  refine A_aload_n d_House_init_14 rfl ?_
  refine A_iload_n d_House_init_15 rfl ?_
  refine A_putI (k := 2) (x := x3) d_House_init_16 (foh_House_16 rfl _ hc) (Or.inl f2) (fun _ => rfl) (fam_fty hc (by decide)) ha hs rfl rfl ?_
  exact A_ret d_House_init_19 rfl H
theorem w_Heavy_init {G : GG} {T : TT} {d : Nat} {Q : AH → Prop} {h : AH} {a c : Nat} {x1 x2 x3 : Int32} (ha : vA T h a) (hs : (rS T h a).1 = c) (hc : famP c) (H : Q (wI (wI (wI h a 0 x1) a 1 x2) a 2 x3)) : WP G T m_Heavy_init (d + 2) [.ref a, .int x1, .int x2, .int x3] h 0 0 (vQ Q) := by
  refine WP.enter 0 (by decide) rfl rfl ?_
  refine A_aload_n d_Heavy_init_0 rfl ?_
  refine A_iload_n d_Heavy_init_1 rfl ?_
  refine A_iload_n d_Heavy_init_2 rfl ?_
  refine A_iload_n d_Heavy_init_3 rfl ?_
  refine A_cV [.ref a, .int x1, .int x2, .int x3] [] (ct_Heavy_1 rfl) d_Heavy_init_4 rfl rfl (by decide) (Nat.le_of_ble_eq_true rfl) ⟨_, _, rfl⟩ (w_House_init (d := d) ha hs hc H) (fun h2 H => ?_)
  exact A_ret d_Heavy_init_7 rfl H
theorem w_Braked_init {G : GG} {T : TT} {d : Nat} {Q : AH → Prop} {h : AH} {a c : Nat} {x1 x2 x3 : Int32} (ha : vA T h a) (hs : (rS T h a).1 = c) (hc : famP c) (H : Q (wI (wI (wI h a 0 x1) a 1 x2) a 2 x3)) : WP G T m_Braked_init (d + 2) [.ref a, .int x1, .int x2, .int x3] h 0 0 (vQ Q) := by
  refine WP.enter 0 (by decide) rfl rfl ?_
  refine A_aload_n d_Braked_init_0 rfl ?_
  refine A_iload_n d_Braked_init_1 rfl ?_
  refine A_iload_n d_Braked_init_2 rfl ?_
  refine A_iload_n d_Braked_init_3 rfl ?_
  refine A_cV [.ref a, .int x1, .int x2, .int x3] [] (ct_Braked_1 rfl) d_Braked_init_4 rfl rfl (by decide) (Nat.le_of_ble_eq_true rfl) ⟨_, _, rfl⟩ (w_House_init (d := d) ha hs hc H) (fun h2 H => ?_)
  exact A_ret d_Braked_init_7 rfl H
theorem w_Late_init {G : GG} {T : TT} {d : Nat} {Q : AH → Prop} {h : AH} {a c : Nat} {x1 x2 x3 : Int32} (ha : vA T h a) (hs : (rS T h a).1 = c) (hc : famP c) (H : Q (wI (wI (wI h a 0 x1) a 1 x2) a 2 x3)) : WP G T m_Late_init (d + 2) [.ref a, .int x1, .int x2, .int x3] h 0 0 (vQ Q) := by
  refine WP.enter 0 (by decide) rfl rfl ?_
  refine A_aload_n d_Late_init_0 rfl ?_
  refine A_iload_n d_Late_init_1 rfl ?_
  refine A_iload_n d_Late_init_2 rfl ?_
  refine A_iload_n d_Late_init_3 rfl ?_
  refine A_cV [.ref a, .int x1, .int x2, .int x3] [] (ct_Late_1 rfl) d_Late_init_4 rfl rfl (by decide) (Nat.le_of_ble_eq_true rfl) ⟨_, _, rfl⟩ (w_House_init (d := d) ha hs hc H) (fun h2 H => ?_)
  exact A_ret d_Late_init_7 rfl H
theorem w_Aunt_init {G : GG} {T : TT} {d : Nat} {Q : AH → Prop} {h : AH} {a c : Nat} {x1 x2 x3 : Int32} (ha : vA T h a) (hs : (rS T h a).1 = c) (hc : famP c) (H : Q (wI (wI (wI h a 0 x1) a 1 x2) a 2 x3)) : WP G T m_Aunt_init (d + 3) [.ref a, .int x1, .int x2, .int x3] h 0 0 (vQ Q) := by
  refine WP.enter 0 (by decide) rfl rfl ?_
  refine A_aload_n d_Aunt_init_0 rfl ?_
  refine A_iload_n d_Aunt_init_1 rfl ?_
  refine A_iload_n d_Aunt_init_2 rfl ?_
  refine A_iload_n d_Aunt_init_3 rfl ?_
  refine A_cV [.ref a, .int x1, .int x2, .int x3] [] (ct_Aunt_1 rfl) d_Aunt_init_4 rfl rfl (by decide) (Nat.le_of_ble_eq_true rfl) ⟨_, _, rfl⟩ (w_Heavy_init (d := d) ha hs hc H) (fun h2 H => ?_)
  exact A_ret d_Aunt_init_7 rfl H
theorem w_Stuck_init {G : GG} {T : TT} {d : Nat} {Q : AH → Prop} {h : AH} {a c : Nat} {x1 x2 x3 : Int32} (ha : vA T h a) (hs : (rS T h a).1 = c) (hc : famP c) (H : Q (wI (wI (wI h a 0 x1) a 1 x2) a 2 x3)) : WP G T m_Stuck_init (d + 3) [.ref a, .int x1, .int x2, .int x3] h 0 0 (vQ Q) := by
  refine WP.enter 0 (by decide) rfl rfl ?_
  refine A_aload_n d_Stuck_init_0 rfl ?_
  refine A_iload_n d_Stuck_init_1 rfl ?_
  refine A_iload_n d_Stuck_init_2 rfl ?_
  refine A_iload_n d_Stuck_init_3 rfl ?_
  refine A_cV [.ref a, .int x1, .int x2, .int x3] [] (ct_Stuck_1 rfl) d_Stuck_init_4 rfl rfl (by decide) (Nat.le_of_ble_eq_true rfl) ⟨_, _, rfl⟩ (w_Braked_init (d := d) ha hs hc H) (fun h2 H => ?_)
  exact A_ret d_Stuck_init_7 rfl H
def mkH (T : TT) (h : AH) (c : Nat) (x0 x1 x2 : Int32) : AH := wI (wI (wI (wN T h (c, 3)) (nC T h) 0 x0) (nC T h) 1 x1) (nC T h) 2 x2
def p_UF_build (Q : Nat → AH → Prop) (x0 x1 x2 : Int32) (h : AH) : Prop := Q (nC T1 h) (mkH T1 h (kindC x0) x0 x1 x2)
theorem frN_T1 (h : AH) : frN T1 h := by
  have l : 84 ≤ nC T1 h := Nat.le_add_right _ _
  refine ⟨nthN_ge tblS _ none (Nat.le_trans (by decide) l), fun k => ?_⟩
  show nthN (nthN tblR (nC T1 h) []) k none = none
  rw [nthN_ge tblR _ [] (Nat.le_trans (by decide) l)]
  rfl
theorem vA_wN {T : TT} {h : AH} {s : Nat × Nat} : vA T (wN T h s) (nC T h) := by
  show nC T h < nC T (wN T h s)
  rw [nC_wN]; exact Nat.lt_succ_self _
set_option maxRecDepth 20000 in
theorem ok_UF_build {G : GG} {d : Nat} {Q : Nat → AH → Prop} {x0 x1 x2 : Int32} {h : AH} (H : p_UF_build Q x0 x1 x2 h) : WP G T1 m_UF_build (d + 4) [.int x0, .int x1, .int x2] h 1 3 (rQ Q) := by
  refine WP.enter 0 (by decide) rfl rfl ?_
  refine A_iload_n d_UF_build_0 rfl ?_
  by_cases z1 : x0 = 1
  · have e : kindC x0 = 3 := by rw [z1]; rfl
    unfold p_UF_build mkH at H; rw [e] at H
    refine A_tsI 36 d_UF_build_1 (by rw [z1]; decide) (by rw [z1]; decide) (by rw [z1]; rfl) (by decide) ?_
    refine A_new (bc := 0) (bs := 0) (c := 3) t_Heavy d_UF_build_36 ck_Heavy t_Heavy_ok (fun k hk => by match k, hk with | 0, _ => rfl | 1, _ => rfl | 2, _ => rfl) (tG 470 (by decide +kernel) (by decide +kernel)) (tG 471 (by decide +kernel) (by decide +kernel)) (tG 15 (by decide +kernel) (by decide +kernel)) (frN_T1 h) ?_
    refine A_dup rfl d_UF_build_39 ?_
    refine A_iload_n d_UF_build_40 rfl ?_
    refine A_iload_n d_UF_build_41 rfl ?_
    refine A_iload_n d_UF_build_42 rfl ?_
    refine A_cV (Q := rQ Q) [.ref (nC T1 h), .int x0, .int x1, .int x2] [.ref (nC T1 h)] (ct_UF_265 rfl) d_UF_build_43 rfl rfl (by decide) (Nat.le_of_ble_eq_true rfl) ⟨_, _, rfl⟩ (w_Heavy_init (Q := fun h2 => Q (nC T1 h) h2) (c := 3) (d := d + 1) vA_wN (by rw [rS_wN (frN_T1 h).1]) (by unfold famP; decide) H) (fun h2 H => ?_)
    exact A_aret d_UF_build_46 rfl H
  by_cases z2 : x0 = 2
  · have e : kindC x0 = 1 := by rw [z2]; rfl
    unfold p_UF_build mkH at H; rw [e] at H
    refine A_tsI 47 d_UF_build_1 (by rw [z2]; decide) (by rw [z2]; decide) (by rw [z2]; rfl) (by decide) ?_
    refine A_new (bc := 0) (bs := 0) (c := 1) t_Braked d_UF_build_47 ck_Braked t_Braked_ok (fun k hk => by match k, hk with | 0, _ => rfl | 1, _ => rfl | 2, _ => rfl) (tG 480 (by decide +kernel) (by decide +kernel)) (tG 481 (by decide +kernel) (by decide +kernel)) (tG 16 (by decide +kernel) (by decide +kernel)) (frN_T1 h) ?_
    refine A_dup rfl d_UF_build_50 ?_
    refine A_iload_n d_UF_build_51 rfl ?_
    refine A_iload_n d_UF_build_52 rfl ?_
    refine A_iload_n d_UF_build_53 rfl ?_
    refine A_cV (Q := rQ Q) [.ref (nC T1 h), .int x0, .int x1, .int x2] [.ref (nC T1 h)] (ct_UF_268 rfl) d_UF_build_54 rfl rfl (by decide) (Nat.le_of_ble_eq_true rfl) ⟨_, _, rfl⟩ (w_Braked_init (Q := fun h2 => Q (nC T1 h) h2) (c := 1) (d := d + 1) vA_wN (by rw [rS_wN (frN_T1 h).1]) (by unfold famP; decide) H) (fun h2 H => ?_)
    exact A_aret d_UF_build_57 rfl H
  by_cases z3 : x0 = 3
  · have e : kindC x0 = 0 := by rw [z3]; rfl
    unfold p_UF_build mkH at H; rw [e] at H
    refine A_tsI 58 d_UF_build_1 (by rw [z3]; decide) (by rw [z3]; decide) (by rw [z3]; rfl) (by decide) ?_
    refine A_new (bc := 0) (bs := 0) (c := 0) t_Aunt d_UF_build_58 ck_Aunt t_Aunt_ok (fun k hk => by match k, hk with | 0, _ => rfl | 1, _ => rfl | 2, _ => rfl) (tG 490 (by decide +kernel) (by decide +kernel)) (tG 491 (by decide +kernel) (by decide +kernel)) (tG 17 (by decide +kernel) (by decide +kernel)) (frN_T1 h) ?_
    refine A_dup rfl d_UF_build_61 ?_
    refine A_iload_n d_UF_build_62 rfl ?_
    refine A_iload_n d_UF_build_63 rfl ?_
    refine A_iload_n d_UF_build_64 rfl ?_
    refine A_cV (Q := rQ Q) [.ref (nC T1 h), .int x0, .int x1, .int x2] [.ref (nC T1 h)] (ct_UF_271 rfl) d_UF_build_65 rfl rfl (by decide) (Nat.le_of_ble_eq_true rfl) ⟨_, _, rfl⟩ (w_Aunt_init (Q := fun h2 => Q (nC T1 h) h2) (c := 0) (d := d + 0) vA_wN (by rw [rS_wN (frN_T1 h).1]) (by unfold famP; decide) H) (fun h2 H => ?_)
    exact A_aret d_UF_build_68 rfl H
  by_cases z4 : x0 = 4
  · have e : kindC x0 = 9 := by rw [z4]; rfl
    unfold p_UF_build mkH at H; rw [e] at H
    refine A_tsI 69 d_UF_build_1 (by rw [z4]; decide) (by rw [z4]; decide) (by rw [z4]; rfl) (by decide) ?_
    refine A_new (bc := 0) (bs := 0) (c := 9) t_Stuck d_UF_build_69 ck_Stuck t_Stuck_ok (fun k hk => by match k, hk with | 0, _ => rfl | 1, _ => rfl | 2, _ => rfl) (tG 500 (by decide +kernel) (by decide +kernel)) (tG 501 (by decide +kernel) (by decide +kernel)) (tG 18 (by decide +kernel) (by decide +kernel)) (frN_T1 h) ?_
    refine A_dup rfl d_UF_build_72 ?_
    refine A_iload_n d_UF_build_73 rfl ?_
    refine A_iload_n d_UF_build_74 rfl ?_
    refine A_iload_n d_UF_build_75 rfl ?_
    refine A_cV (Q := rQ Q) [.ref (nC T1 h), .int x0, .int x1, .int x2] [.ref (nC T1 h)] (ct_UF_274 rfl) d_UF_build_76 rfl rfl (by decide) (Nat.le_of_ble_eq_true rfl) ⟨_, _, rfl⟩ (w_Stuck_init (Q := fun h2 => Q (nC T1 h) h2) (c := 9) (d := d + 0) vA_wN (by rw [rS_wN (frN_T1 h).1]) (by unfold famP; decide) H) (fun h2 H => ?_)
    exact A_aret d_UF_build_79 rfl H
  by_cases z5 : x0 = 5
  · have e : kindC x0 = 5 := by rw [z5]; rfl
    unfold p_UF_build mkH at H; rw [e] at H
    refine A_tsI 80 d_UF_build_1 (by rw [z5]; decide) (by rw [z5]; decide) (by rw [z5]; rfl) (by decide) ?_
    refine A_new (bc := 0) (bs := 0) (c := 5) t_Late d_UF_build_80 ck_Late t_Late_ok (fun k hk => by match k, hk with | 0, _ => rfl | 1, _ => rfl | 2, _ => rfl) (tG 510 (by decide +kernel) (by decide +kernel)) (tG 511 (by decide +kernel) (by decide +kernel)) (tG 19 (by decide +kernel) (by decide +kernel)) (frN_T1 h) ?_
    refine A_dup rfl d_UF_build_83 ?_
    refine A_iload_n d_UF_build_84 rfl ?_
    refine A_iload_n d_UF_build_85 rfl ?_
    refine A_iload_n d_UF_build_86 rfl ?_
    refine A_cV (Q := rQ Q) [.ref (nC T1 h), .int x0, .int x1, .int x2] [.ref (nC T1 h)] (ct_UF_277 rfl) d_UF_build_87 rfl rfl (by decide) (Nat.le_of_ble_eq_true rfl) ⟨_, _, rfl⟩ (w_Late_init (Q := fun h2 => Q (nC T1 h) h2) (c := 5) (d := d + 1) vA_wN (by rw [rS_wN (frN_T1 h).1]) (by unfold famP; decide) H) (fun h2 H => ?_)
    exact A_aret d_UF_build_90 rfl H
  have e : kindC x0 = 4 := by unfold kindC; rw [if_neg z1, if_neg z2, if_neg z3, if_neg z4, if_neg z5]
  unfold p_UF_build mkH at H; rw [e] at H
  refine A_tsO 91 d_UF_build_1 (by have t1 := lv_neT z1 (a := 1) (by decide); have t2 := lv_neT z2 (a := 2) (by decide); have t3 := lv_neT z3 (a := 3) (by decide); have t4 := lv_neT z4 (a := 4) (by decide); have t5 := lv_neT z5 (a := 5) (by decide); omega) (by decide) ?_
  refine A_new (bc := 0) (bs := 0) (c := 4) t_House d_UF_build_91 ck_House t_House_ok (fun k hk => by match k, hk with | 0, _ => rfl | 1, _ => rfl | 2, _ => rfl) (tG 29 (by decide +kernel) (by decide +kernel)) (tG 139 (by decide +kernel) (by decide +kernel)) (tG 5 (by decide +kernel) (by decide +kernel)) (frN_T1 h) ?_
  refine A_dup rfl d_UF_build_94 ?_
  refine A_iload_n d_UF_build_95 rfl ?_
  refine A_iload_n d_UF_build_96 rfl ?_
  refine A_iload_n d_UF_build_97 rfl ?_
  refine A_cV (Q := rQ Q) [.ref (nC T1 h), .int x0, .int x1, .int x2] [.ref (nC T1 h)] (ct_UF_55 rfl) d_UF_build_98 rfl rfl (by decide) (Nat.le_of_ble_eq_true rfl) ⟨_, _, rfl⟩ (w_House_init (Q := fun h2 => Q (nC T1 h) h2) (c := 4) (d := d + 2) vA_wN (by rw [rS_wN (frN_T1 h).1]) (by unfold famP; decide) H) (fun h2 H => ?_)
  exact A_aret d_UF_build_101 rfl H
