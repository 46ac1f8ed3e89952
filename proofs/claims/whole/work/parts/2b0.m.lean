theorem d_UF_film_0 : decode prog_1_method_27_code 0 = .ok (.iload_n 1, 1) := by decide +kernel
theorem d_UF_film_1 : decode prog_1_method_27_code 1 = .ok (.invokestatic 211, 3) := by decide +kernel
theorem d_UF_film_4 : decode prog_1_method_27_code 4 = .ok (.ifCond .ne 6, 3) := by decide +kernel
theorem d_UF_film_7 : decode prog_1_method_27_code 7 = .ok (.bipush (-2), 2) := by decide +kernel
theorem d_UF_film_9 : decode prog_1_method_27_code 9 = .ok (.ireturn, 1) := by decide +kernel
theorem d_UF_film_10 : decode prog_1_method_27_code 10 = .ok (.iload_n 2, 1) := by decide +kernel
theorem d_UF_film_11 : decode prog_1_method_27_code 11 = .ok (.invokestatic 143, 3) := by decide +kernel
theorem d_UF_film_14 : decode prog_1_method_27_code 14 = .ok (.ifCond .ne 6, 3) := by decide +kernel
theorem d_UF_film_17 : decode prog_1_method_27_code 17 = .ok (.bipush (-7), 2) := by decide +kernel
theorem d_UF_film_19 : decode prog_1_method_27_code 19 = .ok (.ireturn, 1) := by decide +kernel
theorem d_UF_film_20 : decode prog_1_method_27_code 20 = .ok (.aload_n 0, 1) := by decide +kernel
theorem d_UF_film_21 : decode prog_1_method_27_code 21 = .ok (.invokevirtual 110, 3) := by decide +kernel
theorem d_UF_film_24 : decode prog_1_method_27_code 24 = .ok (.aload_n 0, 1) := by decide +kernel
theorem d_UF_film_25 : decode prog_1_method_27_code 25 = .ok (.getfield 44, 3) := by decide +kernel
theorem d_UF_film_28 : decode prog_1_method_27_code 28 = .ok (.iload_n 2, 1) := by decide +kernel
theorem d_UF_film_29 : decode prog_1_method_27_code 29 = .ok (.invokevirtual 146, 3) := by decide +kernel
theorem d_UF_film_32 : decode prog_1_method_27_code 32 = .ok (.aload_n 0, 1) := by decide +kernel
theorem d_UF_film_33 : decode prog_1_method_27_code 33 = .ok (.getfield 23, 3) := by decide +kernel
theorem d_UF_film_36 : decode prog_1_method_27_code 36 = .ok (.iload_n 1, 1) := by decide +kernel
theorem d_UF_film_37 : decode prog_1_method_27_code 37 = .ok (.aaload, 1) := by decide +kernel
theorem d_UF_film_38 : decode prog_1_method_27_code 38 = .ok (.iconst 2, 1) := by decide +kernel
theorem d_UF_film_39 : decode prog_1_method_27_code 39 = .ok (.aload_n 0, 1) := by decide +kernel
theorem d_UF_film_40 : decode prog_1_method_27_code 40 = .ok (.getfield 34, 3) := by decide +kernel
theorem d_UF_film_43 : decode prog_1_method_27_code 43 = .ok (.getfield 80, 3) := by decide +kernel
theorem d_UF_film_46 : decode prog_1_method_27_code 46 = .ok (.invokevirtual 214, 3) := by decide +kernel
theorem d_UF_film_49 : decode prog_1_method_27_code 49 = .ok (.iconst 0, 1) := by decide +kernel
theorem d_UF_film_50 : decode prog_1_method_27_code 50 = .ok (.istore_n 3, 1) := by decide +kernel
theorem d_UF_film_51 : decode prog_1_method_27_code 51 = .ok (.iload_n 3, 1) := by decide +kernel
theorem d_UF_film_52 : decode prog_1_method_27_code 52 = .ok (.aload_n 0, 1) := by decide +kernel
theorem d_UF_film_53 : decode prog_1_method_27_code 53 = .ok (.getfield 34, 3) := by decide +kernel
theorem d_UF_film_56 : decode prog_1_method_27_code 56 = .ok (.getfield 80, 3) := by decide +kernel
theorem d_UF_film_59 : decode prog_1_method_27_code 59 = .ok (.if_icmp .ge 31, 3) := by decide +kernel
theorem d_UF_film_62 : decode prog_1_method_27_code 62 = .ok (.aload_n 0, 1) := by decide +kernel
theorem d_UF_film_63 : decode prog_1_method_27_code 63 = .ok (.getfield 23, 3) := by decide +kernel
theorem d_UF_film_66 : decode prog_1_method_27_code 66 = .ok (.iload_n 1, 1) := by decide +kernel
theorem d_UF_film_67 : decode prog_1_method_27_code 67 = .ok (.aaload, 1) := by decide +kernel
theorem d_UF_film_68 : decode prog_1_method_27_code 68 = .ok (.iload_n 3, 1) := by decide +kernel
theorem d_UF_film_69 : decode prog_1_method_27_code 69 = .ok (.aload_n 0, 1) := by decide +kernel
theorem d_UF_film_70 : decode prog_1_method_27_code 70 = .ok (.getfield 44, 3) := by decide +kernel
theorem d_UF_film_73 : decode prog_1_method_27_code 73 = .ok (.getfield 149, 3) := by decide +kernel
theorem d_UF_film_76 : decode prog_1_method_27_code 76 = .ok (.getfield 121, 3) := by decide +kernel
theorem d_UF_film_79 : decode prog_1_method_27_code 79 = .ok (.iload_n 3, 1) := by decide +kernel
theorem d_UF_film_80 : decode prog_1_method_27_code 80 = .ok (.iaload, 1) := by decide +kernel
theorem d_UF_film_81 : decode prog_1_method_27_code 81 = .ok (.invokevirtual 217, 3) := by decide +kernel
theorem d_UF_film_84 : decode prog_1_method_27_code 84 = .ok (.iinc 3 1, 3) := by decide +kernel
theorem d_UF_film_87 : decode prog_1_method_27_code 87 = .ok (.goto (-36), 3) := by decide +kernel
theorem d_UF_film_90 : decode prog_1_method_27_code 90 = .ok (.aload_n 0, 1) := by decide +kernel
theorem d_UF_film_91 : decode prog_1_method_27_code 91 = .ok (.getfield 34, 3) := by decide +kernel
theorem d_UF_film_94 : decode prog_1_method_27_code 94 = .ok (.getfield 80, 3) := by decide +kernel
theorem d_UF_film_97 : decode prog_1_method_27_code 97 = .ok (.ireturn, 1) := by decide +kernel
def p_UF_film_51 (Q : Int32 → AH → Prop) : Nat → Int32 → Int32 → AH → Prop
  | 0 => fun _ _ _ => False
  | n + 1 => fun x1 x3 h => let K51 := p_UF_film_51 Q n; (((h.1 5 3) ≤ x3 → Q (h.1 5 3) h) ∧ (¬ (h.1 5 3) ≤ x3 → inb x1 4 ∧ 0 < rR T1 h 3 x1.toNatClampNeg ∧ inb x3 7 ∧ vA T1 h (rR T1 h 3 x1.toNatClampNeg - 1) ∧ (rS T1 h (rR T1 h 3 x1.toNatClampNeg - 1)).1 = 8 ∧ p_Sheet_write (fun h6 => K51 x1 (x3 + 1) h6) (rR T1 h 3 x1.toNatClampNeg - 1) x3 (h.1 15 x3) h))
def p_UF_film (Q : Int32 → AH → Prop) (x1 : Int32) (x2 : Int32) (h : AH) : Prop := p_UF_isSheet (fun r2 h1 => ((¬ r2 = 0 → p_UF_isSpan (fun r4 h3 => ((¬ r4 = 0 → p_UF_ready (fun h5 => p_Dusk_go (fun h6 => inb x1 4 ∧ 0 < rR T1 h6 3 x1.toNatClampNeg ∧ vA T1 h6 (rR T1 h6 3 x1.toNatClampNeg - 1) ∧ (rS T1 h6 (rR T1 h6 3 x1.toNatClampNeg - 1)).1 = 8 ∧ p_Sheet_renew (fun h11 => ∃ n, p_UF_film_51 Q   n x1 0 h11) (rR T1 h6 3 x1.toNatClampNeg - 1) 2 (h6.1 5 3) h6) x2 h5) h3) ∧ (r4 = 0 → Q (-7) h3))) x2 h1) ∧ (r2 = 0 → Q (-2) h1))) x1 h
set_option maxRecDepth 20000 in
theorem r_UF_film_51 {G : GG} {d : Nat} {Q : Int32 → AH → Prop} : ∀ (n : Nat) (x1 : Int32) (x3 : Int32) (h : AH), p_UF_film_51 Q n x1 x3 h → Att G T1 m_UF_film (d + 7) 51 [some (.ref 0), some (.int x1), none, some (.int x3)] [] h 0 0 (iQ Q) := by
  intro n
  induction n with
  | zero => intro x1 x3 h H; exact H.elim
  | succ n k51 =>
    intro x1 x3 h H
    refine A_iload_n d_UF_film_51 rfl ?_
    refine A_aload_n d_UF_film_52 rfl ?_
    refine A_get (v := .ref 5) d_UF_film_53 (fo_UF_34_11 rfl) (vA_s (by decide)) rfl (by first | rfl | (show Value.int _ = Value.int _; simp [wI, wL, wR, wC, up])) ?_
    refine A_get (v := .int (h.1 5 3)) d_UF_film_56 (fo_UF_80_10 rfl) (vA_s (by decide)) rfl (by first | rfl | (show Value.int _ = Value.int _; simp [wI, wL, wR, wC, up])) ?_
    refine A_icmp_ge 90 d_UF_film_59 (by decide) (fun z => ?_) (fun z => ?_)
    · have H := H.1 z
      refine A_aload_n d_UF_film_90 rfl ?_
      refine A_get (v := .ref 5) d_UF_film_91 (fo_UF_34_11 rfl) (vA_s (by decide)) rfl (by first | rfl | (show Value.int _ = Value.int _; simp [wI, wL, wR, wC, up])) ?_
      refine A_get (v := .int (h.1 5 3)) d_UF_film_94 (fo_UF_80_10 rfl) (vA_s (by decide)) rfl (by first | rfl | (show Value.int _ = Value.int _; simp [wI, wL, wR, wC, up])) ?_
      exact A_iret d_UF_film_97 rfl rfl H
    · have H := H.2 z
      refine A_aload_n d_UF_film_62 rfl ?_
      refine A_get (v := .ref 3) d_UF_film_63 (fo_UF_23_11 rfl) (vA_s (by decide)) rfl (by first | rfl | (show Value.int _ = Value.int _; simp [wI, wL, wR, wC, up])) ?_
      refine A_iload_n d_UF_film_66 rfl ?_
      obtain ⟨c1, H⟩ := H
      obtain ⟨c2, H⟩ := H
      refine A_aald (t := 2) (n := 4) d_UF_film_67 (by decide) (vA_s (by decide)) rfl c1 (pos_sub c2) ?_
      refine A_iload_n d_UF_film_68 rfl ?_
      refine A_aload_n d_UF_film_69 rfl ?_
      refine A_get (v := .ref 13) d_UF_film_70 (fo_UF_44_11 rfl) (vA_s (by decide)) rfl (by first | rfl | (show Value.int _ = Value.int _; simp [wI, wL, wR, wC, up])) ?_
      refine A_get (v := .ref 14) d_UF_film_73 (fo_UF_149_2 rfl) (vA_s (by decide)) rfl (by first | rfl | (show Value.int _ = Value.int _; simp [wI, wL, wR, wC, up])) ?_
      refine A_get (v := .ref 15) d_UF_film_76 (fo_UF_121_10 rfl) (vA_s (by decide)) rfl (by first | rfl | (show Value.int _ = Value.int _; simp [wI, wL, wR, wC, up])) ?_
      refine A_iload_n d_UF_film_79 rfl ?_
      obtain ⟨c3, H⟩ := H
      refine A_ialdv (n := 7) (v := (h.1 15 x3)) d_UF_film_80 (vA_s (by decide)) rfl c3 rfl ?_
      obtain ⟨c4, H⟩ := H
      obtain ⟨c5, H⟩ := H
      refine A_cV [.ref (rR T1 h 3 x1.toNatClampNeg - 1), .int x3, .int (h.1 15 x3)] [] (ct_UF_217 rfl) d_UF_film_81 rfl rfl (by decide) (Nat.le_of_ble_eq_true rfl) (rcA_o (c := 8) rfl c4 c5 (by decide) rfl) (ok_Sheet_write (d := d + 5) H) (fun h6 H => ?_)
      refine A_iinc 1 [some (.ref 0), some (.int x1), none, some (.int (x3 + 1))] d_UF_film_84 rfl (by decide) (by decide) rfl rfl ?_
      refine A_goto 51 d_UF_film_87 (by decide) ?_
      exact k51 _ _ _ H
set_option maxRecDepth 20000 in
theorem r_UF_film_0 {G : GG} {d : Nat} {Q : Int32 → AH → Prop} (x1 : Int32) (x2 : Int32) (h : AH) (H : p_UF_film Q x1 x2 h) : Att G T1 m_UF_film (d + 7) 0 [some (.ref 0), some (.int x1), some (.int x2), none] [] h 0 0 (iQ Q) := by
  refine A_iload_n d_UF_film_0 rfl ?_
  refine A_cI [.int x1] [] (ct_UF_211 rfl) d_UF_film_1 rfl rfl (by decide) (Nat.le_of_ble_eq_true rfl) trivial (ok_UF_isSheet (d := d + 5) H) (fun r2 h1 H => ?_)
  refine A_if_ne 10 d_UF_film_4 (by decide) (fun z => ?_) (fun z => ?_)
  · have H := H.1 z
    refine A_iload_n d_UF_film_10 rfl ?_
    refine A_cI [.int x2] [] (ct_UF_143 rfl) d_UF_film_11 rfl rfl (by decide) (Nat.le_of_ble_eq_true rfl) trivial (ok_UF_isSpan (d := d + 5) H) (fun r4 h3 H => ?_)
    refine A_if_ne 20 d_UF_film_14 (by decide) (fun z => ?_) (fun z => ?_)
    · have H := H.1 z
      refine A_aload_n d_UF_film_20 rfl ?_
      refine A_cV [.ref 0] [] (ct_UF_110 rfl) d_UF_film_21 rfl rfl (by decide) (Nat.le_of_ble_eq_true rfl) (rcA_o (c := 11) rfl (vA_s (by decide)) rfl (by decide) rfl) (ok_UF_ready (d := d + 3) H) (fun h5 H => ?_)
      refine A_aload_n d_UF_film_24 rfl ?_
      refine A_get (v := .ref 13) d_UF_film_25 (fo_UF_44_11 rfl) (vA_s (by decide)) rfl (by first | rfl | (show Value.int _ = Value.int _; simp [wI, wL, wR, wC, up])) ?_
      refine A_iload_n d_UF_film_28 rfl ?_
      refine A_cV [.ref 13, .int x2] [] (ct_UF_146 rfl) d_UF_film_29 rfl rfl (by decide) (Nat.le_of_ble_eq_true rfl) (rcA_o (c := 2) rfl (vA_s (by decide)) rfl (by decide) rfl) (ok_Dusk_go (d := d) H) (fun h6 H => ?_)
      refine A_aload_n d_UF_film_32 rfl ?_
      refine A_get (v := .ref 3) d_UF_film_33 (fo_UF_23_11 rfl) (vA_s (by decide)) rfl (by first | rfl | (show Value.int _ = Value.int _; simp [wI, wL, wR, wC, up])) ?_
      refine A_iload_n d_UF_film_36 rfl ?_
      obtain ⟨c7, H⟩ := H
      obtain ⟨c8, H⟩ := H
      refine A_aald (t := 2) (n := 4) d_UF_film_37 (by decide) (vA_s (by decide)) rfl c7 (pos_sub c8) ?_
      refine A_iconst 2 (by decide) d_UF_film_38 ?_
      refine A_aload_n d_UF_film_39 rfl ?_
      refine A_get (v := .ref 5) d_UF_film_40 (fo_UF_34_11 rfl) (vA_s (by decide)) rfl (by first | rfl | (show Value.int _ = Value.int _; simp [wI, wL, wR, wC, up])) ?_
      refine A_get (v := .int (h6.1 5 3)) d_UF_film_43 (fo_UF_80_10 rfl) (vA_s (by decide)) rfl (by first | rfl | (show Value.int _ = Value.int _; simp [wI, wL, wR, wC, up])) ?_
      obtain ⟨c9, H⟩ := H
      obtain ⟨c10, H⟩ := H
      refine A_cV [.ref (rR T1 h6 3 x1.toNatClampNeg - 1), .int 2, .int (h6.1 5 3)] [] (ct_UF_214 rfl) d_UF_film_46 rfl rfl (by decide) (Nat.le_of_ble_eq_true rfl) (rcA_o (c := 8) rfl c9 c10 (by decide) rfl) (ok_Sheet_renew (d := d + 6) H) (fun h11 H => ?_)
      refine A_iconst 0 (by decide) d_UF_film_49 ?_
      refine A_istore_n [some (.ref 0), some (.int x1), some (.int x2), some (.int 0)] d_UF_film_50 (by decide) rfl rfl ?_
      refine A_sub (L' := [some (.ref 0), some (.int x1), none, some (.int 0)]) ⟨rfl, rfl, rfl, trivial⟩ ?_
      obtain ⟨n9, H⟩ := H
      exact r_UF_film_51   n9 _ _ _ H
    · have H := H.2 z
      refine A_bipush (-7) (by decide) d_UF_film_17 ?_
      exact A_iret d_UF_film_19 rfl rfl H
  · have H := H.2 z
    refine A_bipush (-2) (by decide) d_UF_film_7 ?_
    exact A_iret d_UF_film_9 rfl rfl H
set_option maxRecDepth 20000 in
theorem ok_UF_film {G : GG} {d : Nat} {Q : Int32 → AH → Prop} {x1 : Int32} {x2 : Int32} {h : AH} (H : p_UF_film Q x1 x2 h) : WP G T1 m_UF_film (d + 7) [.ref 0, .int x1, .int x2] h 0 0 (iQ Q) := by
  exact WP.enter 1 (by decide) rfl rfl (r_UF_film_0 x1 x2 h H)
theorem d_UF_drawn_0 : decode prog_1_method_28_code 0 = .ok (.iload_n 1, 1) := by decide +kernel
theorem d_UF_drawn_1 : decode prog_1_method_28_code 1 = .ok (.iload_n 2, 1) := by decide +kernel
theorem d_UF_drawn_2 : decode prog_1_method_28_code 2 = .ok (.iload_n 3, 1) := by decide +kernel
theorem d_UF_drawn_3 : decode prog_1_method_28_code 3 = .ok (.invokestatic 220, 3) := by decide +kernel
theorem d_UF_drawn_6 : decode prog_1_method_28_code 6 = .ok (.ifCond .ne 6, 3) := by decide +kernel
theorem d_UF_drawn_9 : decode prog_1_method_28_code 9 = .ok (.bipush (-2), 2) := by decide +kernel
theorem d_UF_drawn_11 : decode prog_1_method_28_code 11 = .ok (.ireturn, 1) := by decide +kernel
theorem d_UF_drawn_12 : decode prog_1_method_28_code 12 = .ok (.aload_n 0, 1) := by decide +kernel
theorem d_UF_drawn_13 : decode prog_1_method_28_code 13 = .ok (.iload_n 1, 1) := by decide +kernel
theorem d_UF_drawn_14 : decode prog_1_method_28_code 14 = .ok (.iload_n 2, 1) := by decide +kernel
theorem d_UF_drawn_15 : decode prog_1_method_28_code 15 = .ok (.iload_n 3, 1) := by decide +kernel
theorem d_UF_drawn_16 : decode prog_1_method_28_code 16 = .ok (.invokevirtual 223, 3) := by decide +kernel
theorem d_UF_drawn_19 : decode prog_1_method_28_code 19 = .ok (.ireturn, 1) := by decide +kernel
def p_UF_drawn (Q : Int32 → AH → Prop) (x1 : Int32) (x2 : Int32) (x3 : Int32) (h : AH) : Prop := p_UF_isDraw (fun r2 h1 => ((¬ r2 = 0 → p_UF_drawnDown (fun r4 h3 => Q r4 h3) x1 x2 x3 h1) ∧ (r2 = 0 → Q (-2) h1))) x1 x2 x3 h
set_option maxRecDepth 20000 in
theorem r_UF_drawn_0 {G : GG} {d : Nat} {Q : Int32 → AH → Prop} (x1 : Int32) (x2 : Int32) (x3 : Int32) (h : AH) (H : p_UF_drawn Q x1 x2 x3 h) : Att G T1 m_UF_drawn (d + 7) 0 [some (.ref 0), some (.int x1), some (.int x2), some (.int x3)] [] h 0 0 (iQ Q) := by
  refine A_iload_n d_UF_drawn_0 rfl ?_
  refine A_iload_n d_UF_drawn_1 rfl ?_
  refine A_iload_n d_UF_drawn_2 rfl ?_
  refine A_cI [.int x1, .int x2, .int x3] [] (ct_UF_220 rfl) d_UF_drawn_3 rfl rfl (by decide) (Nat.le_of_ble_eq_true rfl) trivial (ok_UF_isDraw (d := d + 4) H) (fun r2 h1 H => ?_)
  refine A_if_ne 12 d_UF_drawn_6 (by decide) (fun z => ?_) (fun z => ?_)
  · have H := H.1 z
    refine A_aload_n d_UF_drawn_12 rfl ?_
    refine A_iload_n d_UF_drawn_13 rfl ?_
    refine A_iload_n d_UF_drawn_14 rfl ?_
    refine A_iload_n d_UF_drawn_15 rfl ?_
    refine A_cI [.ref 0, .int x1, .int x2, .int x3] [] (ct_UF_223 rfl) d_UF_drawn_16 rfl rfl (by decide) (Nat.le_of_ble_eq_true rfl) (rcA_o (c := 11) rfl (vA_s (by decide)) rfl (by decide) rfl) (ok_UF_drawnDown (d := d) H) (fun r4 h3 H => ?_)
    exact A_iret d_UF_drawn_19 rfl rfl H
  · have H := H.2 z
    refine A_bipush (-2) (by decide) d_UF_drawn_9 ?_
    exact A_iret d_UF_drawn_11 rfl rfl H
set_option maxRecDepth 20000 in
theorem ok_UF_drawn {G : GG} {d : Nat} {Q : Int32 → AH → Prop} {x1 : Int32} {x2 : Int32} {x3 : Int32} {h : AH} (H : p_UF_drawn Q x1 x2 x3 h) : WP G T1 m_UF_drawn (d + 7) [.ref 0, .int x1, .int x2, .int x3] h 0 0 (iQ Q) := by
  exact WP.enter 0 (by decide) rfl rfl (r_UF_drawn_0 x1 x2 x3 h H)
theorem d_UF_odds_0 : decode prog_1_method_29_code 0 = .ok (.iload_n 1, 1) := by decide +kernel
theorem d_UF_odds_1 : decode prog_1_method_29_code 1 = .ok (.iload_n 2, 1) := by decide +kernel
theorem d_UF_odds_2 : decode prog_1_method_29_code 2 = .ok (.iload_n 3, 1) := by decide +kernel
theorem d_UF_odds_3 : decode prog_1_method_29_code 3 = .ok (.invokestatic 220, 3) := by decide +kernel
theorem d_UF_odds_6 : decode prog_1_method_29_code 6 = .ok (.ifCond .eq 13, 3) := by decide +kernel
theorem d_UF_odds_9 : decode prog_1_method_29_code 9 = .ok (.iload 4, 2) := by decide +kernel
theorem d_UF_odds_11 : decode prog_1_method_29_code 11 = .ok (.iconst 0, 1) := by decide +kernel
theorem d_UF_odds_12 : decode prog_1_method_29_code 12 = .ok (.iconst 1, 1) := by decide +kernel
theorem d_UF_odds_13 : decode prog_1_method_29_code 13 = .ok (.invokestatic 95, 3) := by decide +kernel
theorem d_UF_odds_16 : decode prog_1_method_29_code 16 = .ok (.ifCond .ne 7, 3) := by decide +kernel
theorem d_UF_odds_19 : decode prog_1_method_29_code 19 = .ok (.ldc2_w 226, 3) := by decide +kernel
theorem d_UF_odds_22 : decode prog_1_method_29_code 22 = .ok (.lreturn, 1) := by decide +kernel
theorem d_UF_odds_23 : decode prog_1_method_29_code 23 = .ok (.iconst 0, 1) := by decide +kernel
theorem d_UF_odds_24 : decode prog_1_method_29_code 24 = .ok (.istore 5, 2) := by decide +kernel
theorem d_UF_odds_26 : decode prog_1_method_29_code 26 = .ok (.iconst 0, 1) := by decide +kernel
theorem d_UF_odds_27 : decode prog_1_method_29_code 27 = .ok (.istore 6, 2) := by decide +kernel
theorem d_UF_odds_29 : decode prog_1_method_29_code 29 = .ok (.iload 6, 2) := by decide +kernel
theorem d_UF_odds_31 : decode prog_1_method_29_code 31 = .ok (.bipush 20, 2) := by decide +kernel
theorem d_UF_odds_33 : decode prog_1_method_29_code 33 = .ok (.if_icmp .ge 32, 3) := by decide +kernel
theorem d_UF_odds_36 : decode prog_1_method_29_code 36 = .ok (.aload_n 0, 1) := by decide +kernel
theorem d_UF_odds_37 : decode prog_1_method_29_code 37 = .ok (.iload_n 1, 1) := by decide +kernel
theorem d_UF_odds_38 : decode prog_1_method_29_code 38 = .ok (.iload 6, 2) := by decide +kernel
theorem d_UF_odds_40 : decode prog_1_method_29_code 40 = .ok (.iadd, 1) := by decide +kernel
theorem d_UF_odds_41 : decode prog_1_method_29_code 41 = .ok (.iload_n 2, 1) := by decide +kernel
theorem d_UF_odds_42 : decode prog_1_method_29_code 42 = .ok (.iload_n 3, 1) := by decide +kernel
theorem d_UF_odds_43 : decode prog_1_method_29_code 43 = .ok (.invokevirtual 223, 3) := by decide +kernel
theorem d_UF_odds_46 : decode prog_1_method_29_code 46 = .ok (.aload_n 0, 1) := by decide +kernel
theorem d_UF_odds_47 : decode prog_1_method_29_code 47 = .ok (.getfield 34, 3) := by decide +kernel
theorem d_UF_odds_50 : decode prog_1_method_29_code 50 = .ok (.getfield 80, 3) := by decide +kernel
theorem d_UF_odds_53 : decode prog_1_method_29_code 53 = .ok (.if_icmp .ne 6, 3) := by decide +kernel
theorem d_UF_odds_56 : decode prog_1_method_29_code 56 = .ok (.iinc 5 1, 3) := by decide +kernel
theorem d_UF_odds_59 : decode prog_1_method_29_code 59 = .ok (.iinc 6 1, 3) := by decide +kernel
theorem d_UF_odds_62 : decode prog_1_method_29_code 62 = .ok (.goto (-33), 3) := by decide +kernel
theorem d_UF_odds_65 : decode prog_1_method_29_code 65 = .ok (.iconst 1, 1) := by decide +kernel
theorem d_UF_odds_66 : decode prog_1_method_29_code 66 = .ok (.istore 6, 2) := by decide +kernel
theorem d_UF_odds_68 : decode prog_1_method_29_code 68 = .ok (.iconst 2, 1) := by decide +kernel
theorem d_UF_odds_69 : decode prog_1_method_29_code 69 = .ok (.istore 7, 2) := by decide +kernel
theorem d_UF_odds_71 : decode prog_1_method_29_code 71 = .ok (.iload 7, 2) := by decide +kernel
theorem d_UF_odds_73 : decode prog_1_method_29_code 73 = .ok (.bipush 20, 2) := by decide +kernel
theorem d_UF_odds_75 : decode prog_1_method_29_code 75 = .ok (.if_icmp .gt 29, 3) := by decide +kernel
theorem d_UF_odds_78 : decode prog_1_method_29_code 78 = .ok (.iload 5, 2) := by decide +kernel
theorem d_UF_odds_80 : decode prog_1_method_29_code 80 = .ok (.iload 7, 2) := by decide +kernel
theorem d_UF_odds_82 : decode prog_1_method_29_code 82 = .ok (.irem, 1) := by decide +kernel
theorem d_UF_odds_83 : decode prog_1_method_29_code 83 = .ok (.ifCond .ne 15, 3) := by decide +kernel
theorem d_UF_odds_86 : decode prog_1_method_29_code 86 = .ok (.bipush 20, 2) := by decide +kernel
theorem d_UF_odds_88 : decode prog_1_method_29_code 88 = .ok (.iload 7, 2) := by decide +kernel
theorem d_UF_odds_90 : decode prog_1_method_29_code 90 = .ok (.irem, 1) := by decide +kernel
theorem d_UF_odds_91 : decode prog_1_method_29_code 91 = .ok (.ifCond .ne 7, 3) := by decide +kernel
theorem d_UF_odds_94 : decode prog_1_method_29_code 94 = .ok (.iload 7, 2) := by decide +kernel
theorem d_UF_odds_96 : decode prog_1_method_29_code 96 = .ok (.istore 6, 2) := by decide +kernel
theorem d_UF_odds_98 : decode prog_1_method_29_code 98 = .ok (.iinc 7 1, 3) := by decide +kernel
theorem d_UF_odds_101 : decode prog_1_method_29_code 101 = .ok (.goto (-30), 3) := by decide +kernel
theorem d_UF_odds_104 : decode prog_1_method_29_code 104 = .ok (.iload 4, 2) := by decide +kernel
theorem d_UF_odds_106 : decode prog_1_method_29_code 106 = .ok (.ifCond .ne 8, 3) := by decide +kernel
theorem d_UF_odds_109 : decode prog_1_method_29_code 109 = .ok (.iload 5, 2) := by decide +kernel
theorem d_UF_odds_111 : decode prog_1_method_29_code 111 = .ok (.goto 5, 3) := by decide +kernel
theorem d_UF_odds_114 : decode prog_1_method_29_code 114 = .ok (.bipush 20, 2) := by decide +kernel
theorem d_UF_odds_116 : decode prog_1_method_29_code 116 = .ok (.iload 6, 2) := by decide +kernel
theorem d_UF_odds_118 : decode prog_1_method_29_code 118 = .ok (.idiv, 1) := by decide +kernel
theorem d_UF_odds_119 : decode prog_1_method_29_code 119 = .ok (.i2l, 1) := by decide +kernel
theorem d_UF_odds_120 : decode prog_1_method_29_code 120 = .ok (.lreturn, 1) := by decide +kernel
def p_UF_odds_98 (Q : Int64 → AH → Prop) (K71 : Int32 → Int32 → Int32 → Int32 → AH → Prop) (x4 : Int32) (x5 : Int32) (x6 : Int32) (x7 : Int32) (h : AH) : Prop := K71 x4 x5 x6 (x7 + 1) h
def p_UF_odds_71 (Q : Int64 → AH → Prop) : Nat → Int32 → Int32 → Int32 → Int32 → AH → Prop
  | 0 => fun _ _ _ _ _ => False
  | n + 1 => fun x4 x5 x6 x7 h => let K71 := p_UF_odds_71 Q n; ((20 < x7 → ((¬ x4 = 0 → (¬ x6 = 0) ∧ Q ((20 / x6).toInt64) h) ∧ (x4 = 0 → (¬ x6 = 0) ∧ Q ((x5 / x6).toInt64) h))) ∧ (¬ 20 < x7 → (¬ x7 = 0) ∧ ((¬ (x5 - x5 / x7 * x7) = 0 → p_UF_odds_98 Q  K71 x4 x5 x6 x7 h) ∧ ((x5 - x5 / x7 * x7) = 0 → ((¬ (20 - 20 / x7 * x7) = 0 → p_UF_odds_98 Q  K71 x4 x5 x6 x7 h) ∧ ((20 - 20 / x7 * x7) = 0 → p_UF_odds_98 Q  K71 x4 x5 x7 x7 h))))))
def p_UF_odds_59 (Q : Int64 → AH → Prop) (K29 : Int32 → Int32 → Int32 → Int32 → Int32 → Int32 → AH → Prop) (x1 : Int32) (x2 : Int32) (x3 : Int32) (x4 : Int32) (x5 : Int32) (x6 : Int32) (h : AH) : Prop := K29 x1 x2 x3 x4 x5 (x6 + 1) h
def p_UF_odds_29 (Q : Int64 → AH → Prop) : Nat → Int32 → Int32 → Int32 → Int32 → Int32 → Int32 → AH → Prop
  | 0 => fun _ _ _ _ _ _ _ => False
  | n + 1 => fun x1 x2 x3 x4 x5 x6 h => let K29 := p_UF_odds_29 Q n; ((20 ≤ x6 → ∃ n, p_UF_odds_71 Q   n x4 x5 1 2 h) ∧ (¬ 20 ≤ x6 → p_UF_drawnDown (fun r2 h1 => ((¬ r2 = (h1.1 5 3) → p_UF_odds_59 Q  K29 x1 x2 x3 x4 x5 x6 h1) ∧ (r2 = (h1.1 5 3) → p_UF_odds_59 Q  K29 x1 x2 x3 x4 (x5 + 1) x6 h1))) (x1 + x6) x2 x3 h))
def p_UF_odds (Q : Int64 → AH → Prop) (x1 : Int32) (x2 : Int32) (x3 : Int32) (x4 : Int32) (h : AH) : Prop := p_UF_isDraw (fun r2 h1 => ((r2 = 0 → Q (-4611686018427387904) h1) ∧ (¬ r2 = 0 → p_UF_within (fun r4 h3 => ((¬ r4 = 0 → ∃ n, p_UF_odds_29 Q   n x1 x2 x3 x4 0 0 h3) ∧ (r4 = 0 → Q (-4611686018427387904) h3))) x4 0 1 h1))) x1 x2 x3 h
set_option maxRecDepth 20000 in
theorem r_UF_odds_98 {G : GG} {d : Nat} {Q : Int64 → AH → Prop} {K71 : Int32 → Int32 → Int32 → Int32 → AH → Prop} (k71 : ∀ x4 x5 x6 x7 h, K71 x4 x5 x6 x7 h → Att G T1 m_UF_odds (d + 7) 71 [none, none, none, none, some (.int x4), some (.int x5), some (.int x6), some (.int x7)] [] h 0 0 (lQ Q)) (x4 : Int32) (x5 : Int32) (x6 : Int32) (x7 : Int32) (h : AH) (H : p_UF_odds_98 Q K71 x4 x5 x6 x7 h) : Att G T1 m_UF_odds (d + 7) 98 [none, none, none, none, some (.int x4), some (.int x5), some (.int x6), some (.int x7)] [] h 0 0 (lQ Q) := by
  refine A_iinc 1 [none, none, none, none, some (.int x4), some (.int x5), some (.int x6), some (.int (x7 + 1))] d_UF_odds_98 rfl (by decide) (by decide) rfl rfl ?_
  refine A_goto 71 d_UF_odds_101 (by decide) ?_
  exact k71 _ _ _ _ _ H
set_option maxRecDepth 20000 in
theorem r_UF_odds_71 {G : GG} {d : Nat} {Q : Int64 → AH → Prop} : ∀ (n : Nat) (x4 : Int32) (x5 : Int32) (x6 : Int32) (x7 : Int32) (h : AH), p_UF_odds_71 Q n x4 x5 x6 x7 h → Att G T1 m_UF_odds (d + 7) 71 [none, none, none, none, some (.int x4), some (.int x5), some (.int x6), some (.int x7)] [] h 0 0 (lQ Q) := by
  intro n
  induction n with
  | zero => intro x4 x5 x6 x7 h H; exact H.elim
  | succ n k71 =>
    intro x4 x5 x6 x7 h H
    refine A_iload d_UF_odds_71 rfl ?_
    refine A_bipush 20 (by decide) d_UF_odds_73 ?_
    refine A_icmp_gt 104 d_UF_odds_75 (by decide) (fun z => ?_) (fun z => ?_)
    · have H := H.1 z
      refine A_iload d_UF_odds_104 rfl ?_
      refine A_if_ne 114 d_UF_odds_106 (by decide) (fun z => ?_) (fun z => ?_)
      · have H := H.1 z
        refine A_bipush 20 (by decide) d_UF_odds_114 ?_
        refine A_iload d_UF_odds_116 rfl ?_
        obtain ⟨c1, H⟩ := H
        refine A_idiv c1 d_UF_odds_118 ?_
        refine A_i2l d_UF_odds_119 ?_
        exact A_lret d_UF_odds_120 rfl H
      · have H := H.2 z
        refine A_iload d_UF_odds_109 rfl ?_
        refine A_goto 116 d_UF_odds_111 (by decide) ?_
        refine A_iload d_UF_odds_116 rfl ?_
        obtain ⟨c2, H⟩ := H
        refine A_idiv c2 d_UF_odds_118 ?_
        refine A_i2l d_UF_odds_119 ?_
        exact A_lret d_UF_odds_120 rfl H
    · have H := H.2 z
      refine A_iload d_UF_odds_78 rfl ?_
      refine A_iload d_UF_odds_80 rfl ?_
      obtain ⟨c3, H⟩ := H
      refine A_irem c3 d_UF_odds_82 ?_
      refine A_if_ne 98 d_UF_odds_83 (by decide) (fun z => ?_) (fun z => ?_)
      · have H := H.1 z
        exact r_UF_odds_98  k71 _ _ _ _ _ H
      · have H := H.2 z
        refine A_bipush 20 (by decide) d_UF_odds_86 ?_
        refine A_iload d_UF_odds_88 rfl ?_
        refine A_irem c3 d_UF_odds_90 ?_
        refine A_if_ne 98 d_UF_odds_91 (by decide) (fun z => ?_) (fun z => ?_)
        · have H := H.1 z
          exact r_UF_odds_98  k71 _ _ _ _ _ H
        · have H := H.2 z
          refine A_iload d_UF_odds_94 rfl ?_
          refine A_istore [none, none, none, none, some (.int x4), some (.int x5), some (.int x7), some (.int x7)] d_UF_odds_96 (by decide) rfl rfl ?_
          exact r_UF_odds_98  k71 _ _ _ _ _ H
set_option maxRecDepth 20000 in
theorem r_UF_odds_59 {G : GG} {d : Nat} {Q : Int64 → AH → Prop} {K29 : Int32 → Int32 → Int32 → Int32 → Int32 → Int32 → AH → Prop} (k29 : ∀ x1 x2 x3 x4 x5 x6 h, K29 x1 x2 x3 x4 x5 x6 h → Att G T1 m_UF_odds (d + 7) 29 [some (.ref 0), some (.int x1), some (.int x2), some (.int x3), some (.int x4), some (.int x5), some (.int x6), none] [] h 0 0 (lQ Q)) (x1 : Int32) (x2 : Int32) (x3 : Int32) (x4 : Int32) (x5 : Int32) (x6 : Int32) (h : AH) (H : p_UF_odds_59 Q K29 x1 x2 x3 x4 x5 x6 h) : Att G T1 m_UF_odds (d + 7) 59 [some (.ref 0), some (.int x1), some (.int x2), some (.int x3), some (.int x4), some (.int x5), some (.int x6), none] [] h 0 0 (lQ Q) := by
  refine A_iinc 1 [some (.ref 0), some (.int x1), some (.int x2), some (.int x3), some (.int x4), some (.int x5), some (.int (x6 + 1)), none] d_UF_odds_59 rfl (by decide) (by decide) rfl rfl ?_
  refine A_goto 29 d_UF_odds_62 (by decide) ?_
  exact k29 _ _ _ _ _ _ _ H
set_option maxRecDepth 20000 in
theorem r_UF_odds_29 {G : GG} {d : Nat} {Q : Int64 → AH → Prop} : ∀ (n : Nat) (x1 : Int32) (x2 : Int32) (x3 : Int32) (x4 : Int32) (x5 : Int32) (x6 : Int32) (h : AH), p_UF_odds_29 Q n x1 x2 x3 x4 x5 x6 h → Att G T1 m_UF_odds (d + 7) 29 [some (.ref 0), some (.int x1), some (.int x2), some (.int x3), some (.int x4), some (.int x5), some (.int x6), none] [] h 0 0 (lQ Q) := by
  intro n
  induction n with
  | zero => intro x1 x2 x3 x4 x5 x6 h H; exact H.elim
  | succ n k29 =>
    intro x1 x2 x3 x4 x5 x6 h H
    refine A_iload d_UF_odds_29 rfl ?_
    refine A_bipush 20 (by decide) d_UF_odds_31 ?_
    refine A_icmp_ge 65 d_UF_odds_33 (by decide) (fun z => ?_) (fun z => ?_)
    · have H := H.1 z
      refine A_iconst 1 (by decide) d_UF_odds_65 ?_
      refine A_istore [some (.ref 0), some (.int x1), some (.int x2), some (.int x3), some (.int x4), some (.int x5), some (.int 1), none] d_UF_odds_66 (by decide) rfl rfl ?_
      refine A_iconst 2 (by decide) d_UF_odds_68 ?_
      refine A_istore [some (.ref 0), some (.int x1), some (.int x2), some (.int x3), some (.int x4), some (.int x5), some (.int 1), some (.int 2)] d_UF_odds_69 (by decide) rfl rfl ?_
      refine A_sub (L' := [none, none, none, none, some (.int x4), some (.int x5), some (.int 1), some (.int 2)]) ⟨rfl, rfl, rfl, rfl, trivial⟩ ?_
      obtain ⟨n9, H⟩ := H
      exact r_UF_odds_71   n9 _ _ _ _ _ H
    · have H := H.2 z
      refine A_aload_n d_UF_odds_36 rfl ?_
      refine A_iload_n d_UF_odds_37 rfl ?_
      refine A_iload d_UF_odds_38 rfl ?_
      refine A_iadd d_UF_odds_40 ?_
      refine A_iload_n d_UF_odds_41 rfl ?_
      refine A_iload_n d_UF_odds_42 rfl ?_
      refine A_cI [.ref 0, .int (x1 + x6), .int x2, .int x3] [] (ct_UF_223 rfl) d_UF_odds_43 rfl rfl (by decide) (Nat.le_of_ble_eq_true rfl) (rcA_o (c := 11) rfl (vA_s (by decide)) rfl (by decide) rfl) (ok_UF_drawnDown (d := d) H) (fun r2 h1 H => ?_)
      refine A_aload_n d_UF_odds_46 rfl ?_
      refine A_get (v := .ref 5) d_UF_odds_47 (fo_UF_34_11 rfl) (vA_s (by decide)) rfl (by first | rfl | (show Value.int _ = Value.int _; simp [wI, wL, wR, wC, up])) ?_
      refine A_get (v := .int (h1.1 5 3)) d_UF_odds_50 (fo_UF_80_10 rfl) (vA_s (by decide)) rfl (by first | rfl | (show Value.int _ = Value.int _; simp [wI, wL, wR, wC, up])) ?_
      refine A_icmp_ne 59 d_UF_odds_53 (by decide) (fun z => ?_) (fun z => ?_)
      · have H := H.1 z
        exact r_UF_odds_59  k29 _ _ _ _ _ _ _ H
      · have H := H.2 z
        refine A_iinc 1 [some (.ref 0), some (.int x1), some (.int x2), some (.int x3), some (.int x4), some (.int (x5 + 1)), some (.int x6), none] d_UF_odds_56 rfl (by decide) (by decide) rfl rfl ?_
        exact r_UF_odds_59  k29 _ _ _ _ _ _ _ H
set_option maxRecDepth 20000 in
theorem r_UF_odds_0 {G : GG} {d : Nat} {Q : Int64 → AH → Prop} (x1 : Int32) (x2 : Int32) (x3 : Int32) (x4 : Int32) (h : AH) (H : p_UF_odds Q x1 x2 x3 x4 h) : Att G T1 m_UF_odds (d + 7) 0 [some (.ref 0), some (.int x1), some (.int x2), some (.int x3), some (.int x4), none, none, none] [] h 0 0 (lQ Q) := by
  refine A_iload_n d_UF_odds_0 rfl ?_
  refine A_iload_n d_UF_odds_1 rfl ?_
  refine A_iload_n d_UF_odds_2 rfl ?_
  refine A_cI [.int x1, .int x2, .int x3] [] (ct_UF_220 rfl) d_UF_odds_3 rfl rfl (by decide) (Nat.le_of_ble_eq_true rfl) trivial (ok_UF_isDraw (d := d + 4) H) (fun r2 h1 H => ?_)
  refine A_if_eq 19 d_UF_odds_6 (by decide) (fun z => ?_) (fun z => ?_)
  · have H := H.1 z
    refine A_ldc2 (-4611686018427387904) d_UF_odds_19 (tG 783 (by decide +kernel) (by decide +kernel)) ?_
    exact A_lret d_UF_odds_22 rfl H
  · have H := H.2 z
    refine A_iload d_UF_odds_9 rfl ?_
    refine A_iconst 0 (by decide) d_UF_odds_11 ?_
    refine A_iconst 1 (by decide) d_UF_odds_12 ?_
    refine A_cI [.int x4, .int 0, .int 1] [] (ct_UF_95 rfl) d_UF_odds_13 rfl rfl (by decide) (Nat.le_of_ble_eq_true rfl) trivial (ok_UF_within (d := d + 6) H) (fun r4 h3 H => ?_)
    refine A_if_ne 23 d_UF_odds_16 (by decide) (fun z => ?_) (fun z => ?_)
    · have H := H.1 z
      refine A_iconst 0 (by decide) d_UF_odds_23 ?_
      refine A_istore [some (.ref 0), some (.int x1), some (.int x2), some (.int x3), some (.int x4), some (.int 0), none, none] d_UF_odds_24 (by decide) rfl rfl ?_
      refine A_iconst 0 (by decide) d_UF_odds_26 ?_
      refine A_istore [some (.ref 0), some (.int x1), some (.int x2), some (.int x3), some (.int x4), some (.int 0), some (.int 0), none] d_UF_odds_27 (by decide) rfl rfl ?_
      obtain ⟨n9, H⟩ := H
      exact r_UF_odds_29   n9 _ _ _ _ _ _ _ H
    · have H := H.2 z
      refine A_ldc2 (-4611686018427387904) d_UF_odds_19 (tG 783 (by decide +kernel) (by decide +kernel)) ?_
      exact A_lret d_UF_odds_22 rfl H
set_option maxRecDepth 20000 in
theorem ok_UF_odds {G : GG} {d : Nat} {Q : Int64 → AH → Prop} {x1 : Int32} {x2 : Int32} {x3 : Int32} {x4 : Int32} {h : AH} (H : p_UF_odds Q x1 x2 x3 x4 h) : WP G T1 m_UF_odds (d + 7) [.ref 0, .int x1, .int x2, .int x3, .int x4] h 0 0 (lQ Q) := by
  exact WP.enter 3 (by decide) rfl rfl (r_UF_odds_0 x1 x2 x3 x4 h H)
theorem d_MO_lives_0 : decode prog_14_method_44_code 0 = .ok (.aload_n 0, 1) := by decide +kernel
theorem d_MO_lives_1 : decode prog_14_method_44_code 1 = .ok (.iconst (-1), 1) := by decide +kernel
theorem d_MO_lives_2 : decode prog_14_method_44_code 2 = .ok (.putfield 212, 3) := by decide +kernel
theorem d_MO_lives_5 : decode prog_14_method_44_code 5 = .ok (.aload_n 0, 1) := by decide +kernel
theorem d_MO_lives_6 : decode prog_14_method_44_code 6 = .ok (.iload_n 1, 1) := by decide +kernel
theorem d_MO_lives_7 : decode prog_14_method_44_code 7 = .ok (.invokevirtual 238, 3) := by decide +kernel
theorem d_MO_lives_10 : decode prog_14_method_44_code 10 = .ok (.return_, 1) := by decide +kernel
def p_MO_lives (Q : AH → Prop) (x1 : Int32) (h : AH) : Prop := p_MO_livesBy (fun h1 => Q h1) x1 (wI h 59 37 (-1))
set_option maxRecDepth 20000 in
theorem r_MO_lives_0 {G : GG} {d : Nat} {Q : AH → Prop} (x1 : Int32) (h : AH) (H : p_MO_lives Q x1 h) : Att G T1 m_MO_lives (d + 7) 0 [some (.ref 59), some (.int x1)] [] h 0 0 (vQ Q) := by
  refine A_aload_n d_MO_lives_0 rfl ?_
  refine A_iconst (-1) (by decide) d_MO_lives_1 ?_
  refine A_putI (k := 37) d_MO_lives_2 (fo_MO_212_12 rfl) (Or.inr ⟨rfl, _, ft_12_37⟩) (fun z => by cases z) rfl (vA_s (by decide)) rfl rfl rfl ?_
  refine A_aload_n d_MO_lives_5 rfl ?_
  refine A_iload_n d_MO_lives_6 rfl ?_
  refine A_cV [.ref 59, .int x1] [] (ct_MO_238 rfl) d_MO_lives_7 rfl rfl (by decide) (Nat.le_of_ble_eq_true rfl) (rcA_o (c := 12) rfl (vA_s (by decide)) rfl (by decide) rfl) (ok_MO_livesBy (d := d) H) (fun h1 H => ?_)
  exact A_ret d_MO_lives_10 rfl H
set_option maxRecDepth 20000 in
theorem ok_MO_lives {G : GG} {d : Nat} {Q : AH → Prop} {x1 : Int32} {h : AH} (H : p_MO_lives Q x1 h) : WP G T1 m_MO_lives (d + 7) [.ref 59, .int x1] h 0 0 (vQ Q) := by
  exact WP.enter 0 (by decide) rfl rfl (r_MO_lives_0 x1 h H)
theorem d_MO_downsBy_0 : decode prog_14_method_71_code 0 = .ok (.aload_n 0, 1) := by decide +kernel
theorem d_MO_downsBy_1 : decode prog_14_method_71_code 1 = .ok (.iload_n 1, 1) := by decide +kernel
theorem d_MO_downsBy_2 : decode prog_14_method_71_code 2 = .ok (.i2l, 1) := by decide +kernel
theorem d_MO_downsBy_3 : decode prog_14_method_71_code 3 = .ok (.lconst 1, 1) := by decide +kernel
theorem d_MO_downsBy_4 : decode prog_14_method_71_code 4 = .ok (.ladd, 1) := by decide +kernel
theorem d_MO_downsBy_5 : decode prog_14_method_71_code 5 = .ok (.putfield 215, 3) := by decide +kernel
theorem d_MO_downsBy_8 : decode prog_14_method_71_code 8 = .ok (.aload_n 0, 1) := by decide +kernel
theorem d_MO_downsBy_9 : decode prog_14_method_71_code 9 = .ok (.iload_n 3, 1) := by decide +kernel
theorem d_MO_downsBy_10 : decode prog_14_method_71_code 10 = .ok (.putfield 212, 3) := by decide +kernel
theorem d_MO_downsBy_13 : decode prog_14_method_71_code 13 = .ok (.aload_n 0, 1) := by decide +kernel
theorem d_MO_downsBy_14 : decode prog_14_method_71_code 14 = .ok (.iload_n 2, 1) := by decide +kernel
theorem d_MO_downsBy_15 : decode prog_14_method_71_code 15 = .ok (.invokevirtual 238, 3) := by decide +kernel
theorem d_MO_downsBy_18 : decode prog_14_method_71_code 18 = .ok (.aload_n 0, 1) := by decide +kernel
theorem d_MO_downsBy_19 : decode prog_14_method_71_code 19 = .ok (.invokevirtual 250, 3) := by decide +kernel
theorem d_MO_downsBy_22 : decode prog_14_method_71_code 22 = .ok (.ireturn, 1) := by decide +kernel
def p_MO_downsBy (Q : Int32 → AH → Prop) (x1 : Int32) (x2 : Int32) (x3 : Int32) (h : AH) : Prop := p_MO_livesBy (fun h1 => p_MO_downNow (fun r3 h2 => Q r3 h2) h1) x2 (wI (wL h 59 38 (x1.toInt64 + 1)) 59 37 x3)
set_option maxRecDepth 20000 in
theorem r_MO_downsBy_0 {G : GG} {d : Nat} {Q : Int32 → AH → Prop} (x1 : Int32) (x2 : Int32) (x3 : Int32) (h : AH) (H : p_MO_downsBy Q x1 x2 x3 h) : Att G T1 m_MO_downsBy (d + 7) 0 [some (.ref 59), some (.int x1), some (.int x2), some (.int x3)] [] h 0 0 (iQ Q) := by
  refine A_aload_n d_MO_downsBy_0 rfl ?_
  refine A_iload_n d_MO_downsBy_1 rfl ?_
  refine A_i2l d_MO_downsBy_2 ?_
  refine A_lconst 1 (by decide) d_MO_downsBy_3 ?_
  refine A_ladd d_MO_downsBy_4 ?_
  refine A_putL (k := 38) d_MO_downsBy_5 (fo_MO_215_12 rfl) ft_12_38 rfl (vA_s (by decide)) rfl ?_
  refine A_aload_n d_MO_downsBy_8 rfl ?_
  refine A_iload_n d_MO_downsBy_9 rfl ?_
  refine A_putI (k := 37) d_MO_downsBy_10 (fo_MO_212_12 rfl) (Or.inr ⟨rfl, _, ft_12_37⟩) (fun z => by cases z) rfl (vA_s (by decide)) rfl rfl rfl ?_
  refine A_aload_n d_MO_downsBy_13 rfl ?_
  refine A_iload_n d_MO_downsBy_14 rfl ?_
  refine A_cV [.ref 59, .int x2] [] (ct_MO_238 rfl) d_MO_downsBy_15 rfl rfl (by decide) (Nat.le_of_ble_eq_true rfl) (rcA_o (c := 12) rfl (vA_s (by decide)) rfl (by decide) rfl) (ok_MO_livesBy (d := d) H) (fun h1 H => ?_)
  refine A_aload_n d_MO_downsBy_18 rfl ?_
  refine A_cI [.ref 59] [] (ct_MO_250 rfl) d_MO_downsBy_19 rfl rfl (by decide) (Nat.le_of_ble_eq_true rfl) (rcA_o (c := 12) rfl (vA_s (by decide)) rfl (by decide) rfl) (ok_MO_downNow (d := d + 6) H) (fun r3 h2 H => ?_)
  exact A_iret d_MO_downsBy_22 rfl rfl H
set_option maxRecDepth 20000 in
theorem ok_MO_downsBy {G : GG} {d : Nat} {Q : Int32 → AH → Prop} {x1 : Int32} {x2 : Int32} {x3 : Int32} {h : AH} (H : p_MO_downsBy Q x1 x2 x3 h) : WP G T1 m_MO_downsBy (d + 7) [.ref 59, .int x1, .int x2, .int x3] h 0 0 (iQ Q) := by
  exact WP.enter 0 (by decide) rfl rfl (r_MO_downsBy_0 x1 x2 x3 h H)
theorem d_Reader_take_0 : decode prog_9_method_3_code 0 = .ok (.aload_n 0, 1) := by decide +kernel
theorem d_Reader_take_1 : decode prog_9_method_3_code 1 = .ok (.getfield 53, 3) := by decide +kernel
theorem d_Reader_take_4 : decode prog_9_method_3_code 4 = .ok (.iload_n 1, 1) := by decide +kernel
theorem d_Reader_take_5 : decode prog_9_method_3_code 5 = .ok (.if_icmp .eq 5, 3) := by decide +kernel
theorem d_Reader_take_8 : decode prog_9_method_3_code 8 = .ok (.iconst 0, 1) := by decide +kernel
theorem d_Reader_take_9 : decode prog_9_method_3_code 9 = .ok (.ireturn, 1) := by decide +kernel
theorem d_Reader_take_10 : decode prog_9_method_3_code 10 = .ok (.aload_n 0, 1) := by decide +kernel
theorem d_Reader_take_11 : decode prog_9_method_3_code 11 = .ok (.invokevirtual 37, 3) := by decide +kernel
theorem d_Reader_take_14 : decode prog_9_method_3_code 14 = .ok (.iconst 1, 1) := by decide +kernel
theorem d_Reader_take_15 : decode prog_9_method_3_code 15 = .ok (.ireturn, 1) := by decide +kernel
def p_Reader_take (Q : Int32 → AH → Prop) (x1 : Int32) (h : AH) : Prop := (((h.1 25 5) = x1 → p_Reader_next (fun h1 => Q 1 h1) h) ∧ (¬ (h.1 25 5) = x1 → Q 0 h))
set_option maxRecDepth 20000 in
theorem r_Reader_take_0 {G : GG} {d : Nat} {Q : Int32 → AH → Prop} (x1 : Int32) (h : AH) (H : p_Reader_take Q x1 h) : Att G T1 m_Reader_take (d + 8) 0 [some (.ref 25), some (.int x1)] [] h 0 0 (iQ Q) := by
  refine A_aload_n d_Reader_take_0 rfl ?_
  refine A_get (v := .int (h.1 25 5)) d_Reader_take_1 (fo_Reader_53_7 rfl) (vA_s (by decide)) rfl (by first | rfl | (show Value.int _ = Value.int _; simp [wI, wL, wR, wC, up])) ?_
  refine A_iload_n d_Reader_take_4 rfl ?_
  refine A_icmp_eq 10 d_Reader_take_5 (by decide) (fun z => ?_) (fun z => ?_)
  · have H := H.1 z
    refine A_aload_n d_Reader_take_10 rfl ?_
    refine A_cV [.ref 25] [] (ct_Reader_37 rfl) d_Reader_take_11 rfl rfl (by decide) (Nat.le_of_ble_eq_true rfl) (rcA_o (c := 7) rfl (vA_s (by decide)) rfl (by decide) rfl) (ok_Reader_next (d := d) H) (fun h1 H => ?_)
    refine A_iconst 1 (by decide) d_Reader_take_14 ?_
    exact A_iret d_Reader_take_15 rfl rfl H
  · have H := H.2 z
    refine A_iconst 0 (by decide) d_Reader_take_8 ?_
    exact A_iret d_Reader_take_9 rfl rfl H
set_option maxRecDepth 20000 in
theorem ok_Reader_take {G : GG} {d : Nat} {Q : Int32 → AH → Prop} {x1 : Int32} {h : AH} (H : p_Reader_take Q x1 h) : WP G T1 m_Reader_take (d + 8) [.ref 25, .int x1] h 0 0 (iQ Q) := by
  exact WP.enter 0 (by decide) rfl rfl (r_Reader_take_0 x1 h H)
theorem d_Reader_either_0 : decode prog_9_method_4_code 0 = .ok (.aload_n 0, 1) := by decide +kernel
theorem d_Reader_either_1 : decode prog_9_method_4_code 1 = .ok (.iload_n 1, 1) := by decide +kernel
theorem d_Reader_either_2 : decode prog_9_method_4_code 2 = .ok (.invokevirtual 56, 3) := by decide +kernel
theorem d_Reader_either_5 : decode prog_9_method_4_code 5 = .ok (.ifCond .ne 5, 3) := by decide +kernel
theorem d_Reader_either_8 : decode prog_9_method_4_code 8 = .ok (.iconst 0, 1) := by decide +kernel
theorem d_Reader_either_9 : decode prog_9_method_4_code 9 = .ok (.ireturn, 1) := by decide +kernel
theorem d_Reader_either_10 : decode prog_9_method_4_code 10 = .ok (.iconst 0, 1) := by decide +kernel
theorem d_Reader_either_11 : decode prog_9_method_4_code 11 = .ok (.istore_n 2, 1) := by decide +kernel
theorem d_Reader_either_12 : decode prog_9_method_4_code 12 = .ok (.iload_n 2, 1) := by decide +kernel
theorem d_Reader_either_13 : decode prog_9_method_4_code 13 = .ok (.sipush 160, 3) := by decide +kernel
theorem d_Reader_either_16 : decode prog_9_method_4_code 16 = .ok (.if_icmp .ge 40, 3) := by decide +kernel
theorem d_Reader_either_19 : decode prog_9_method_4_code 19 = .ok (.aload_n 0, 1) := by decide +kernel
theorem d_Reader_either_20 : decode prog_9_method_4_code 20 = .ok (.getfield 53, 3) := by decide +kernel
theorem d_Reader_either_23 : decode prog_9_method_4_code 23 = .ok (.iconst 4, 1) := by decide +kernel
theorem d_Reader_either_24 : decode prog_9_method_4_code 24 = .ok (.if_icmp .ne 32, 3) := by decide +kernel
theorem d_Reader_either_27 : decode prog_9_method_4_code 27 = .ok (.aload_n 0, 1) := by decide +kernel
theorem d_Reader_either_28 : decode prog_9_method_4_code 28 = .ok (.invokevirtual 37, 3) := by decide +kernel
theorem d_Reader_either_31 : decode prog_9_method_4_code 31 = .ok (.aload_n 0, 1) := by decide +kernel
theorem d_Reader_either_32 : decode prog_9_method_4_code 32 = .ok (.iload_n 1, 1) := by decide +kernel
theorem d_Reader_either_33 : decode prog_9_method_4_code 33 = .ok (.invokevirtual 56, 3) := by decide +kernel
theorem d_Reader_either_36 : decode prog_9_method_4_code 36 = .ok (.ifCond .ne 5, 3) := by decide +kernel
theorem d_Reader_either_39 : decode prog_9_method_4_code 39 = .ok (.iconst 0, 1) := by decide +kernel
theorem d_Reader_either_40 : decode prog_9_method_4_code 40 = .ok (.ireturn, 1) := by decide +kernel
theorem d_Reader_either_41 : decode prog_9_method_4_code 41 = .ok (.aload_n 0, 1) := by decide +kernel
theorem d_Reader_either_42 : decode prog_9_method_4_code 42 = .ok (.getfield 25, 3) := by decide +kernel
theorem d_Reader_either_45 : decode prog_9_method_4_code 45 = .ok (.bipush (-20), 2) := by decide +kernel
theorem d_Reader_either_47 : decode prog_9_method_4_code 47 = .ok (.invokevirtual 59, 3) := by decide +kernel
theorem d_Reader_either_50 : decode prog_9_method_4_code 50 = .ok (.iinc 2 1, 3) := by decide +kernel
theorem d_Reader_either_53 : decode prog_9_method_4_code 53 = .ok (.goto (-41), 3) := by decide +kernel
theorem d_Reader_either_56 : decode prog_9_method_4_code 56 = .ok (.iconst 1, 1) := by decide +kernel
theorem d_Reader_either_57 : decode prog_9_method_4_code 57 = .ok (.ireturn, 1) := by decide +kernel
def p_Reader_either_12 (Q : Int32 → AH → Prop) (P_Reader_both : (Int32 → AH → Prop) → Int32 → AH → Prop) : Nat → Int32 → Int32 → AH → Prop
  | 0 => fun _ _ _ => False
  | n + 1 => fun x1 x2 h => let K12 := p_Reader_either_12 Q P_Reader_both n; ((160 ≤ x2 → Q 1 h) ∧ (¬ 160 ≤ x2 → ((¬ (h.1 25 5) = 4 → Q 1 h) ∧ ((h.1 25 5) = 4 → p_Reader_next (fun h1 => P_Reader_both (fun r3 h2 => ((¬ r3 = 0 → 0 < rR T1 h2 25 2 ∧ vA T1 h2 (rR T1 h2 25 2 - 1) ∧ (rS T1 h2 (rR T1 h2 25 2 - 1)).1 = 6 ∧ p_Law_add (fun h7 => K12 x1 (x2 + 1) h7) (rR T1 h2 25 2 - 1) (-20) h2) ∧ (r3 = 0 → Q 0 h2))) x1 h1) h))))
def p_Reader_either (Q : Int32 → AH → Prop) (P_Reader_both : (Int32 → AH → Prop) → Int32 → AH → Prop) (x1 : Int32) (h : AH) : Prop := P_Reader_both (fun r2 h1 => ((¬ r2 = 0 → ∃ n, p_Reader_either_12 Q P_Reader_both  n x1 0 h1) ∧ (r2 = 0 → Q 0 h1))) x1 h
set_option maxRecDepth 20000 in
theorem r_Reader_either_12 {G : GG} {d : Nat} {Q : Int32 → AH → Prop} {P_Reader_both : (Int32 → AH → Prop) → Int32 → AH → Prop} (hP_Reader_both : ∀ Q x1 h, P_Reader_both Q x1 h → WP G T1 m_Reader_both (d + 7) [.ref 25, .int x1] h 0 0 (iQ Q)) : ∀ (n : Nat) (x1 : Int32) (x2 : Int32) (h : AH), p_Reader_either_12 Q P_Reader_both n x1 x2 h → Att G T1 m_Reader_either (d + 8) 12 [some (.ref 25), some (.int x1), some (.int x2)] [] h 0 0 (iQ Q) := by
  intro n
  induction n with
  | zero => intro x1 x2 h H; exact H.elim
  | succ n k12 =>
    intro x1 x2 h H
    refine A_iload_n d_Reader_either_12 rfl ?_
    refine A_sipush 160 (by decide) d_Reader_either_13 ?_
    refine A_icmp_ge 56 d_Reader_either_16 (by decide) (fun z => ?_) (fun z => ?_)
    · have H := H.1 z
      refine A_iconst 1 (by decide) d_Reader_either_56 ?_
      exact A_iret d_Reader_either_57 rfl rfl H
    · have H := H.2 z
      refine A_aload_n d_Reader_either_19 rfl ?_
      refine A_get (v := .int (h.1 25 5)) d_Reader_either_20 (fo_Reader_53_7 rfl) (vA_s (by decide)) rfl (by first | rfl | (show Value.int _ = Value.int _; simp [wI, wL, wR, wC, up])) ?_
      refine A_iconst 4 (by decide) d_Reader_either_23 ?_
      refine A_icmp_ne 56 d_Reader_either_24 (by decide) (fun z => ?_) (fun z => ?_)
      · have H := H.1 z
        refine A_iconst 1 (by decide) d_Reader_either_56 ?_
        exact A_iret d_Reader_either_57 rfl rfl H
      · have H := H.2 z
        refine A_aload_n d_Reader_either_27 rfl ?_
        refine A_cV [.ref 25] [] (ct_Reader_37 rfl) d_Reader_either_28 rfl rfl (by decide) (Nat.le_of_ble_eq_true rfl) (rcA_o (c := 7) rfl (vA_s (by decide)) rfl (by decide) rfl) (ok_Reader_next (d := d) H) (fun h1 H => ?_)
        refine A_aload_n d_Reader_either_31 rfl ?_
        refine A_iload_n d_Reader_either_32 rfl ?_
        refine A_cI [.ref 25, .int x1] [] (ct_Reader_56 rfl) d_Reader_either_33 rfl rfl (by decide) (Nat.le_of_ble_eq_true rfl) (rcA_o (c := 7) rfl (vA_s (by decide)) rfl (by decide) rfl) (hP_Reader_both _ _ _ H) (fun r3 h2 H => ?_)
        refine A_if_ne 41 d_Reader_either_36 (by decide) (fun z => ?_) (fun z => ?_)
        · have H := H.1 z
          refine A_aload_n d_Reader_either_41 rfl ?_
          obtain ⟨c4, H⟩ := H
          refine A_get (v := .ref (rR T1 h2 25 2 - 1)) d_Reader_either_42 (fo_Reader_25_7 rfl) (vA_s (by decide)) rfl (vR_pos c4) ?_
          refine A_bipush (-20) (by decide) d_Reader_either_45 ?_
          obtain ⟨c5, H⟩ := H
          obtain ⟨c6, H⟩ := H
          refine A_cV [.ref (rR T1 h2 25 2 - 1), .int (-20)] [] (ct_Reader_59 rfl) d_Reader_either_47 rfl rfl (by decide) (Nat.le_of_ble_eq_true rfl) (rcA_o (c := 6) rfl c5 c6 (by decide) rfl) (ok_Law_add (d := d + 7) H) (fun h7 H => ?_)
          refine A_iinc 1 [some (.ref 25), some (.int x1), some (.int (x2 + 1))] d_Reader_either_50 rfl (by decide) (by decide) rfl rfl ?_
          refine A_goto 12 d_Reader_either_53 (by decide) ?_
          exact k12 _ _ _ H
        · have H := H.2 z
          refine A_iconst 0 (by decide) d_Reader_either_39 ?_
          exact A_iret d_Reader_either_40 rfl rfl H
set_option maxRecDepth 20000 in
theorem r_Reader_either_0 {G : GG} {d : Nat} {Q : Int32 → AH → Prop} {P_Reader_both : (Int32 → AH → Prop) → Int32 → AH → Prop} (hP_Reader_both : ∀ Q x1 h, P_Reader_both Q x1 h → WP G T1 m_Reader_both (d + 7) [.ref 25, .int x1] h 0 0 (iQ Q)) (x1 : Int32) (h : AH) (H : p_Reader_either Q P_Reader_both x1 h) : Att G T1 m_Reader_either (d + 8) 0 [some (.ref 25), some (.int x1), none] [] h 0 0 (iQ Q) := by
  refine A_aload_n d_Reader_either_0 rfl ?_
  refine A_iload_n d_Reader_either_1 rfl ?_
  refine A_cI [.ref 25, .int x1] [] (ct_Reader_56 rfl) d_Reader_either_2 rfl rfl (by decide) (Nat.le_of_ble_eq_true rfl) (rcA_o (c := 7) rfl (vA_s (by decide)) rfl (by decide) rfl) (hP_Reader_both _ _ _ H) (fun r2 h1 H => ?_)
  refine A_if_ne 10 d_Reader_either_5 (by decide) (fun z => ?_) (fun z => ?_)
  · have H := H.1 z
    refine A_iconst 0 (by decide) d_Reader_either_10 ?_
    refine A_istore_n [some (.ref 25), some (.int x1), some (.int 0)] d_Reader_either_11 (by decide) rfl rfl ?_
    obtain ⟨n9, H⟩ := H
    exact r_Reader_either_12 hP_Reader_both  n9 _ _ _ H
  · have H := H.2 z
    refine A_iconst 0 (by decide) d_Reader_either_8 ?_
    exact A_iret d_Reader_either_9 rfl rfl H
set_option maxRecDepth 20000 in
theorem ok_Reader_either {G : GG} {d : Nat} {Q : Int32 → AH → Prop} {P_Reader_both : (Int32 → AH → Prop) → Int32 → AH → Prop} (hP_Reader_both : ∀ Q x1 h, P_Reader_both Q x1 h → WP G T1 m_Reader_both (d + 7) [.ref 25, .int x1] h 0 0 (iQ Q)) {x1 : Int32} {h : AH} (H : p_Reader_either Q P_Reader_both x1 h) : WP G T1 m_Reader_either (d + 8) [.ref 25, .int x1] h 0 0 (iQ Q) := by
  exact WP.enter 1 (by decide) rfl rfl (r_Reader_either_0 hP_Reader_both x1 h H)
theorem d_Reader_both_0 : decode prog_9_method_5_code 0 = .ok (.aload_n 0, 1) := by decide +kernel
theorem d_Reader_both_1 : decode prog_9_method_5_code 1 = .ok (.iload_n 1, 1) := by decide +kernel
theorem d_Reader_both_2 : decode prog_9_method_5_code 2 = .ok (.invokevirtual 63, 3) := by decide +kernel
theorem d_Reader_both_5 : decode prog_9_method_5_code 5 = .ok (.ifCond .ne 5, 3) := by decide +kernel
theorem d_Reader_both_8 : decode prog_9_method_5_code 8 = .ok (.iconst 0, 1) := by decide +kernel
theorem d_Reader_both_9 : decode prog_9_method_5_code 9 = .ok (.ireturn, 1) := by decide +kernel
theorem d_Reader_both_10 : decode prog_9_method_5_code 10 = .ok (.iconst 0, 1) := by decide +kernel
theorem d_Reader_both_11 : decode prog_9_method_5_code 11 = .ok (.istore_n 2, 1) := by decide +kernel
theorem d_Reader_both_12 : decode prog_9_method_5_code 12 = .ok (.iload_n 2, 1) := by decide +kernel
theorem d_Reader_both_13 : decode prog_9_method_5_code 13 = .ok (.sipush 160, 3) := by decide +kernel
theorem d_Reader_both_16 : decode prog_9_method_5_code 16 = .ok (.if_icmp .ge 40, 3) := by decide +kernel
theorem d_Reader_both_19 : decode prog_9_method_5_code 19 = .ok (.aload_n 0, 1) := by decide +kernel
theorem d_Reader_both_20 : decode prog_9_method_5_code 20 = .ok (.getfield 53, 3) := by decide +kernel
theorem d_Reader_both_23 : decode prog_9_method_5_code 23 = .ok (.iconst 5, 1) := by decide +kernel
theorem d_Reader_both_24 : decode prog_9_method_5_code 24 = .ok (.if_icmp .ne 32, 3) := by decide +kernel
theorem d_Reader_both_27 : decode prog_9_method_5_code 27 = .ok (.aload_n 0, 1) := by decide +kernel
theorem d_Reader_both_28 : decode prog_9_method_5_code 28 = .ok (.invokevirtual 37, 3) := by decide +kernel
theorem d_Reader_both_31 : decode prog_9_method_5_code 31 = .ok (.aload_n 0, 1) := by decide +kernel
theorem d_Reader_both_32 : decode prog_9_method_5_code 32 = .ok (.iload_n 1, 1) := by decide +kernel
theorem d_Reader_both_33 : decode prog_9_method_5_code 33 = .ok (.invokevirtual 63, 3) := by decide +kernel
theorem d_Reader_both_36 : decode prog_9_method_5_code 36 = .ok (.ifCond .ne 5, 3) := by decide +kernel
theorem d_Reader_both_39 : decode prog_9_method_5_code 39 = .ok (.iconst 0, 1) := by decide +kernel
theorem d_Reader_both_40 : decode prog_9_method_5_code 40 = .ok (.ireturn, 1) := by decide +kernel
theorem d_Reader_both_41 : decode prog_9_method_5_code 41 = .ok (.aload_n 0, 1) := by decide +kernel
theorem d_Reader_both_42 : decode prog_9_method_5_code 42 = .ok (.getfield 25, 3) := by decide +kernel
theorem d_Reader_both_45 : decode prog_9_method_5_code 45 = .ok (.bipush (-21), 2) := by decide +kernel
theorem d_Reader_both_47 : decode prog_9_method_5_code 47 = .ok (.invokevirtual 59, 3) := by decide +kernel
theorem d_Reader_both_50 : decode prog_9_method_5_code 50 = .ok (.iinc 2 1, 3) := by decide +kernel
theorem d_Reader_both_53 : decode prog_9_method_5_code 53 = .ok (.goto (-41), 3) := by decide +kernel
theorem d_Reader_both_56 : decode prog_9_method_5_code 56 = .ok (.iconst 1, 1) := by decide +kernel
theorem d_Reader_both_57 : decode prog_9_method_5_code 57 = .ok (.ireturn, 1) := by decide +kernel
def p_Reader_both_12 (Q : Int32 → AH → Prop) (P_Reader_unless : (Int32 → AH → Prop) → Int32 → AH → Prop) : Nat → Int32 → Int32 → AH → Prop
  | 0 => fun _ _ _ => False
  | n + 1 => fun x1 x2 h => let K12 := p_Reader_both_12 Q P_Reader_unless n; ((160 ≤ x2 → Q 1 h) ∧ (¬ 160 ≤ x2 → ((¬ (h.1 25 5) = 5 → Q 1 h) ∧ ((h.1 25 5) = 5 → p_Reader_next (fun h1 => P_Reader_unless (fun r3 h2 => ((¬ r3 = 0 → 0 < rR T1 h2 25 2 ∧ vA T1 h2 (rR T1 h2 25 2 - 1) ∧ (rS T1 h2 (rR T1 h2 25 2 - 1)).1 = 6 ∧ p_Law_add (fun h7 => K12 x1 (x2 + 1) h7) (rR T1 h2 25 2 - 1) (-21) h2) ∧ (r3 = 0 → Q 0 h2))) x1 h1) h))))
def p_Reader_both (Q : Int32 → AH → Prop) (P_Reader_unless : (Int32 → AH → Prop) → Int32 → AH → Prop) (x1 : Int32) (h : AH) : Prop := P_Reader_unless (fun r2 h1 => ((¬ r2 = 0 → ∃ n, p_Reader_both_12 Q P_Reader_unless  n x1 0 h1) ∧ (r2 = 0 → Q 0 h1))) x1 h
set_option maxRecDepth 20000 in
theorem r_Reader_both_12 {G : GG} {d : Nat} {Q : Int32 → AH → Prop} {P_Reader_unless : (Int32 → AH → Prop) → Int32 → AH → Prop} (hP_Reader_unless : ∀ Q x1 h, P_Reader_unless Q x1 h → WP G T1 m_Reader_unless (d + 7) [.ref 25, .int x1] h 0 0 (iQ Q)) : ∀ (n : Nat) (x1 : Int32) (x2 : Int32) (h : AH), p_Reader_both_12 Q P_Reader_unless n x1 x2 h → Att G T1 m_Reader_both (d + 8) 12 [some (.ref 25), some (.int x1), some (.int x2)] [] h 0 0 (iQ Q) := by
  intro n
  induction n with
  | zero => intro x1 x2 h H; exact H.elim
  | succ n k12 =>
    intro x1 x2 h H
    refine A_iload_n d_Reader_both_12 rfl ?_
    refine A_sipush 160 (by decide) d_Reader_both_13 ?_
    refine A_icmp_ge 56 d_Reader_both_16 (by decide) (fun z => ?_) (fun z => ?_)
    · have H := H.1 z
      refine A_iconst 1 (by decide) d_Reader_both_56 ?_
      exact A_iret d_Reader_both_57 rfl rfl H
    · have H := H.2 z
      refine A_aload_n d_Reader_both_19 rfl ?_
      refine A_get (v := .int (h.1 25 5)) d_Reader_both_20 (fo_Reader_53_7 rfl) (vA_s (by decide)) rfl (by first | rfl | (show Value.int _ = Value.int _; simp [wI, wL, wR, wC, up])) ?_
      refine A_iconst 5 (by decide) d_Reader_both_23 ?_
      refine A_icmp_ne 56 d_Reader_both_24 (by decide) (fun z => ?_) (fun z => ?_)
      · have H := H.1 z
        refine A_iconst 1 (by decide) d_Reader_both_56 ?_
        exact A_iret d_Reader_both_57 rfl rfl H
      · have H := H.2 z
        refine A_aload_n d_Reader_both_27 rfl ?_
        refine A_cV [.ref 25] [] (ct_Reader_37 rfl) d_Reader_both_28 rfl rfl (by decide) (Nat.le_of_ble_eq_true rfl) (rcA_o (c := 7) rfl (vA_s (by decide)) rfl (by decide) rfl) (ok_Reader_next (d := d) H) (fun h1 H => ?_)
        refine A_aload_n d_Reader_both_31 rfl ?_
        refine A_iload_n d_Reader_both_32 rfl ?_
        refine A_cI [.ref 25, .int x1] [] (ct_Reader_63 rfl) d_Reader_both_33 rfl rfl (by decide) (Nat.le_of_ble_eq_true rfl) (rcA_o (c := 7) rfl (vA_s (by decide)) rfl (by decide) rfl) (hP_Reader_unless _ _ _ H) (fun r3 h2 H => ?_)
        refine A_if_ne 41 d_Reader_both_36 (by decide) (fun z => ?_) (fun z => ?_)
        · have H := H.1 z
          refine A_aload_n d_Reader_both_41 rfl ?_
          obtain ⟨c4, H⟩ := H
          refine A_get (v := .ref (rR T1 h2 25 2 - 1)) d_Reader_both_42 (fo_Reader_25_7 rfl) (vA_s (by decide)) rfl (vR_pos c4) ?_
          refine A_bipush (-21) (by decide) d_Reader_both_45 ?_
          obtain ⟨c5, H⟩ := H
          obtain ⟨c6, H⟩ := H
          refine A_cV [.ref (rR T1 h2 25 2 - 1), .int (-21)] [] (ct_Reader_59 rfl) d_Reader_both_47 rfl rfl (by decide) (Nat.le_of_ble_eq_true rfl) (rcA_o (c := 6) rfl c5 c6 (by decide) rfl) (ok_Law_add (d := d + 7) H) (fun h7 H => ?_)
          refine A_iinc 1 [some (.ref 25), some (.int x1), some (.int (x2 + 1))] d_Reader_both_50 rfl (by decide) (by decide) rfl rfl ?_
          refine A_goto 12 d_Reader_both_53 (by decide) ?_
          exact k12 _ _ _ H
        · have H := H.2 z
          refine A_iconst 0 (by decide) d_Reader_both_39 ?_
          exact A_iret d_Reader_both_40 rfl rfl H
set_option maxRecDepth 20000 in
theorem r_Reader_both_0 {G : GG} {d : Nat} {Q : Int32 → AH → Prop} {P_Reader_unless : (Int32 → AH → Prop) → Int32 → AH → Prop} (hP_Reader_unless : ∀ Q x1 h, P_Reader_unless Q x1 h → WP G T1 m_Reader_unless (d + 7) [.ref 25, .int x1] h 0 0 (iQ Q)) (x1 : Int32) (h : AH) (H : p_Reader_both Q P_Reader_unless x1 h) : Att G T1 m_Reader_both (d + 8) 0 [some (.ref 25), some (.int x1), none] [] h 0 0 (iQ Q) := by
  refine A_aload_n d_Reader_both_0 rfl ?_
  refine A_iload_n d_Reader_both_1 rfl ?_
  refine A_cI [.ref 25, .int x1] [] (ct_Reader_63 rfl) d_Reader_both_2 rfl rfl (by decide) (Nat.le_of_ble_eq_true rfl) (rcA_o (c := 7) rfl (vA_s (by decide)) rfl (by decide) rfl) (hP_Reader_unless _ _ _ H) (fun r2 h1 H => ?_)
  refine A_if_ne 10 d_Reader_both_5 (by decide) (fun z => ?_) (fun z => ?_)
  · have H := H.1 z
    refine A_iconst 0 (by decide) d_Reader_both_10 ?_
    refine A_istore_n [some (.ref 25), some (.int x1), some (.int 0)] d_Reader_both_11 (by decide) rfl rfl ?_
    obtain ⟨n9, H⟩ := H
    exact r_Reader_both_12 hP_Reader_unless  n9 _ _ _ H
  · have H := H.2 z
    refine A_iconst 0 (by decide) d_Reader_both_8 ?_
    exact A_iret d_Reader_both_9 rfl rfl H
set_option maxRecDepth 20000 in
theorem ok_Reader_both {G : GG} {d : Nat} {Q : Int32 → AH → Prop} {P_Reader_unless : (Int32 → AH → Prop) → Int32 → AH → Prop} (hP_Reader_unless : ∀ Q x1 h, P_Reader_unless Q x1 h → WP G T1 m_Reader_unless (d + 7) [.ref 25, .int x1] h 0 0 (iQ Q)) {x1 : Int32} {h : AH} (H : p_Reader_both Q P_Reader_unless x1 h) : WP G T1 m_Reader_both (d + 8) [.ref 25, .int x1] h 0 0 (iQ Q) := by
  exact WP.enter 1 (by decide) rfl rfl (r_Reader_both_0 hP_Reader_unless x1 h H)
theorem d_Reader_unless_0 : decode prog_9_method_6_code 0 = .ok (.aload_n 0, 1) := by decide +kernel
theorem d_Reader_unless_1 : decode prog_9_method_6_code 1 = .ok (.getfield 53, 3) := by decide +kernel
theorem d_Reader_unless_4 : decode prog_9_method_6_code 4 = .ok (.bipush 6, 2) := by decide +kernel
theorem d_Reader_unless_6 : decode prog_9_method_6_code 6 = .ok (.if_icmp .eq 9, 3) := by decide +kernel
theorem d_Reader_unless_9 : decode prog_9_method_6_code 9 = .ok (.aload_n 0, 1) := by decide +kernel
theorem d_Reader_unless_10 : decode prog_9_method_6_code 10 = .ok (.iload_n 1, 1) := by decide +kernel
theorem d_Reader_unless_11 : decode prog_9_method_6_code 11 = .ok (.invokevirtual 66, 3) := by decide +kernel
theorem d_Reader_unless_14 : decode prog_9_method_6_code 14 = .ok (.ireturn, 1) := by decide +kernel
theorem d_Reader_unless_15 : decode prog_9_method_6_code 15 = .ok (.iload_n 1, 1) := by decide +kernel
theorem d_Reader_unless_16 : decode prog_9_method_6_code 16 = .ok (.iconst 5, 1) := by decide +kernel
theorem d_Reader_unless_17 : decode prog_9_method_6_code 17 = .ok (.if_icmp .lt 5, 3) := by decide +kernel
theorem d_Reader_unless_20 : decode prog_9_method_6_code 20 = .ok (.iconst 0, 1) := by decide +kernel
theorem d_Reader_unless_21 : decode prog_9_method_6_code 21 = .ok (.ireturn, 1) := by decide +kernel
theorem d_Reader_unless_22 : decode prog_9_method_6_code 22 = .ok (.aload_n 0, 1) := by decide +kernel
theorem d_Reader_unless_23 : decode prog_9_method_6_code 23 = .ok (.invokevirtual 37, 3) := by decide +kernel
theorem d_Reader_unless_26 : decode prog_9_method_6_code 26 = .ok (.aload_n 0, 1) := by decide +kernel
theorem d_Reader_unless_27 : decode prog_9_method_6_code 27 = .ok (.iload_n 1, 1) := by decide +kernel
theorem d_Reader_unless_28 : decode prog_9_method_6_code 28 = .ok (.iconst 1, 1) := by decide +kernel
theorem d_Reader_unless_29 : decode prog_9_method_6_code 29 = .ok (.iadd, 1) := by decide +kernel
theorem d_Reader_unless_30 : decode prog_9_method_6_code 30 = .ok (.invokevirtual 63, 3) := by decide +kernel
theorem d_Reader_unless_33 : decode prog_9_method_6_code 33 = .ok (.ifCond .ne 5, 3) := by decide +kernel
theorem d_Reader_unless_36 : decode prog_9_method_6_code 36 = .ok (.iconst 0, 1) := by decide +kernel
theorem d_Reader_unless_37 : decode prog_9_method_6_code 37 = .ok (.ireturn, 1) := by decide +kernel
theorem d_Reader_unless_38 : decode prog_9_method_6_code 38 = .ok (.aload_n 0, 1) := by decide +kernel
theorem d_Reader_unless_39 : decode prog_9_method_6_code 39 = .ok (.getfield 25, 3) := by decide +kernel
theorem d_Reader_unless_42 : decode prog_9_method_6_code 42 = .ok (.bipush (-11), 2) := by decide +kernel
theorem d_Reader_unless_44 : decode prog_9_method_6_code 44 = .ok (.invokevirtual 59, 3) := by decide +kernel
theorem d_Reader_unless_47 : decode prog_9_method_6_code 47 = .ok (.iconst 1, 1) := by decide +kernel
theorem d_Reader_unless_48 : decode prog_9_method_6_code 48 = .ok (.ireturn, 1) := by decide +kernel
def p_Reader_unless (Q : Int32 → AH → Prop) (P_Reader_compared : (Int32 → AH → Prop) → Int32 → AH → Prop) (P_Reader_unless : (Int32 → AH → Prop) → Int32 → AH → Prop) (x1 : Int32) (h : AH) : Prop := (((h.1 25 5) = 6 → ((x1 < 5 → p_Reader_next (fun h1 => P_Reader_unless (fun r3 h2 => ((¬ r3 = 0 → 0 < rR T1 h2 25 2 ∧ vA T1 h2 (rR T1 h2 25 2 - 1) ∧ (rS T1 h2 (rR T1 h2 25 2 - 1)).1 = 6 ∧ p_Law_add (fun h7 => Q 1 h7) (rR T1 h2 25 2 - 1) (-11) h2) ∧ (r3 = 0 → Q 0 h2))) (x1 + 1) h1) h) ∧ (¬ x1 < 5 → Q 0 h))) ∧ (¬ (h.1 25 5) = 6 → P_Reader_compared (fun r9 h8 => narrow .boolean (.int r9) = .int r9 ∧ Q r9 h8) x1 h))
set_option maxRecDepth 20000 in
theorem r_Reader_unless_0 {G : GG} {d : Nat} {Q : Int32 → AH → Prop} {P_Reader_compared : (Int32 → AH → Prop) → Int32 → AH → Prop} {P_Reader_unless : (Int32 → AH → Prop) → Int32 → AH → Prop} (hP_Reader_compared : ∀ Q x1 h, P_Reader_compared Q x1 h → WP G T1 m_Reader_compared (d + 7) [.ref 25, .int x1] h 0 0 (iQ Q)) (hP_Reader_unless : ∀ Q x1 h, P_Reader_unless Q x1 h → WP G T1 m_Reader_unless (d + 7) [.ref 25, .int x1] h 0 0 (iQ Q)) (x1 : Int32) (h : AH) (H : p_Reader_unless Q P_Reader_compared P_Reader_unless x1 h) : Att G T1 m_Reader_unless (d + 8) 0 [some (.ref 25), some (.int x1)] [] h 0 0 (iQ Q) := by
  refine A_aload_n d_Reader_unless_0 rfl ?_
  refine A_get (v := .int (h.1 25 5)) d_Reader_unless_1 (fo_Reader_53_7 rfl) (vA_s (by decide)) rfl (by first | rfl | (show Value.int _ = Value.int _; simp [wI, wL, wR, wC, up])) ?_
  refine A_bipush 6 (by decide) d_Reader_unless_4 ?_
  refine A_icmp_eq 15 d_Reader_unless_6 (by decide) (fun z => ?_) (fun z => ?_)
  · have H := H.1 z
    refine A_iload_n d_Reader_unless_15 rfl ?_
    refine A_iconst 5 (by decide) d_Reader_unless_16 ?_
    refine A_icmp_lt 22 d_Reader_unless_17 (by decide) (fun z => ?_) (fun z => ?_)
    · have H := H.1 z
      refine A_aload_n d_Reader_unless_22 rfl ?_
      refine A_cV [.ref 25] [] (ct_Reader_37 rfl) d_Reader_unless_23 rfl rfl (by decide) (Nat.le_of_ble_eq_true rfl) (rcA_o (c := 7) rfl (vA_s (by decide)) rfl (by decide) rfl) (ok_Reader_next (d := d) H) (fun h1 H => ?_)
      refine A_aload_n d_Reader_unless_26 rfl ?_
      refine A_iload_n d_Reader_unless_27 rfl ?_
      refine A_iconst 1 (by decide) d_Reader_unless_28 ?_
      refine A_iadd d_Reader_unless_29 ?_
      refine A_cI [.ref 25, .int (x1 + 1)] [] (ct_Reader_63 rfl) d_Reader_unless_30 rfl rfl (by decide) (Nat.le_of_ble_eq_true rfl) (rcA_o (c := 7) rfl (vA_s (by decide)) rfl (by decide) rfl) (hP_Reader_unless _ _ _ H) (fun r3 h2 H => ?_)
      refine A_if_ne 38 d_Reader_unless_33 (by decide) (fun z => ?_) (fun z => ?_)
      · have H := H.1 z
        refine A_aload_n d_Reader_unless_38 rfl ?_
        obtain ⟨c4, H⟩ := H
        refine A_get (v := .ref (rR T1 h2 25 2 - 1)) d_Reader_unless_39 (fo_Reader_25_7 rfl) (vA_s (by decide)) rfl (vR_pos c4) ?_
        refine A_bipush (-11) (by decide) d_Reader_unless_42 ?_
        obtain ⟨c5, H⟩ := H
        obtain ⟨c6, H⟩ := H
        refine A_cV [.ref (rR T1 h2 25 2 - 1), .int (-11)] [] (ct_Reader_59 rfl) d_Reader_unless_44 rfl rfl (by decide) (Nat.le_of_ble_eq_true rfl) (rcA_o (c := 6) rfl c5 c6 (by decide) rfl) (ok_Law_add (d := d + 7) H) (fun h7 H => ?_)
        refine A_iconst 1 (by decide) d_Reader_unless_47 ?_
        exact A_iret d_Reader_unless_48 rfl rfl H
      · have H := H.2 z
        refine A_iconst 0 (by decide) d_Reader_unless_36 ?_
        exact A_iret d_Reader_unless_37 rfl rfl H
    · have H := H.2 z
      refine A_iconst 0 (by decide) d_Reader_unless_20 ?_
      exact A_iret d_Reader_unless_21 rfl rfl H
  · have H := H.2 z
    refine A_aload_n d_Reader_unless_9 rfl ?_
    refine A_iload_n d_Reader_unless_10 rfl ?_
    refine A_cI [.ref 25, .int x1] [] (ct_Reader_66 rfl) d_Reader_unless_11 rfl rfl (by decide) (Nat.le_of_ble_eq_true rfl) (rcA_o (c := 7) rfl (vA_s (by decide)) rfl (by decide) rfl) (hP_Reader_compared _ _ _ H) (fun r9 h8 H => ?_)
    exact A_iret d_Reader_unless_14 rfl H.1 H.2
set_option maxRecDepth 20000 in
theorem ok_Reader_unless {G : GG} {d : Nat} {Q : Int32 → AH → Prop} {P_Reader_compared : (Int32 → AH → Prop) → Int32 → AH → Prop} {P_Reader_unless : (Int32 → AH → Prop) → Int32 → AH → Prop} (hP_Reader_compared : ∀ Q x1 h, P_Reader_compared Q x1 h → WP G T1 m_Reader_compared (d + 7) [.ref 25, .int x1] h 0 0 (iQ Q)) (hP_Reader_unless : ∀ Q x1 h, P_Reader_unless Q x1 h → WP G T1 m_Reader_unless (d + 7) [.ref 25, .int x1] h 0 0 (iQ Q)) {x1 : Int32} {h : AH} (H : p_Reader_unless Q P_Reader_compared P_Reader_unless x1 h) : WP G T1 m_Reader_unless (d + 8) [.ref 25, .int x1] h 0 0 (iQ Q) := by
  exact WP.enter 0 (by decide) rfl rfl (r_Reader_unless_0 hP_Reader_compared hP_Reader_unless x1 h H)
theorem d_Reader_compared_0 : decode prog_9_method_7_code 0 = .ok (.aload_n 0, 1) := by decide +kernel
theorem d_Reader_compared_1 : decode prog_9_method_7_code 1 = .ok (.iload_n 1, 1) := by decide +kernel
theorem d_Reader_compared_2 : decode prog_9_method_7_code 2 = .ok (.invokevirtual 69, 3) := by decide +kernel
theorem d_Reader_compared_5 : decode prog_9_method_7_code 5 = .ok (.ifCond .ne 5, 3) := by decide +kernel
theorem d_Reader_compared_8 : decode prog_9_method_7_code 8 = .ok (.iconst 0, 1) := by decide +kernel
theorem d_Reader_compared_9 : decode prog_9_method_7_code 9 = .ok (.ireturn, 1) := by decide +kernel
theorem d_Reader_compared_10 : decode prog_9_method_7_code 10 = .ok (.aload_n 0, 1) := by decide +kernel
theorem d_Reader_compared_11 : decode prog_9_method_7_code 11 = .ok (.getfield 53, 3) := by decide +kernel
theorem d_Reader_compared_14 : decode prog_9_method_7_code 14 = .ok (.bipush 60, 2) := by decide +kernel
theorem d_Reader_compared_16 : decode prog_9_method_7_code 16 = .ok (.if_icmp .eq 14, 3) := by decide +kernel
theorem d_Reader_compared_19 : decode prog_9_method_7_code 19 = .ok (.aload_n 0, 1) := by decide +kernel
theorem d_Reader_compared_20 : decode prog_9_method_7_code 20 = .ok (.getfield 53, 3) := by decide +kernel
theorem d_Reader_compared_23 : decode prog_9_method_7_code 23 = .ok (.bipush 61, 2) := by decide +kernel
theorem d_Reader_compared_25 : decode prog_9_method_7_code 25 = .ok (.if_icmp .eq 5, 3) := by decide +kernel
theorem d_Reader_compared_28 : decode prog_9_method_7_code 28 = .ok (.iconst 1, 1) := by decide +kernel
theorem d_Reader_compared_29 : decode prog_9_method_7_code 29 = .ok (.ireturn, 1) := by decide +kernel
theorem d_Reader_compared_30 : decode prog_9_method_7_code 30 = .ok (.aload_n 0, 1) := by decide +kernel
theorem d_Reader_compared_31 : decode prog_9_method_7_code 31 = .ok (.getfield 53, 3) := by decide +kernel
theorem d_Reader_compared_34 : decode prog_9_method_7_code 34 = .ok (.istore_n 2, 1) := by decide +kernel
theorem d_Reader_compared_35 : decode prog_9_method_7_code 35 = .ok (.aload_n 0, 1) := by decide +kernel
theorem d_Reader_compared_36 : decode prog_9_method_7_code 36 = .ok (.invokevirtual 37, 3) := by decide +kernel
theorem d_Reader_compared_39 : decode prog_9_method_7_code 39 = .ok (.aload_n 0, 1) := by decide +kernel
theorem d_Reader_compared_40 : decode prog_9_method_7_code 40 = .ok (.iload_n 1, 1) := by decide +kernel
theorem d_Reader_compared_41 : decode prog_9_method_7_code 41 = .ok (.invokevirtual 69, 3) := by decide +kernel
theorem d_Reader_compared_44 : decode prog_9_method_7_code 44 = .ok (.ifCond .ne 5, 3) := by decide +kernel
theorem d_Reader_compared_47 : decode prog_9_method_7_code 47 = .ok (.iconst 0, 1) := by decide +kernel
theorem d_Reader_compared_48 : decode prog_9_method_7_code 48 = .ok (.ireturn, 1) := by decide +kernel
theorem d_Reader_compared_49 : decode prog_9_method_7_code 49 = .ok (.aload_n 0, 1) := by decide +kernel
theorem d_Reader_compared_50 : decode prog_9_method_7_code 50 = .ok (.getfield 25, 3) := by decide +kernel
theorem d_Reader_compared_53 : decode prog_9_method_7_code 53 = .ok (.iload_n 2, 1) := by decide +kernel
theorem d_Reader_compared_54 : decode prog_9_method_7_code 54 = .ok (.bipush 60, 2) := by decide +kernel
theorem d_Reader_compared_56 : decode prog_9_method_7_code 56 = .ok (.if_icmp .ne 8, 3) := by decide +kernel
theorem d_Reader_compared_59 : decode prog_9_method_7_code 59 = .ok (.bipush (-22), 2) := by decide +kernel
theorem d_Reader_compared_61 : decode prog_9_method_7_code 61 = .ok (.goto 5, 3) := by decide +kernel
theorem d_Reader_compared_64 : decode prog_9_method_7_code 64 = .ok (.bipush (-23), 2) := by decide +kernel
theorem d_Reader_compared_66 : decode prog_9_method_7_code 66 = .ok (.invokevirtual 59, 3) := by decide +kernel
theorem d_Reader_compared_69 : decode prog_9_method_7_code 69 = .ok (.iconst 1, 1) := by decide +kernel
theorem d_Reader_compared_70 : decode prog_9_method_7_code 70 = .ok (.ireturn, 1) := by decide +kernel
def p_Reader_compared_66 (Q : Int32 → AH → Prop) (P_Reader_sum : (Int32 → AH → Prop) → Int32 → AH → Prop) (s0 : Nat) (s1 : Int32) (h : AH) : Prop := vA T1 h s0 ∧ (rS T1 h s0).1 = 6 ∧ p_Law_add (fun h3 => Q 1 h3) s0 s1 h
def p_Reader_compared_30 (Q : Int32 → AH → Prop) (P_Reader_sum : (Int32 → AH → Prop) → Int32 → AH → Prop) (x1 : Int32) (h : AH) : Prop := p_Reader_next (fun h1 => P_Reader_sum (fun r3 h2 => ((¬ r3 = 0 → 0 < rR T1 h2 25 2 ∧ ((¬ (h.1 25 5) = 60 → p_Reader_compared_66 Q P_Reader_sum  (rR T1 h2 25 2 - 1) (-23) h2) ∧ ((h.1 25 5) = 60 → p_Reader_compared_66 Q P_Reader_sum  (rR T1 h2 25 2 - 1) (-22) h2))) ∧ (r3 = 0 → Q 0 h2))) x1 h1) h
def p_Reader_compared (Q : Int32 → AH → Prop) (P_Reader_sum : (Int32 → AH → Prop) → Int32 → AH → Prop) (x1 : Int32) (h : AH) : Prop := P_Reader_sum (fun r2 h1 => ((¬ r2 = 0 → (((h1.1 25 5) = 60 → p_Reader_compared_30 Q P_Reader_sum  x1 h1) ∧ (¬ (h1.1 25 5) = 60 → (((h1.1 25 5) = 61 → p_Reader_compared_30 Q P_Reader_sum  x1 h1) ∧ (¬ (h1.1 25 5) = 61 → Q 1 h1))))) ∧ (r2 = 0 → Q 0 h1))) x1 h
set_option maxRecDepth 20000 in
theorem r_Reader_compared_66 {G : GG} {d : Nat} {Q : Int32 → AH → Prop} {P_Reader_sum : (Int32 → AH → Prop) → Int32 → AH → Prop} (hP_Reader_sum : ∀ Q x1 h, P_Reader_sum Q x1 h → WP G T1 m_Reader_sum (d + 7) [.ref 25, .int x1] h 0 0 (iQ Q)) (s0 : Nat) (s1 : Int32) (h : AH) (H : p_Reader_compared_66 Q P_Reader_sum s0 s1 h) : Att G T1 m_Reader_compared (d + 8) 66 [none, none, none] [.int s1, .ref s0] h 0 0 (iQ Q) := by
  obtain ⟨c1, H⟩ := H
  obtain ⟨c2, H⟩ := H
  refine A_cV [.ref s0, .int s1] [] (ct_Reader_59 rfl) d_Reader_compared_66 rfl rfl (by decide) (Nat.le_of_ble_eq_true rfl) (rcA_o (c := 6) rfl c1 c2 (by decide) rfl) (ok_Law_add (d := d + 7) H) (fun h3 H => ?_)
  refine A_iconst 1 (by decide) d_Reader_compared_69 ?_
  exact A_iret d_Reader_compared_70 rfl rfl H
set_option maxRecDepth 20000 in
theorem r_Reader_compared_30 {G : GG} {d : Nat} {Q : Int32 → AH → Prop} {P_Reader_sum : (Int32 → AH → Prop) → Int32 → AH → Prop} (hP_Reader_sum : ∀ Q x1 h, P_Reader_sum Q x1 h → WP G T1 m_Reader_sum (d + 7) [.ref 25, .int x1] h 0 0 (iQ Q)) (x1 : Int32) (h : AH) (H : p_Reader_compared_30 Q P_Reader_sum x1 h) : Att G T1 m_Reader_compared (d + 8) 30 [some (.ref 25), some (.int x1), none] [] h 0 0 (iQ Q) := by
  refine A_aload_n d_Reader_compared_30 rfl ?_
  refine A_get (v := .int (h.1 25 5)) d_Reader_compared_31 (fo_Reader_53_7 rfl) (vA_s (by decide)) rfl (by first | rfl | (show Value.int _ = Value.int _; simp [wI, wL, wR, wC, up])) ?_
  refine A_istore_n [some (.ref 25), some (.int x1), some (.int (h.1 25 5))] d_Reader_compared_34 (by decide) rfl rfl ?_
  refine A_aload_n d_Reader_compared_35 rfl ?_
  refine A_cV [.ref 25] [] (ct_Reader_37 rfl) d_Reader_compared_36 rfl rfl (by decide) (Nat.le_of_ble_eq_true rfl) (rcA_o (c := 7) rfl (vA_s (by decide)) rfl (by decide) rfl) (ok_Reader_next (d := d) H) (fun h1 H => ?_)
  refine A_aload_n d_Reader_compared_39 rfl ?_
  refine A_iload_n d_Reader_compared_40 rfl ?_
  refine A_cI [.ref 25, .int x1] [] (ct_Reader_69 rfl) d_Reader_compared_41 rfl rfl (by decide) (Nat.le_of_ble_eq_true rfl) (rcA_o (c := 7) rfl (vA_s (by decide)) rfl (by decide) rfl) (hP_Reader_sum _ _ _ H) (fun r3 h2 H => ?_)
  refine A_if_ne 49 d_Reader_compared_44 (by decide) (fun z => ?_) (fun z => ?_)
  · have H := H.1 z
    refine A_aload_n d_Reader_compared_49 rfl ?_
    obtain ⟨c4, H⟩ := H
    refine A_get (v := .ref (rR T1 h2 25 2 - 1)) d_Reader_compared_50 (fo_Reader_25_7 rfl) (vA_s (by decide)) rfl (vR_pos c4) ?_
    refine A_iload_n d_Reader_compared_53 rfl ?_
    refine A_bipush 60 (by decide) d_Reader_compared_54 ?_
    refine A_icmp_ne 64 d_Reader_compared_56 (by decide) (fun z => ?_) (fun z => ?_)
    · have H := H.1 z
      refine A_bipush (-23) (by decide) d_Reader_compared_64 ?_
      refine A_sub (L' := [none, none, none]) trivial ?_
      exact r_Reader_compared_66 hP_Reader_sum  _ _ _ H
    · have H := H.2 z
      refine A_bipush (-22) (by decide) d_Reader_compared_59 ?_
      refine A_goto 66 d_Reader_compared_61 (by decide) ?_
      refine A_sub (L' := [none, none, none]) trivial ?_
      exact r_Reader_compared_66 hP_Reader_sum  _ _ _ H
  · have H := H.2 z
    refine A_iconst 0 (by decide) d_Reader_compared_47 ?_
    exact A_iret d_Reader_compared_48 rfl rfl H
set_option maxRecDepth 20000 in
theorem r_Reader_compared_0 {G : GG} {d : Nat} {Q : Int32 → AH → Prop} {P_Reader_sum : (Int32 → AH → Prop) → Int32 → AH → Prop} (hP_Reader_sum : ∀ Q x1 h, P_Reader_sum Q x1 h → WP G T1 m_Reader_sum (d + 7) [.ref 25, .int x1] h 0 0 (iQ Q)) (x1 : Int32) (h : AH) (H : p_Reader_compared Q P_Reader_sum x1 h) : Att G T1 m_Reader_compared (d + 8) 0 [some (.ref 25), some (.int x1), none] [] h 0 0 (iQ Q) := by
  refine A_aload_n d_Reader_compared_0 rfl ?_
  refine A_iload_n d_Reader_compared_1 rfl ?_
  refine A_cI [.ref 25, .int x1] [] (ct_Reader_69 rfl) d_Reader_compared_2 rfl rfl (by decide) (Nat.le_of_ble_eq_true rfl) (rcA_o (c := 7) rfl (vA_s (by decide)) rfl (by decide) rfl) (hP_Reader_sum _ _ _ H) (fun r2 h1 H => ?_)
  refine A_if_ne 10 d_Reader_compared_5 (by decide) (fun z => ?_) (fun z => ?_)
  · have H := H.1 z
    refine A_aload_n d_Reader_compared_10 rfl ?_
    refine A_get (v := .int (h1.1 25 5)) d_Reader_compared_11 (fo_Reader_53_7 rfl) (vA_s (by decide)) rfl (by first | rfl | (show Value.int _ = Value.int _; simp [wI, wL, wR, wC, up])) ?_
    refine A_bipush 60 (by decide) d_Reader_compared_14 ?_
    refine A_icmp_eq 30 d_Reader_compared_16 (by decide) (fun z => ?_) (fun z => ?_)
    · have H := H.1 z
      exact r_Reader_compared_30 hP_Reader_sum  _ _ H
    · have H := H.2 z
      refine A_aload_n d_Reader_compared_19 rfl ?_
      refine A_get (v := .int (h1.1 25 5)) d_Reader_compared_20 (fo_Reader_53_7 rfl) (vA_s (by decide)) rfl (by first | rfl | (show Value.int _ = Value.int _; simp [wI, wL, wR, wC, up])) ?_
      refine A_bipush 61 (by decide) d_Reader_compared_23 ?_
      refine A_icmp_eq 30 d_Reader_compared_25 (by decide) (fun z => ?_) (fun z => ?_)
      · have H := H.1 z
        exact r_Reader_compared_30 hP_Reader_sum  _ _ H
      · have H := H.2 z
        refine A_iconst 1 (by decide) d_Reader_compared_28 ?_
        exact A_iret d_Reader_compared_29 rfl rfl H
  · have H := H.2 z
    refine A_iconst 0 (by decide) d_Reader_compared_8 ?_
    exact A_iret d_Reader_compared_9 rfl rfl H
set_option maxRecDepth 20000 in
theorem ok_Reader_compared {G : GG} {d : Nat} {Q : Int32 → AH → Prop} {P_Reader_sum : (Int32 → AH → Prop) → Int32 → AH → Prop} (hP_Reader_sum : ∀ Q x1 h, P_Reader_sum Q x1 h → WP G T1 m_Reader_sum (d + 7) [.ref 25, .int x1] h 0 0 (iQ Q)) {x1 : Int32} {h : AH} (H : p_Reader_compared Q P_Reader_sum x1 h) : WP G T1 m_Reader_compared (d + 8) [.ref 25, .int x1] h 0 0 (iQ Q) := by
  exact WP.enter 1 (by decide) rfl rfl (r_Reader_compared_0 hP_Reader_sum x1 h H)
theorem d_Reader_sum_0 : decode prog_9_method_8_code 0 = .ok (.aload_n 0, 1) := by decide +kernel
theorem d_Reader_sum_1 : decode prog_9_method_8_code 1 = .ok (.iload_n 1, 1) := by decide +kernel
theorem d_Reader_sum_2 : decode prog_9_method_8_code 2 = .ok (.invokevirtual 72, 3) := by decide +kernel
theorem d_Reader_sum_5 : decode prog_9_method_8_code 5 = .ok (.ifCond .ne 5, 3) := by decide +kernel
theorem d_Reader_sum_8 : decode prog_9_method_8_code 8 = .ok (.iconst 0, 1) := by decide +kernel
theorem d_Reader_sum_9 : decode prog_9_method_8_code 9 = .ok (.ireturn, 1) := by decide +kernel
theorem d_Reader_sum_10 : decode prog_9_method_8_code 10 = .ok (.iconst 0, 1) := by decide +kernel
theorem d_Reader_sum_11 : decode prog_9_method_8_code 11 = .ok (.istore_n 2, 1) := by decide +kernel
theorem d_Reader_sum_12 : decode prog_9_method_8_code 12 = .ok (.iload_n 2, 1) := by decide +kernel
theorem d_Reader_sum_13 : decode prog_9_method_8_code 13 = .ok (.sipush 160, 3) := by decide +kernel
theorem d_Reader_sum_16 : decode prog_9_method_8_code 16 = .ok (.if_icmp .ge 66, 3) := by decide +kernel
theorem d_Reader_sum_19 : decode prog_9_method_8_code 19 = .ok (.aload_n 0, 1) := by decide +kernel
theorem d_Reader_sum_20 : decode prog_9_method_8_code 20 = .ok (.getfield 53, 3) := by decide +kernel
theorem d_Reader_sum_23 : decode prog_9_method_8_code 23 = .ok (.bipush 43, 2) := by decide +kernel
theorem d_Reader_sum_25 : decode prog_9_method_8_code 25 = .ok (.if_icmp .eq 12, 3) := by decide +kernel
theorem d_Reader_sum_28 : decode prog_9_method_8_code 28 = .ok (.aload_n 0, 1) := by decide +kernel
theorem d_Reader_sum_29 : decode prog_9_method_8_code 29 = .ok (.getfield 53, 3) := by decide +kernel
theorem d_Reader_sum_32 : decode prog_9_method_8_code 32 = .ok (.bipush 45, 2) := by decide +kernel
theorem d_Reader_sum_34 : decode prog_9_method_8_code 34 = .ok (.if_icmp .ne 48, 3) := by decide +kernel
theorem d_Reader_sum_37 : decode prog_9_method_8_code 37 = .ok (.aload_n 0, 1) := by decide +kernel
theorem d_Reader_sum_38 : decode prog_9_method_8_code 38 = .ok (.getfield 53, 3) := by decide +kernel
theorem d_Reader_sum_41 : decode prog_9_method_8_code 41 = .ok (.istore_n 3, 1) := by decide +kernel
theorem d_Reader_sum_42 : decode prog_9_method_8_code 42 = .ok (.aload_n 0, 1) := by decide +kernel
theorem d_Reader_sum_43 : decode prog_9_method_8_code 43 = .ok (.invokevirtual 37, 3) := by decide +kernel
theorem d_Reader_sum_46 : decode prog_9_method_8_code 46 = .ok (.aload_n 0, 1) := by decide +kernel
theorem d_Reader_sum_47 : decode prog_9_method_8_code 47 = .ok (.iload_n 1, 1) := by decide +kernel
theorem d_Reader_sum_48 : decode prog_9_method_8_code 48 = .ok (.invokevirtual 72, 3) := by decide +kernel
theorem d_Reader_sum_51 : decode prog_9_method_8_code 51 = .ok (.ifCond .ne 5, 3) := by decide +kernel
theorem d_Reader_sum_54 : decode prog_9_method_8_code 54 = .ok (.iconst 0, 1) := by decide +kernel
theorem d_Reader_sum_55 : decode prog_9_method_8_code 55 = .ok (.ireturn, 1) := by decide +kernel
theorem d_Reader_sum_56 : decode prog_9_method_8_code 56 = .ok (.aload_n 0, 1) := by decide +kernel
theorem d_Reader_sum_57 : decode prog_9_method_8_code 57 = .ok (.getfield 25, 3) := by decide +kernel
theorem d_Reader_sum_60 : decode prog_9_method_8_code 60 = .ok (.iload_n 3, 1) := by decide +kernel
theorem d_Reader_sum_61 : decode prog_9_method_8_code 61 = .ok (.bipush 43, 2) := by decide +kernel
theorem d_Reader_sum_63 : decode prog_9_method_8_code 63 = .ok (.if_icmp .ne 8, 3) := by decide +kernel
theorem d_Reader_sum_66 : decode prog_9_method_8_code 66 = .ok (.bipush (-24), 2) := by decide +kernel
theorem d_Reader_sum_68 : decode prog_9_method_8_code 68 = .ok (.goto 5, 3) := by decide +kernel
theorem d_Reader_sum_71 : decode prog_9_method_8_code 71 = .ok (.bipush (-25), 2) := by decide +kernel
theorem d_Reader_sum_73 : decode prog_9_method_8_code 73 = .ok (.invokevirtual 59, 3) := by decide +kernel
theorem d_Reader_sum_76 : decode prog_9_method_8_code 76 = .ok (.iinc 2 1, 3) := by decide +kernel
theorem d_Reader_sum_79 : decode prog_9_method_8_code 79 = .ok (.goto (-67), 3) := by decide +kernel
theorem d_Reader_sum_82 : decode prog_9_method_8_code 82 = .ok (.iconst 1, 1) := by decide +kernel
theorem d_Reader_sum_83 : decode prog_9_method_8_code 83 = .ok (.ireturn, 1) := by decide +kernel
def p_Reader_sum_73 (Q : Int32 → AH → Prop) (P_Reader_term : (Int32 → AH → Prop) → Int32 → AH → Prop) (K12 : Int32 → Int32 → AH → Prop) (x1 : Int32) (x2 : Int32) (s0 : Nat) (s1 : Int32) (h : AH) : Prop := vA T1 h s0 ∧ (rS T1 h s0).1 = 6 ∧ p_Law_add (fun h3 => K12 x1 (x2 + 1) h3) s0 s1 h
def p_Reader_sum_37 (Q : Int32 → AH → Prop) (P_Reader_term : (Int32 → AH → Prop) → Int32 → AH → Prop) (K12 : Int32 → Int32 → AH → Prop) (x1 : Int32) (x2 : Int32) (h : AH) : Prop := p_Reader_next (fun h1 => P_Reader_term (fun r3 h2 => ((¬ r3 = 0 → 0 < rR T1 h2 25 2 ∧ ((¬ (h.1 25 5) = 43 → p_Reader_sum_73 Q P_Reader_term K12 x1 x2 (rR T1 h2 25 2 - 1) (-25) h2) ∧ ((h.1 25 5) = 43 → p_Reader_sum_73 Q P_Reader_term K12 x1 x2 (rR T1 h2 25 2 - 1) (-24) h2))) ∧ (r3 = 0 → Q 0 h2))) x1 h1) h
def p_Reader_sum_12 (Q : Int32 → AH → Prop) (P_Reader_term : (Int32 → AH → Prop) → Int32 → AH → Prop) : Nat → Int32 → Int32 → AH → Prop
  | 0 => fun _ _ _ => False
  | n + 1 => fun x1 x2 h => let K12 := p_Reader_sum_12 Q P_Reader_term n; ((160 ≤ x2 → Q 1 h) ∧ (¬ 160 ≤ x2 → (((h.1 25 5) = 43 → p_Reader_sum_37 Q P_Reader_term K12 x1 x2 h) ∧ (¬ (h.1 25 5) = 43 → ((¬ (h.1 25 5) = 45 → Q 1 h) ∧ ((h.1 25 5) = 45 → p_Reader_sum_37 Q P_Reader_term K12 x1 x2 h))))))
def p_Reader_sum (Q : Int32 → AH → Prop) (P_Reader_term : (Int32 → AH → Prop) → Int32 → AH → Prop) (x1 : Int32) (h : AH) : Prop := P_Reader_term (fun r2 h1 => ((¬ r2 = 0 → ∃ n, p_Reader_sum_12 Q P_Reader_term  n x1 0 h1) ∧ (r2 = 0 → Q 0 h1))) x1 h
set_option maxRecDepth 20000 in
theorem r_Reader_sum_73 {G : GG} {d : Nat} {Q : Int32 → AH → Prop} {P_Reader_term : (Int32 → AH → Prop) → Int32 → AH → Prop} (hP_Reader_term : ∀ Q x1 h, P_Reader_term Q x1 h → WP G T1 m_Reader_term (d + 7) [.ref 25, .int x1] h 0 0 (iQ Q)) {K12 : Int32 → Int32 → AH → Prop} (k12 : ∀ x1 x2 h, K12 x1 x2 h → Att G T1 m_Reader_sum (d + 8) 12 [some (.ref 25), some (.int x1), some (.int x2), none] [] h 0 0 (iQ Q)) (x1 : Int32) (x2 : Int32) (s0 : Nat) (s1 : Int32) (h : AH) (H : p_Reader_sum_73 Q P_Reader_term K12 x1 x2 s0 s1 h) : Att G T1 m_Reader_sum (d + 8) 73 [some (.ref 25), some (.int x1), some (.int x2), none] [.int s1, .ref s0] h 0 0 (iQ Q) := by
  obtain ⟨c1, H⟩ := H
  obtain ⟨c2, H⟩ := H
  refine A_cV [.ref s0, .int s1] [] (ct_Reader_59 rfl) d_Reader_sum_73 rfl rfl (by decide) (Nat.le_of_ble_eq_true rfl) (rcA_o (c := 6) rfl c1 c2 (by decide) rfl) (ok_Law_add (d := d + 7) H) (fun h3 H => ?_)
  refine A_iinc 1 [some (.ref 25), some (.int x1), some (.int (x2 + 1)), none] d_Reader_sum_76 rfl (by decide) (by decide) rfl rfl ?_
  refine A_goto 12 d_Reader_sum_79 (by decide) ?_
  exact k12 _ _ _ H
set_option maxRecDepth 20000 in
theorem r_Reader_sum_37 {G : GG} {d : Nat} {Q : Int32 → AH → Prop} {P_Reader_term : (Int32 → AH → Prop) → Int32 → AH → Prop} (hP_Reader_term : ∀ Q x1 h, P_Reader_term Q x1 h → WP G T1 m_Reader_term (d + 7) [.ref 25, .int x1] h 0 0 (iQ Q)) {K12 : Int32 → Int32 → AH → Prop} (k12 : ∀ x1 x2 h, K12 x1 x2 h → Att G T1 m_Reader_sum (d + 8) 12 [some (.ref 25), some (.int x1), some (.int x2), none] [] h 0 0 (iQ Q)) (x1 : Int32) (x2 : Int32) (h : AH) (H : p_Reader_sum_37 Q P_Reader_term K12 x1 x2 h) : Att G T1 m_Reader_sum (d + 8) 37 [some (.ref 25), some (.int x1), some (.int x2), none] [] h 0 0 (iQ Q) := by
  refine A_aload_n d_Reader_sum_37 rfl ?_
  refine A_get (v := .int (h.1 25 5)) d_Reader_sum_38 (fo_Reader_53_7 rfl) (vA_s (by decide)) rfl (by first | rfl | (show Value.int _ = Value.int _; simp [wI, wL, wR, wC, up])) ?_
  refine A_istore_n [some (.ref 25), some (.int x1), some (.int x2), some (.int (h.1 25 5))] d_Reader_sum_41 (by decide) rfl rfl ?_
  refine A_aload_n d_Reader_sum_42 rfl ?_
  refine A_cV [.ref 25] [] (ct_Reader_37 rfl) d_Reader_sum_43 rfl rfl (by decide) (Nat.le_of_ble_eq_true rfl) (rcA_o (c := 7) rfl (vA_s (by decide)) rfl (by decide) rfl) (ok_Reader_next (d := d) H) (fun h1 H => ?_)
  refine A_aload_n d_Reader_sum_46 rfl ?_
  refine A_iload_n d_Reader_sum_47 rfl ?_
  refine A_cI [.ref 25, .int x1] [] (ct_Reader_72 rfl) d_Reader_sum_48 rfl rfl (by decide) (Nat.le_of_ble_eq_true rfl) (rcA_o (c := 7) rfl (vA_s (by decide)) rfl (by decide) rfl) (hP_Reader_term _ _ _ H) (fun r3 h2 H => ?_)
  refine A_if_ne 56 d_Reader_sum_51 (by decide) (fun z => ?_) (fun z => ?_)
  · have H := H.1 z
    refine A_aload_n d_Reader_sum_56 rfl ?_
    obtain ⟨c4, H⟩ := H
    refine A_get (v := .ref (rR T1 h2 25 2 - 1)) d_Reader_sum_57 (fo_Reader_25_7 rfl) (vA_s (by decide)) rfl (vR_pos c4) ?_
    refine A_iload_n d_Reader_sum_60 rfl ?_
    refine A_bipush 43 (by decide) d_Reader_sum_61 ?_
    refine A_icmp_ne 71 d_Reader_sum_63 (by decide) (fun z => ?_) (fun z => ?_)
    · have H := H.1 z
      refine A_bipush (-25) (by decide) d_Reader_sum_71 ?_
      refine A_sub (L' := [some (.ref 25), some (.int x1), some (.int x2), none]) ⟨rfl, rfl, rfl, trivial⟩ ?_
      exact r_Reader_sum_73 hP_Reader_term k12 _ _ _ _ _ H
    · have H := H.2 z
      refine A_bipush (-24) (by decide) d_Reader_sum_66 ?_
      refine A_goto 73 d_Reader_sum_68 (by decide) ?_
      refine A_sub (L' := [some (.ref 25), some (.int x1), some (.int x2), none]) ⟨rfl, rfl, rfl, trivial⟩ ?_
      exact r_Reader_sum_73 hP_Reader_term k12 _ _ _ _ _ H
  · have H := H.2 z
    refine A_iconst 0 (by decide) d_Reader_sum_54 ?_
    exact A_iret d_Reader_sum_55 rfl rfl H
set_option maxRecDepth 20000 in
theorem r_Reader_sum_12 {G : GG} {d : Nat} {Q : Int32 → AH → Prop} {P_Reader_term : (Int32 → AH → Prop) → Int32 → AH → Prop} (hP_Reader_term : ∀ Q x1 h, P_Reader_term Q x1 h → WP G T1 m_Reader_term (d + 7) [.ref 25, .int x1] h 0 0 (iQ Q)) : ∀ (n : Nat) (x1 : Int32) (x2 : Int32) (h : AH), p_Reader_sum_12 Q P_Reader_term n x1 x2 h → Att G T1 m_Reader_sum (d + 8) 12 [some (.ref 25), some (.int x1), some (.int x2), none] [] h 0 0 (iQ Q) := by
  intro n
  induction n with
  | zero => intro x1 x2 h H; exact H.elim
  | succ n k12 =>
    intro x1 x2 h H
    refine A_iload_n d_Reader_sum_12 rfl ?_
    refine A_sipush 160 (by decide) d_Reader_sum_13 ?_
    refine A_icmp_ge 82 d_Reader_sum_16 (by decide) (fun z => ?_) (fun z => ?_)
    · have H := H.1 z
      refine A_iconst 1 (by decide) d_Reader_sum_82 ?_
      exact A_iret d_Reader_sum_83 rfl rfl H
    · have H := H.2 z
      refine A_aload_n d_Reader_sum_19 rfl ?_
      refine A_get (v := .int (h.1 25 5)) d_Reader_sum_20 (fo_Reader_53_7 rfl) (vA_s (by decide)) rfl (by first | rfl | (show Value.int _ = Value.int _; simp [wI, wL, wR, wC, up])) ?_
      refine A_bipush 43 (by decide) d_Reader_sum_23 ?_
      refine A_icmp_eq 37 d_Reader_sum_25 (by decide) (fun z => ?_) (fun z => ?_)
      · have H := H.1 z
        exact r_Reader_sum_37 hP_Reader_term k12 _ _ _ H
      · have H := H.2 z
        refine A_aload_n d_Reader_sum_28 rfl ?_
        refine A_get (v := .int (h.1 25 5)) d_Reader_sum_29 (fo_Reader_53_7 rfl) (vA_s (by decide)) rfl (by first | rfl | (show Value.int _ = Value.int _; simp [wI, wL, wR, wC, up])) ?_
        refine A_bipush 45 (by decide) d_Reader_sum_32 ?_
        refine A_icmp_ne 82 d_Reader_sum_34 (by decide) (fun z => ?_) (fun z => ?_)
        · have H := H.1 z
          refine A_iconst 1 (by decide) d_Reader_sum_82 ?_
          exact A_iret d_Reader_sum_83 rfl rfl H
        · have H := H.2 z
          exact r_Reader_sum_37 hP_Reader_term k12 _ _ _ H
set_option maxRecDepth 20000 in
theorem r_Reader_sum_0 {G : GG} {d : Nat} {Q : Int32 → AH → Prop} {P_Reader_term : (Int32 → AH → Prop) → Int32 → AH → Prop} (hP_Reader_term : ∀ Q x1 h, P_Reader_term Q x1 h → WP G T1 m_Reader_term (d + 7) [.ref 25, .int x1] h 0 0 (iQ Q)) (x1 : Int32) (h : AH) (H : p_Reader_sum Q P_Reader_term x1 h) : Att G T1 m_Reader_sum (d + 8) 0 [some (.ref 25), some (.int x1), none, none] [] h 0 0 (iQ Q) := by
  refine A_aload_n d_Reader_sum_0 rfl ?_
  refine A_iload_n d_Reader_sum_1 rfl ?_
  refine A_cI [.ref 25, .int x1] [] (ct_Reader_72 rfl) d_Reader_sum_2 rfl rfl (by decide) (Nat.le_of_ble_eq_true rfl) (rcA_o (c := 7) rfl (vA_s (by decide)) rfl (by decide) rfl) (hP_Reader_term _ _ _ H) (fun r2 h1 H => ?_)
  refine A_if_ne 10 d_Reader_sum_5 (by decide) (fun z => ?_) (fun z => ?_)
  · have H := H.1 z
    refine A_iconst 0 (by decide) d_Reader_sum_10 ?_
    refine A_istore_n [some (.ref 25), some (.int x1), some (.int 0), none] d_Reader_sum_11 (by decide) rfl rfl ?_
    obtain ⟨n9, H⟩ := H
    exact r_Reader_sum_12 hP_Reader_term  n9 _ _ _ H
  · have H := H.2 z
    refine A_iconst 0 (by decide) d_Reader_sum_8 ?_
    exact A_iret d_Reader_sum_9 rfl rfl H
set_option maxRecDepth 20000 in
theorem ok_Reader_sum {G : GG} {d : Nat} {Q : Int32 → AH → Prop} {P_Reader_term : (Int32 → AH → Prop) → Int32 → AH → Prop} (hP_Reader_term : ∀ Q x1 h, P_Reader_term Q x1 h → WP G T1 m_Reader_term (d + 7) [.ref 25, .int x1] h 0 0 (iQ Q)) {x1 : Int32} {h : AH} (H : p_Reader_sum Q P_Reader_term x1 h) : WP G T1 m_Reader_sum (d + 8) [.ref 25, .int x1] h 0 0 (iQ Q) := by
  exact WP.enter 2 (by decide) rfl rfl (r_Reader_sum_0 hP_Reader_term x1 h H)
theorem d_Reader_term_0 : decode prog_9_method_9_code 0 = .ok (.aload_n 0, 1) := by decide +kernel
theorem d_Reader_term_1 : decode prog_9_method_9_code 1 = .ok (.iload_n 1, 1) := by decide +kernel
theorem d_Reader_term_2 : decode prog_9_method_9_code 2 = .ok (.invokevirtual 75, 3) := by decide +kernel
theorem d_Reader_term_5 : decode prog_9_method_9_code 5 = .ok (.ifCond .ne 5, 3) := by decide +kernel
theorem d_Reader_term_8 : decode prog_9_method_9_code 8 = .ok (.iconst 0, 1) := by decide +kernel
theorem d_Reader_term_9 : decode prog_9_method_9_code 9 = .ok (.ireturn, 1) := by decide +kernel
theorem d_Reader_term_10 : decode prog_9_method_9_code 10 = .ok (.iconst 0, 1) := by decide +kernel
theorem d_Reader_term_11 : decode prog_9_method_9_code 11 = .ok (.istore_n 2, 1) := by decide +kernel
theorem d_Reader_term_12 : decode prog_9_method_9_code 12 = .ok (.iload_n 2, 1) := by decide +kernel
theorem d_Reader_term_13 : decode prog_9_method_9_code 13 = .ok (.sipush 160, 3) := by decide +kernel
theorem d_Reader_term_16 : decode prog_9_method_9_code 16 = .ok (.if_icmp .ge 41, 3) := by decide +kernel
theorem d_Reader_term_19 : decode prog_9_method_9_code 19 = .ok (.aload_n 0, 1) := by decide +kernel
theorem d_Reader_term_20 : decode prog_9_method_9_code 20 = .ok (.getfield 53, 3) := by decide +kernel
theorem d_Reader_term_23 : decode prog_9_method_9_code 23 = .ok (.bipush 42, 2) := by decide +kernel
theorem d_Reader_term_25 : decode prog_9_method_9_code 25 = .ok (.if_icmp .ne 32, 3) := by decide +kernel
theorem d_Reader_term_28 : decode prog_9_method_9_code 28 = .ok (.aload_n 0, 1) := by decide +kernel
theorem d_Reader_term_29 : decode prog_9_method_9_code 29 = .ok (.invokevirtual 37, 3) := by decide +kernel
theorem d_Reader_term_32 : decode prog_9_method_9_code 32 = .ok (.aload_n 0, 1) := by decide +kernel
theorem d_Reader_term_33 : decode prog_9_method_9_code 33 = .ok (.iload_n 1, 1) := by decide +kernel
theorem d_Reader_term_34 : decode prog_9_method_9_code 34 = .ok (.invokevirtual 75, 3) := by decide +kernel
theorem d_Reader_term_37 : decode prog_9_method_9_code 37 = .ok (.ifCond .ne 5, 3) := by decide +kernel
theorem d_Reader_term_40 : decode prog_9_method_9_code 40 = .ok (.iconst 0, 1) := by decide +kernel
theorem d_Reader_term_41 : decode prog_9_method_9_code 41 = .ok (.ireturn, 1) := by decide +kernel
theorem d_Reader_term_42 : decode prog_9_method_9_code 42 = .ok (.aload_n 0, 1) := by decide +kernel
theorem d_Reader_term_43 : decode prog_9_method_9_code 43 = .ok (.getfield 25, 3) := by decide +kernel
theorem d_Reader_term_46 : decode prog_9_method_9_code 46 = .ok (.bipush (-26), 2) := by decide +kernel
theorem d_Reader_term_48 : decode prog_9_method_9_code 48 = .ok (.invokevirtual 59, 3) := by decide +kernel
theorem d_Reader_term_51 : decode prog_9_method_9_code 51 = .ok (.iinc 2 1, 3) := by decide +kernel
theorem d_Reader_term_54 : decode prog_9_method_9_code 54 = .ok (.goto (-42), 3) := by decide +kernel
theorem d_Reader_term_57 : decode prog_9_method_9_code 57 = .ok (.iconst 1, 1) := by decide +kernel
theorem d_Reader_term_58 : decode prog_9_method_9_code 58 = .ok (.ireturn, 1) := by decide +kernel
def p_Reader_term_12 (Q : Int32 → AH → Prop) (P_Reader_one : (Int32 → AH → Prop) → Int32 → AH → Prop) : Nat → Int32 → Int32 → AH → Prop
  | 0 => fun _ _ _ => False
  | n + 1 => fun x1 x2 h => let K12 := p_Reader_term_12 Q P_Reader_one n; ((160 ≤ x2 → Q 1 h) ∧ (¬ 160 ≤ x2 → ((¬ (h.1 25 5) = 42 → Q 1 h) ∧ ((h.1 25 5) = 42 → p_Reader_next (fun h1 => P_Reader_one (fun r3 h2 => ((¬ r3 = 0 → 0 < rR T1 h2 25 2 ∧ vA T1 h2 (rR T1 h2 25 2 - 1) ∧ (rS T1 h2 (rR T1 h2 25 2 - 1)).1 = 6 ∧ p_Law_add (fun h7 => K12 x1 (x2 + 1) h7) (rR T1 h2 25 2 - 1) (-26) h2) ∧ (r3 = 0 → Q 0 h2))) x1 h1) h))))
def p_Reader_term (Q : Int32 → AH → Prop) (P_Reader_one : (Int32 → AH → Prop) → Int32 → AH → Prop) (x1 : Int32) (h : AH) : Prop := P_Reader_one (fun r2 h1 => ((¬ r2 = 0 → ∃ n, p_Reader_term_12 Q P_Reader_one  n x1 0 h1) ∧ (r2 = 0 → Q 0 h1))) x1 h
set_option maxRecDepth 20000 in
theorem r_Reader_term_12 {G : GG} {d : Nat} {Q : Int32 → AH → Prop} {P_Reader_one : (Int32 → AH → Prop) → Int32 → AH → Prop} (hP_Reader_one : ∀ Q x1 h, P_Reader_one Q x1 h → WP G T1 m_Reader_one (d + 7) [.ref 25, .int x1] h 0 0 (iQ Q)) : ∀ (n : Nat) (x1 : Int32) (x2 : Int32) (h : AH), p_Reader_term_12 Q P_Reader_one n x1 x2 h → Att G T1 m_Reader_term (d + 8) 12 [some (.ref 25), some (.int x1), some (.int x2)] [] h 0 0 (iQ Q) := by
  intro n
  induction n with
  | zero => intro x1 x2 h H; exact H.elim
  | succ n k12 =>
    intro x1 x2 h H
    refine A_iload_n d_Reader_term_12 rfl ?_
    refine A_sipush 160 (by decide) d_Reader_term_13 ?_
    refine A_icmp_ge 57 d_Reader_term_16 (by decide) (fun z => ?_) (fun z => ?_)
    · have H := H.1 z
      refine A_iconst 1 (by decide) d_Reader_term_57 ?_
      exact A_iret d_Reader_term_58 rfl rfl H
    · have H := H.2 z
      refine A_aload_n d_Reader_term_19 rfl ?_
      refine A_get (v := .int (h.1 25 5)) d_Reader_term_20 (fo_Reader_53_7 rfl) (vA_s (by decide)) rfl (by first | rfl | (show Value.int _ = Value.int _; simp [wI, wL, wR, wC, up])) ?_
      refine A_bipush 42 (by decide) d_Reader_term_23 ?_
      refine A_icmp_ne 57 d_Reader_term_25 (by decide) (fun z => ?_) (fun z => ?_)
      · have H := H.1 z
        refine A_iconst 1 (by decide) d_Reader_term_57 ?_
        exact A_iret d_Reader_term_58 rfl rfl H
      · have H := H.2 z
        refine A_aload_n d_Reader_term_28 rfl ?_
        refine A_cV [.ref 25] [] (ct_Reader_37 rfl) d_Reader_term_29 rfl rfl (by decide) (Nat.le_of_ble_eq_true rfl) (rcA_o (c := 7) rfl (vA_s (by decide)) rfl (by decide) rfl) (ok_Reader_next (d := d) H) (fun h1 H => ?_)
        refine A_aload_n d_Reader_term_32 rfl ?_
        refine A_iload_n d_Reader_term_33 rfl ?_
        refine A_cI [.ref 25, .int x1] [] (ct_Reader_75 rfl) d_Reader_term_34 rfl rfl (by decide) (Nat.le_of_ble_eq_true rfl) (rcA_o (c := 7) rfl (vA_s (by decide)) rfl (by decide) rfl) (hP_Reader_one _ _ _ H) (fun r3 h2 H => ?_)
        refine A_if_ne 42 d_Reader_term_37 (by decide) (fun z => ?_) (fun z => ?_)
        · have H := H.1 z
          refine A_aload_n d_Reader_term_42 rfl ?_
          obtain ⟨c4, H⟩ := H
          refine A_get (v := .ref (rR T1 h2 25 2 - 1)) d_Reader_term_43 (fo_Reader_25_7 rfl) (vA_s (by decide)) rfl (vR_pos c4) ?_
          refine A_bipush (-26) (by decide) d_Reader_term_46 ?_
          obtain ⟨c5, H⟩ := H
          obtain ⟨c6, H⟩ := H
          refine A_cV [.ref (rR T1 h2 25 2 - 1), .int (-26)] [] (ct_Reader_59 rfl) d_Reader_term_48 rfl rfl (by decide) (Nat.le_of_ble_eq_true rfl) (rcA_o (c := 6) rfl c5 c6 (by decide) rfl) (ok_Law_add (d := d + 7) H) (fun h7 H => ?_)
          refine A_iinc 1 [some (.ref 25), some (.int x1), some (.int (x2 + 1))] d_Reader_term_51 rfl (by decide) (by decide) rfl rfl ?_
          refine A_goto 12 d_Reader_term_54 (by decide) ?_
          exact k12 _ _ _ H
        · have H := H.2 z
          refine A_iconst 0 (by decide) d_Reader_term_40 ?_
          exact A_iret d_Reader_term_41 rfl rfl H
set_option maxRecDepth 20000 in
theorem r_Reader_term_0 {G : GG} {d : Nat} {Q : Int32 → AH → Prop} {P_Reader_one : (Int32 → AH → Prop) → Int32 → AH → Prop} (hP_Reader_one : ∀ Q x1 h, P_Reader_one Q x1 h → WP G T1 m_Reader_one (d + 7) [.ref 25, .int x1] h 0 0 (iQ Q)) (x1 : Int32) (h : AH) (H : p_Reader_term Q P_Reader_one x1 h) : Att G T1 m_Reader_term (d + 8) 0 [some (.ref 25), some (.int x1), none] [] h 0 0 (iQ Q) := by
  refine A_aload_n d_Reader_term_0 rfl ?_
  refine A_iload_n d_Reader_term_1 rfl ?_
  refine A_cI [.ref 25, .int x1] [] (ct_Reader_75 rfl) d_Reader_term_2 rfl rfl (by decide) (Nat.le_of_ble_eq_true rfl) (rcA_o (c := 7) rfl (vA_s (by decide)) rfl (by decide) rfl) (hP_Reader_one _ _ _ H) (fun r2 h1 H => ?_)
  refine A_if_ne 10 d_Reader_term_5 (by decide) (fun z => ?_) (fun z => ?_)
  · have H := H.1 z
    refine A_iconst 0 (by decide) d_Reader_term_10 ?_
    refine A_istore_n [some (.ref 25), some (.int x1), some (.int 0)] d_Reader_term_11 (by decide) rfl rfl ?_
    obtain ⟨n9, H⟩ := H
    exact r_Reader_term_12 hP_Reader_one  n9 _ _ _ H
  · have H := H.2 z
    refine A_iconst 0 (by decide) d_Reader_term_8 ?_
    exact A_iret d_Reader_term_9 rfl rfl H
set_option maxRecDepth 20000 in
theorem ok_Reader_term {G : GG} {d : Nat} {Q : Int32 → AH → Prop} {P_Reader_one : (Int32 → AH → Prop) → Int32 → AH → Prop} (hP_Reader_one : ∀ Q x1 h, P_Reader_one Q x1 h → WP G T1 m_Reader_one (d + 7) [.ref 25, .int x1] h 0 0 (iQ Q)) {x1 : Int32} {h : AH} (H : p_Reader_term Q P_Reader_one x1 h) : WP G T1 m_Reader_term (d + 8) [.ref 25, .int x1] h 0 0 (iQ Q) := by
  exact WP.enter 1 (by decide) rfl rfl (r_Reader_term_0 hP_Reader_one x1 h H)
theorem d_MO_of_0 : decode prog_14_method_45_code 0 = .ok (.iload_n 1, 1) := by decide +kernel
theorem d_MO_of_1 : decode prog_14_method_45_code 1 = .ok (.invokestatic 185, 3) := by decide +kernel
theorem d_MO_of_4 : decode prog_14_method_45_code 4 = .ok (.ifCond .eq 11, 3) := by decide +kernel
theorem d_MO_of_7 : decode prog_14_method_45_code 7 = .ok (.aload_n 0, 1) := by decide +kernel
theorem d_MO_of_8 : decode prog_14_method_45_code 8 = .ok (.iload_n 2, 1) := by decide +kernel
theorem d_MO_of_9 : decode prog_14_method_45_code 9 = .ok (.invokevirtual 182, 3) := by decide +kernel
theorem d_MO_of_12 : decode prog_14_method_45_code 12 = .ok (.ifCond .ne 6, 3) := by decide +kernel
theorem d_MO_of_15 : decode prog_14_method_45_code 15 = .ok (.bipush (-5), 2) := by decide +kernel
theorem d_MO_of_17 : decode prog_14_method_45_code 17 = .ok (.ireturn, 1) := by decide +kernel
theorem d_MO_of_18 : decode prog_14_method_45_code 18 = .ok (.iload_n 3, 1) := by decide +kernel
theorem d_MO_of_19 : decode prog_14_method_45_code 19 = .ok (.iconst 0, 1) := by decide +kernel
theorem d_MO_of_20 : decode prog_14_method_45_code 20 = .ok (.iconst 4, 1) := by decide +kernel
theorem d_MO_of_21 : decode prog_14_method_45_code 21 = .ok (.invokestatic 93, 3) := by decide +kernel
theorem d_MO_of_24 : decode prog_14_method_45_code 24 = .ok (.ifCond .ne 6, 3) := by decide +kernel
theorem d_MO_of_27 : decode prog_14_method_45_code 27 = .ok (.bipush (-7), 2) := by decide +kernel
theorem d_MO_of_29 : decode prog_14_method_45_code 29 = .ok (.ireturn, 1) := by decide +kernel
theorem d_MO_of_30 : decode prog_14_method_45_code 30 = .ok (.aload_n 0, 1) := by decide +kernel
theorem d_MO_of_31 : decode prog_14_method_45_code 31 = .ok (.iload_n 1, 1) := by decide +kernel
theorem d_MO_of_32 : decode prog_14_method_45_code 32 = .ok (.invokevirtual 241, 3) := by decide +kernel
theorem d_MO_of_35 : decode prog_14_method_45_code 35 = .ok (.iload_n 3, 1) := by decide +kernel
theorem d_MO_of_36 : decode prog_14_method_45_code 36 = .ok (.tableswitch 60 0 3 #[32, 39, 46, 53], 32) := by decide +kernel
theorem d_MO_of_68 : decode prog_14_method_45_code 68 = .ok (.aload_n 0, 1) := by decide +kernel
theorem d_MO_of_69 : decode prog_14_method_45_code 69 = .ok (.getfield 64, 3) := by decide +kernel
theorem d_MO_of_72 : decode prog_14_method_45_code 72 = .ok (.iload_n 2, 1) := by decide +kernel
theorem d_MO_of_73 : decode prog_14_method_45_code 73 = .ok (.iaload, 1) := by decide +kernel
theorem d_MO_of_74 : decode prog_14_method_45_code 74 = .ok (.ireturn, 1) := by decide +kernel
theorem d_MO_of_75 : decode prog_14_method_45_code 75 = .ok (.aload_n 0, 1) := by decide +kernel
theorem d_MO_of_76 : decode prog_14_method_45_code 76 = .ok (.getfield 67, 3) := by decide +kernel
theorem d_MO_of_79 : decode prog_14_method_45_code 79 = .ok (.iload_n 2, 1) := by decide +kernel
theorem d_MO_of_80 : decode prog_14_method_45_code 80 = .ok (.iaload, 1) := by decide +kernel
theorem d_MO_of_81 : decode prog_14_method_45_code 81 = .ok (.ireturn, 1) := by decide +kernel
theorem d_MO_of_82 : decode prog_14_method_45_code 82 = .ok (.aload_n 0, 1) := by decide +kernel
theorem d_MO_of_83 : decode prog_14_method_45_code 83 = .ok (.getfield 73, 3) := by decide +kernel
theorem d_MO_of_86 : decode prog_14_method_45_code 86 = .ok (.iload_n 2, 1) := by decide +kernel
theorem d_MO_of_87 : decode prog_14_method_45_code 87 = .ok (.iaload, 1) := by decide +kernel
theorem d_MO_of_88 : decode prog_14_method_45_code 88 = .ok (.ireturn, 1) := by decide +kernel
theorem d_MO_of_89 : decode prog_14_method_45_code 89 = .ok (.aload_n 0, 1) := by decide +kernel
theorem d_MO_of_90 : decode prog_14_method_45_code 90 = .ok (.getfield 76, 3) := by decide +kernel
theorem d_MO_of_93 : decode prog_14_method_45_code 93 = .ok (.iload_n 2, 1) := by decide +kernel
theorem d_MO_of_94 : decode prog_14_method_45_code 94 = .ok (.iaload, 1) := by decide +kernel
theorem d_MO_of_95 : decode prog_14_method_45_code 95 = .ok (.ireturn, 1) := by decide +kernel
theorem d_MO_of_96 : decode prog_14_method_45_code 96 = .ok (.aload_n 0, 1) := by decide +kernel
theorem d_MO_of_97 : decode prog_14_method_45_code 97 = .ok (.iload_n 2, 1) := by decide +kernel
theorem d_MO_of_98 : decode prog_14_method_45_code 98 = .ok (.iload_n 1, 1) := by decide +kernel
theorem d_MO_of_99 : decode prog_14_method_45_code 99 = .ok (.invokevirtual 203, 3) := by decide +kernel
theorem d_MO_of_102 : decode prog_14_method_45_code 102 = .ok (.ireturn, 1) := by decide +kernel
def p_MO_of (Q : Int32 → AH → Prop) (x1 : Int32) (x2 : Int32) (x3 : Int32) (h : AH) : Prop := p_MO_isMany (fun r2 h1 => ((r2 = 0 → Q (-5) h1) ∧ (¬ r2 = 0 → p_MO_isHouse (fun r4 h3 => ((¬ r4 = 0 → p_MO_in (fun r6 h5 => ((¬ r6 = 0 → p_MO_lives (fun h7 => ((x3 = 0 → inb x2 7 ∧ Q (h7.1 78 x2) h7) ∧ (x3 = 1 → inb x2 7 ∧ Q (h7.1 79 x2) h7) ∧ (x3 = 2 → inb x2 7 ∧ Q (h7.1 81 x2) h7) ∧ (x3 = 3 → inb x2 7 ∧ Q (h7.1 82 x2) h7) ∧ (¬ x3 = 0 → ¬ x3 = 1 → ¬ x3 = 2 → ¬ x3 = 3 → p_MO_weighs (fun r13 h12 => Q r13 h12) x2 x1 h7))) x1 h5) ∧ (r6 = 0 → Q (-7) h5))) x3 0 4 h3) ∧ (r4 = 0 → Q (-5) h3))) x2 h1))) x1 h
set_option maxRecDepth 20000 in
theorem r_MO_of_0 {G : GG} {d : Nat} {Q : Int32 → AH → Prop} (x1 : Int32) (x2 : Int32) (x3 : Int32) (h : AH) (H : p_MO_of Q x1 x2 x3 h) : Att G T1 m_MO_of (d + 8) 0 [some (.ref 59), some (.int x1), some (.int x2), some (.int x3)] [] h 0 0 (iQ Q) := by
  refine A_iload_n d_MO_of_0 rfl ?_
  refine A_cI [.int x1] [] (ct_MO_185 rfl) d_MO_of_1 rfl rfl (by decide) (Nat.le_of_ble_eq_true rfl) trivial (ok_MO_isMany (d := d + 6) H) (fun r2 h1 H => ?_)
  refine A_if_eq 15 d_MO_of_4 (by decide) (fun z => ?_) (fun z => ?_)
  · have H := H.1 z
    refine A_bipush (-5) (by decide) d_MO_of_15 ?_
    exact A_iret d_MO_of_17 rfl rfl H
  · have H := H.2 z
    refine A_aload_n d_MO_of_7 rfl ?_
    refine A_iload_n d_MO_of_8 rfl ?_
    refine A_cI [.ref 59, .int x2] [] (ct_MO_182 rfl) d_MO_of_9 rfl rfl (by decide) (Nat.le_of_ble_eq_true rfl) (rcA_o (c := 12) rfl (vA_s (by decide)) rfl (by decide) rfl) (ok_MO_isHouse (d := d + 6) H) (fun r4 h3 H => ?_)
    refine A_if_ne 18 d_MO_of_12 (by decide) (fun z => ?_) (fun z => ?_)
    · have H := H.1 z
      refine A_iload_n d_MO_of_18 rfl ?_
      refine A_iconst 0 (by decide) d_MO_of_19 ?_
      refine A_iconst 4 (by decide) d_MO_of_20 ?_
      refine A_cI [.int x3, .int 0, .int 4] [] (ct_MO_93 rfl) d_MO_of_21 rfl rfl (by decide) (Nat.le_of_ble_eq_true rfl) trivial (ok_MO_in (d := d + 7) H) (fun r6 h5 H => ?_)
      refine A_if_ne 30 d_MO_of_24 (by decide) (fun z => ?_) (fun z => ?_)
      · have H := H.1 z
        refine A_aload_n d_MO_of_30 rfl ?_
        refine A_iload_n d_MO_of_31 rfl ?_
        refine A_cV [.ref 59, .int x1] [] (ct_MO_241 rfl) d_MO_of_32 rfl rfl (by decide) (Nat.le_of_ble_eq_true rfl) (rcA_o (c := 12) rfl (vA_s (by decide)) rfl (by decide) rfl) (ok_MO_lives (d := d) H) (fun h7 H => ?_)
        refine A_iload_n d_MO_of_35 rfl ?_
        by_cases z0 : x3 = 0
        · have H := H.1 z0
          refine A_tsI 68 d_MO_of_36 (by rw [z0]; decide) (by rw [z0]; decide) (by rw [z0]; rfl) (by decide) ?_
          refine A_aload_n d_MO_of_68 rfl ?_
          refine A_get (v := .ref 78) d_MO_of_69 (fo_MO_64_12 rfl) (vA_s (by decide)) rfl (by first | rfl | (show Value.int _ = Value.int _; simp [wI, wL, wR, wC, up])) ?_
          refine A_iload_n d_MO_of_72 rfl ?_
          obtain ⟨c8, H⟩ := H
          refine A_ialdv (n := 7) (v := (h7.1 78 x2)) d_MO_of_73 (vA_s (by decide)) rfl c8 rfl ?_
          exact A_iret d_MO_of_74 rfl rfl H
        · have H := H.2
          by_cases z1 : x3 = 1
          · have H := H.1 z1
            refine A_tsI 75 d_MO_of_36 (by rw [z1]; decide) (by rw [z1]; decide) (by rw [z1]; rfl) (by decide) ?_
            refine A_aload_n d_MO_of_75 rfl ?_
            refine A_get (v := .ref 79) d_MO_of_76 (fo_MO_67_12 rfl) (vA_s (by decide)) rfl (by first | rfl | (show Value.int _ = Value.int _; simp [wI, wL, wR, wC, up])) ?_
            refine A_iload_n d_MO_of_79 rfl ?_
            obtain ⟨c9, H⟩ := H
            refine A_ialdv (n := 7) (v := (h7.1 79 x2)) d_MO_of_80 (vA_s (by decide)) rfl c9 rfl ?_
            exact A_iret d_MO_of_81 rfl rfl H
          · have H := H.2
            by_cases z2 : x3 = 2
            · have H := H.1 z2
              refine A_tsI 82 d_MO_of_36 (by rw [z2]; decide) (by rw [z2]; decide) (by rw [z2]; rfl) (by decide) ?_
              refine A_aload_n d_MO_of_82 rfl ?_
              refine A_get (v := .ref 81) d_MO_of_83 (fo_MO_73_12 rfl) (vA_s (by decide)) rfl (by first | rfl | (show Value.int _ = Value.int _; simp [wI, wL, wR, wC, up])) ?_
              refine A_iload_n d_MO_of_86 rfl ?_
              obtain ⟨c10, H⟩ := H
              refine A_ialdv (n := 7) (v := (h7.1 81 x2)) d_MO_of_87 (vA_s (by decide)) rfl c10 rfl ?_
              exact A_iret d_MO_of_88 rfl rfl H
            · have H := H.2
              by_cases z3 : x3 = 3
              · have H := H.1 z3
                refine A_tsI 89 d_MO_of_36 (by rw [z3]; decide) (by rw [z3]; decide) (by rw [z3]; rfl) (by decide) ?_
                refine A_aload_n d_MO_of_89 rfl ?_
                refine A_get (v := .ref 82) d_MO_of_90 (fo_MO_76_12 rfl) (vA_s (by decide)) rfl (by first | rfl | (show Value.int _ = Value.int _; simp [wI, wL, wR, wC, up])) ?_
                refine A_iload_n d_MO_of_93 rfl ?_
                obtain ⟨c11, H⟩ := H
                refine A_ialdv (n := 7) (v := (h7.1 82 x2)) d_MO_of_94 (vA_s (by decide)) rfl c11 rfl ?_
                exact A_iret d_MO_of_95 rfl rfl H
              · have H := H.2
                have H := H z0 z1 z2 z3
                refine A_tsO 96 d_MO_of_36 (by have t0 := lv_neT z0 (a := 0) (by decide); have t1 := lv_neT z1 (a := 1) (by decide); have t2 := lv_neT z2 (a := 2) (by decide); have t3 := lv_neT z3 (a := 3) (by decide); omega) (by decide) ?_
                refine A_aload_n d_MO_of_96 rfl ?_
                refine A_iload_n d_MO_of_97 rfl ?_
                refine A_iload_n d_MO_of_98 rfl ?_
                refine A_cI [.ref 59, .int x2, .int x1] [] (ct_MO_203 rfl) d_MO_of_99 rfl rfl (by decide) (Nat.le_of_ble_eq_true rfl) (rcA_o (c := 12) rfl (vA_s (by decide)) rfl (by decide) rfl) (ok_MO_weighs (d := d + 4) H) (fun r13 h12 H => ?_)
                exact A_iret d_MO_of_102 rfl rfl H
      · have H := H.2 z
        refine A_bipush (-7) (by decide) d_MO_of_27 ?_
        exact A_iret d_MO_of_29 rfl rfl H
    · have H := H.2 z
      refine A_bipush (-5) (by decide) d_MO_of_15 ?_
      exact A_iret d_MO_of_17 rfl rfl H
set_option maxRecDepth 20000 in
theorem ok_MO_of {G : GG} {d : Nat} {Q : Int32 → AH → Prop} {x1 : Int32} {x2 : Int32} {x3 : Int32} {h : AH} (H : p_MO_of Q x1 x2 x3 h) : WP G T1 m_MO_of (d + 8) [.ref 59, .int x1, .int x2, .int x3] h 0 0 (iQ Q) := by
  exact WP.enter 0 (by decide) rfl rfl (r_MO_of_0 x1 x2 x3 h H)
theorem d_MO_all_0 : decode prog_14_method_47_code 0 = .ok (.iload_n 1, 1) := by decide +kernel
theorem d_MO_all_1 : decode prog_14_method_47_code 1 = .ok (.invokestatic 185, 3) := by decide +kernel
theorem d_MO_all_4 : decode prog_14_method_47_code 4 = .ok (.ifCond .ne 6, 3) := by decide +kernel
theorem d_MO_all_7 : decode prog_14_method_47_code 7 = .ok (.bipush (-5), 2) := by decide +kernel
theorem d_MO_all_9 : decode prog_14_method_47_code 9 = .ok (.ireturn, 1) := by decide +kernel
theorem d_MO_all_10 : decode prog_14_method_47_code 10 = .ok (.iload_n 2, 1) := by decide +kernel
theorem d_MO_all_11 : decode prog_14_method_47_code 11 = .ok (.iconst 0, 1) := by decide +kernel
theorem d_MO_all_12 : decode prog_14_method_47_code 12 = .ok (.iconst 3, 1) := by decide +kernel
theorem d_MO_all_13 : decode prog_14_method_47_code 13 = .ok (.invokestatic 93, 3) := by decide +kernel
theorem d_MO_all_16 : decode prog_14_method_47_code 16 = .ok (.ifCond .ne 6, 3) := by decide +kernel
theorem d_MO_all_19 : decode prog_14_method_47_code 19 = .ok (.bipush (-7), 2) := by decide +kernel
theorem d_MO_all_21 : decode prog_14_method_47_code 21 = .ok (.ireturn, 1) := by decide +kernel
theorem d_MO_all_22 : decode prog_14_method_47_code 22 = .ok (.aload_n 0, 1) := by decide +kernel
theorem d_MO_all_23 : decode prog_14_method_47_code 23 = .ok (.iload_n 1, 1) := by decide +kernel
theorem d_MO_all_24 : decode prog_14_method_47_code 24 = .ok (.invokevirtual 241, 3) := by decide +kernel
theorem d_MO_all_27 : decode prog_14_method_47_code 27 = .ok (.aload_n 0, 1) := by decide +kernel
theorem d_MO_all_28 : decode prog_14_method_47_code 28 = .ok (.iload_n 2, 1) := by decide +kernel
theorem d_MO_all_29 : decode prog_14_method_47_code 29 = .ok (.invokevirtual 244, 3) := by decide +kernel
theorem d_MO_all_32 : decode prog_14_method_47_code 32 = .ok (.ireturn, 1) := by decide +kernel
def p_MO_all (Q : Int32 → AH → Prop) (x1 : Int32) (x2 : Int32) (h : AH) : Prop := p_MO_isMany (fun r2 h1 => ((¬ r2 = 0 → p_MO_in (fun r4 h3 => ((¬ r4 = 0 → p_MO_lives (fun h5 => p_MO_sumOf (fun r7 h6 => Q r7 h6) x2 h5) x1 h3) ∧ (r4 = 0 → Q (-7) h3))) x2 0 3 h1) ∧ (r2 = 0 → Q (-5) h1))) x1 h
set_option maxRecDepth 20000 in
theorem r_MO_all_0 {G : GG} {d : Nat} {Q : Int32 → AH → Prop} (x1 : Int32) (x2 : Int32) (h : AH) (H : p_MO_all Q x1 x2 h) : Att G T1 m_MO_all (d + 8) 0 [some (.ref 59), some (.int x1), some (.int x2)] [] h 0 0 (iQ Q) := by
  refine A_iload_n d_MO_all_0 rfl ?_
  refine A_cI [.int x1] [] (ct_MO_185 rfl) d_MO_all_1 rfl rfl (by decide) (Nat.le_of_ble_eq_true rfl) trivial (ok_MO_isMany (d := d + 6) H) (fun r2 h1 H => ?_)
  refine A_if_ne 10 d_MO_all_4 (by decide) (fun z => ?_) (fun z => ?_)
  · have H := H.1 z
    refine A_iload_n d_MO_all_10 rfl ?_
    refine A_iconst 0 (by decide) d_MO_all_11 ?_
    refine A_iconst 3 (by decide) d_MO_all_12 ?_
    refine A_cI [.int x2, .int 0, .int 3] [] (ct_MO_93 rfl) d_MO_all_13 rfl rfl (by decide) (Nat.le_of_ble_eq_true rfl) trivial (ok_MO_in (d := d + 7) H) (fun r4 h3 H => ?_)
    refine A_if_ne 22 d_MO_all_16 (by decide) (fun z => ?_) (fun z => ?_)
    · have H := H.1 z
      refine A_aload_n d_MO_all_22 rfl ?_
      refine A_iload_n d_MO_all_23 rfl ?_
      refine A_cV [.ref 59, .int x1] [] (ct_MO_241 rfl) d_MO_all_24 rfl rfl (by decide) (Nat.le_of_ble_eq_true rfl) (rcA_o (c := 12) rfl (vA_s (by decide)) rfl (by decide) rfl) (ok_MO_lives (d := d) H) (fun h5 H => ?_)
      refine A_aload_n d_MO_all_27 rfl ?_
      refine A_iload_n d_MO_all_28 rfl ?_
      refine A_cI [.ref 59, .int x2] [] (ct_MO_244 rfl) d_MO_all_29 rfl rfl (by decide) (Nat.le_of_ble_eq_true rfl) (rcA_o (c := 12) rfl (vA_s (by decide)) rfl (by decide) rfl) (ok_MO_sumOf (d := d + 7) H) (fun r7 h6 H => ?_)
      exact A_iret d_MO_all_32 rfl rfl H
    · have H := H.2 z
      refine A_bipush (-7) (by decide) d_MO_all_19 ?_
      exact A_iret d_MO_all_21 rfl rfl H
  · have H := H.2 z
    refine A_bipush (-5) (by decide) d_MO_all_7 ?_
    exact A_iret d_MO_all_9 rfl rfl H
set_option maxRecDepth 20000 in
theorem ok_MO_all {G : GG} {d : Nat} {Q : Int32 → AH → Prop} {x1 : Int32} {x2 : Int32} {h : AH} (H : p_MO_all Q x1 x2 h) : WP G T1 m_MO_all (d + 8) [.ref 59, .int x1, .int x2] h 0 0 (iQ Q) := by
  exact WP.enter 0 (by decide) rfl rfl (r_MO_all_0 x1 x2 h H)
theorem d_MO_whenOf_0 : decode prog_14_method_48_code 0 = .ok (.iconst 0, 1) := by decide +kernel
theorem d_MO_whenOf_1 : decode prog_14_method_48_code 1 = .ok (.istore_n 2, 1) := by decide +kernel
theorem d_MO_whenOf_2 : decode prog_14_method_48_code 2 = .ok (.iload_n 2, 1) := by decide +kernel
theorem d_MO_whenOf_3 : decode prog_14_method_48_code 3 = .ok (.bipush 24, 2) := by decide +kernel
theorem d_MO_whenOf_5 : decode prog_14_method_48_code 5 = .ok (.if_icmp .gt 25, 3) := by decide +kernel
theorem d_MO_whenOf_8 : decode prog_14_method_48_code 8 = .ok (.aload_n 0, 1) := by decide +kernel
theorem d_MO_whenOf_9 : decode prog_14_method_48_code 9 = .ok (.iload_n 2, 1) := by decide +kernel
theorem d_MO_whenOf_10 : decode prog_14_method_48_code 10 = .ok (.invokevirtual 241, 3) := by decide +kernel
theorem d_MO_whenOf_13 : decode prog_14_method_48_code 13 = .ok (.aload_n 0, 1) := by decide +kernel
theorem d_MO_whenOf_14 : decode prog_14_method_48_code 14 = .ok (.getfield 64, 3) := by decide +kernel
theorem d_MO_whenOf_17 : decode prog_14_method_48_code 17 = .ok (.iload_n 1, 1) := by decide +kernel
theorem d_MO_whenOf_18 : decode prog_14_method_48_code 18 = .ok (.iaload, 1) := by decide +kernel
theorem d_MO_whenOf_19 : decode prog_14_method_48_code 19 = .ok (.ifCond .ne 5, 3) := by decide +kernel
theorem d_MO_whenOf_22 : decode prog_14_method_48_code 22 = .ok (.iload_n 2, 1) := by decide +kernel
theorem d_MO_whenOf_23 : decode prog_14_method_48_code 23 = .ok (.ireturn, 1) := by decide +kernel
theorem d_MO_whenOf_24 : decode prog_14_method_48_code 24 = .ok (.iinc 2 1, 3) := by decide +kernel
theorem d_MO_whenOf_27 : decode prog_14_method_48_code 27 = .ok (.goto (-25), 3) := by decide +kernel
theorem d_MO_whenOf_30 : decode prog_14_method_48_code 30 = .ok (.iconst (-1), 1) := by decide +kernel
theorem d_MO_whenOf_31 : decode prog_14_method_48_code 31 = .ok (.ireturn, 1) := by decide +kernel
def p_MO_whenOf_2 (Q : Int32 → AH → Prop) : Nat → Int32 → Int32 → AH → Prop
  | 0 => fun _ _ _ => False
  | n + 1 => fun x1 x2 h => let K2 := p_MO_whenOf_2 Q n; ((24 < x2 → Q (-1) h) ∧ (¬ 24 < x2 → p_MO_lives (fun h1 => inb x1 7 ∧ ((¬ (h1.1 78 x1) = 0 → K2 x1 (x2 + 1) h1) ∧ ((h1.1 78 x1) = 0 → Q x2 h1))) x2 h))
def p_MO_whenOf (Q : Int32 → AH → Prop) (x1 : Int32) (h : AH) : Prop := ∃ n, p_MO_whenOf_2 Q   n x1 0 h
set_option maxRecDepth 20000 in
theorem r_MO_whenOf_2 {G : GG} {d : Nat} {Q : Int32 → AH → Prop} : ∀ (n : Nat) (x1 : Int32) (x2 : Int32) (h : AH), p_MO_whenOf_2 Q n x1 x2 h → Att G T1 m_MO_whenOf (d + 8) 2 [some (.ref 59), some (.int x1), some (.int x2)] [] h 0 0 (iQ Q) := by
  intro n
  induction n with
  | zero => intro x1 x2 h H; exact H.elim
  | succ n k2 =>
    intro x1 x2 h H
    refine A_iload_n d_MO_whenOf_2 rfl ?_
    refine A_bipush 24 (by decide) d_MO_whenOf_3 ?_
    refine A_icmp_gt 30 d_MO_whenOf_5 (by decide) (fun z => ?_) (fun z => ?_)
    · have H := H.1 z
      refine A_iconst (-1) (by decide) d_MO_whenOf_30 ?_
      exact A_iret d_MO_whenOf_31 rfl rfl H
    · have H := H.2 z
      refine A_aload_n d_MO_whenOf_8 rfl ?_
      refine A_iload_n d_MO_whenOf_9 rfl ?_
      refine A_cV [.ref 59, .int x2] [] (ct_MO_241 rfl) d_MO_whenOf_10 rfl rfl (by decide) (Nat.le_of_ble_eq_true rfl) (rcA_o (c := 12) rfl (vA_s (by decide)) rfl (by decide) rfl) (ok_MO_lives (d := d) H) (fun h1 H => ?_)
      refine A_aload_n d_MO_whenOf_13 rfl ?_
      refine A_get (v := .ref 78) d_MO_whenOf_14 (fo_MO_64_12 rfl) (vA_s (by decide)) rfl (by first | rfl | (show Value.int _ = Value.int _; simp [wI, wL, wR, wC, up])) ?_
      refine A_iload_n d_MO_whenOf_17 rfl ?_
      obtain ⟨c2, H⟩ := H
      refine A_ialdv (n := 7) (v := (h1.1 78 x1)) d_MO_whenOf_18 (vA_s (by decide)) rfl c2 rfl ?_
      refine A_if_ne 24 d_MO_whenOf_19 (by decide) (fun z => ?_) (fun z => ?_)
      · have H := H.1 z
        refine A_iinc 1 [some (.ref 59), some (.int x1), some (.int (x2 + 1))] d_MO_whenOf_24 rfl (by decide) (by decide) rfl rfl ?_
        refine A_goto 2 d_MO_whenOf_27 (by decide) ?_
        exact k2 _ _ _ H
      · have H := H.2 z
        refine A_iload_n d_MO_whenOf_22 rfl ?_
        exact A_iret d_MO_whenOf_23 rfl rfl H
set_option maxRecDepth 20000 in
theorem r_MO_whenOf_0 {G : GG} {d : Nat} {Q : Int32 → AH → Prop} (x1 : Int32) (h : AH) (H : p_MO_whenOf Q x1 h) : Att G T1 m_MO_whenOf (d + 8) 0 [some (.ref 59), some (.int x1), none] [] h 0 0 (iQ Q) := by
  refine A_iconst 0 (by decide) d_MO_whenOf_0 ?_
  refine A_istore_n [some (.ref 59), some (.int x1), some (.int 0)] d_MO_whenOf_1 (by decide) rfl rfl ?_
  obtain ⟨n9, H⟩ := H
  exact r_MO_whenOf_2   n9 _ _ _ H
set_option maxRecDepth 20000 in
theorem ok_MO_whenOf {G : GG} {d : Nat} {Q : Int32 → AH → Prop} {x1 : Int32} {h : AH} (H : p_MO_whenOf Q x1 h) : WP G T1 m_MO_whenOf (d + 8) [.ref 59, .int x1] h 0 0 (iQ Q) := by
  exact WP.enter 1 (by decide) rfl rfl (r_MO_whenOf_0 x1 h H)
theorem d_MO_bring_0 : decode prog_14_method_53_code 0 = .ok (.aload_n 0, 1) := by decide +kernel
theorem d_MO_bring_1 : decode prog_14_method_53_code 1 = .ok (.iload_n 1, 1) := by decide +kernel
theorem d_MO_bring_2 : decode prog_14_method_53_code 2 = .ok (.invokevirtual 182, 3) := by decide +kernel
theorem d_MO_bring_5 : decode prog_14_method_53_code 5 = .ok (.ifCond .ne 6, 3) := by decide +kernel
theorem d_MO_bring_8 : decode prog_14_method_53_code 8 = .ok (.bipush (-5), 2) := by decide +kernel
theorem d_MO_bring_10 : decode prog_14_method_53_code 10 = .ok (.ireturn, 1) := by decide +kernel
theorem d_MO_bring_11 : decode prog_14_method_53_code 11 = .ok (.iload_n 2, 1) := by decide +kernel
theorem d_MO_bring_12 : decode prog_14_method_53_code 12 = .ok (.invokestatic 185, 3) := by decide +kernel
theorem d_MO_bring_15 : decode prog_14_method_53_code 15 = .ok (.ifCond .ne 6, 3) := by decide +kernel
theorem d_MO_bring_18 : decode prog_14_method_53_code 18 = .ok (.bipush (-7), 2) := by decide +kernel
theorem d_MO_bring_20 : decode prog_14_method_53_code 20 = .ok (.ireturn, 1) := by decide +kernel
theorem d_MO_bring_21 : decode prog_14_method_53_code 21 = .ok (.aload_n 0, 1) := by decide +kernel
theorem d_MO_bring_22 : decode prog_14_method_53_code 22 = .ok (.getfield 22, 3) := by decide +kernel
theorem d_MO_bring_25 : decode prog_14_method_53_code 25 = .ok (.iload_n 1, 1) := by decide +kernel
theorem d_MO_bring_26 : decode prog_14_method_53_code 26 = .ok (.iaload, 1) := by decide +kernel
theorem d_MO_bring_27 : decode prog_14_method_53_code 27 = .ok (.istore_n 3, 1) := by decide +kernel
theorem d_MO_bring_28 : decode prog_14_method_53_code 28 = .ok (.iconst (-1), 1) := by decide +kernel
theorem d_MO_bring_29 : decode prog_14_method_53_code 29 = .ok (.istore 4, 2) := by decide +kernel
theorem d_MO_bring_31 : decode prog_14_method_53_code 31 = .ok (.iconst 0, 1) := by decide +kernel
theorem d_MO_bring_32 : decode prog_14_method_53_code 32 = .ok (.istore 5, 2) := by decide +kernel
theorem d_MO_bring_34 : decode prog_14_method_53_code 34 = .ok (.iload 5, 2) := by decide +kernel
theorem d_MO_bring_36 : decode prog_14_method_53_code 36 = .ok (.bipush 20, 2) := by decide +kernel
theorem d_MO_bring_38 : decode prog_14_method_53_code 38 = .ok (.if_icmp .gt 47, 3) := by decide +kernel
theorem d_MO_bring_41 : decode prog_14_method_53_code 41 = .ok (.iload 4, 2) := by decide +kernel
theorem d_MO_bring_43 : decode prog_14_method_53_code 43 = .ok (.iconst (-1), 1) := by decide +kernel
theorem d_MO_bring_44 : decode prog_14_method_53_code 44 = .ok (.if_icmp .ne 41, 3) := by decide +kernel
theorem d_MO_bring_47 : decode prog_14_method_53_code 47 = .ok (.aload_n 0, 1) := by decide +kernel
theorem d_MO_bring_48 : decode prog_14_method_53_code 48 = .ok (.getfield 22, 3) := by decide +kernel
theorem d_MO_bring_51 : decode prog_14_method_53_code 51 = .ok (.iload_n 1, 1) := by decide +kernel
theorem d_MO_bring_52 : decode prog_14_method_53_code 52 = .ok (.iload_n 3, 1) := by decide +kernel
theorem d_MO_bring_53 : decode prog_14_method_53_code 53 = .ok (.iload 5, 2) := by decide +kernel
theorem d_MO_bring_55 : decode prog_14_method_53_code 55 = .ok (.iadd, 1) := by decide +kernel
theorem d_MO_bring_56 : decode prog_14_method_53_code 56 = .ok (.iastore, 1) := by decide +kernel
theorem d_MO_bring_57 : decode prog_14_method_53_code 57 = .ok (.aload_n 0, 1) := by decide +kernel
theorem d_MO_bring_58 : decode prog_14_method_53_code 58 = .ok (.iload_n 2, 1) := by decide +kernel
theorem d_MO_bring_59 : decode prog_14_method_53_code 59 = .ok (.invokevirtual 241, 3) := by decide +kernel
theorem d_MO_bring_62 : decode prog_14_method_53_code 62 = .ok (.aload_n 0, 1) := by decide +kernel
theorem d_MO_bring_63 : decode prog_14_method_53_code 63 = .ok (.getfield 64, 3) := by decide +kernel
theorem d_MO_bring_66 : decode prog_14_method_53_code 66 = .ok (.iload_n 1, 1) := by decide +kernel
theorem d_MO_bring_67 : decode prog_14_method_53_code 67 = .ok (.iaload, 1) := by decide +kernel
theorem d_MO_bring_68 : decode prog_14_method_53_code 68 = .ok (.ifCond .ne 8, 3) := by decide +kernel
theorem d_MO_bring_71 : decode prog_14_method_53_code 71 = .ok (.iload 5, 2) := by decide +kernel
theorem d_MO_bring_73 : decode prog_14_method_53_code 73 = .ok (.goto 4, 3) := by decide +kernel
theorem d_MO_bring_76 : decode prog_14_method_53_code 76 = .ok (.iconst (-1), 1) := by decide +kernel
theorem d_MO_bring_77 : decode prog_14_method_53_code 77 = .ok (.istore 4, 2) := by decide +kernel
theorem d_MO_bring_79 : decode prog_14_method_53_code 79 = .ok (.iinc 5 1, 3) := by decide +kernel
theorem d_MO_bring_82 : decode prog_14_method_53_code 82 = .ok (.goto (-48), 3) := by decide +kernel
theorem d_MO_bring_85 : decode prog_14_method_53_code 85 = .ok (.aload_n 0, 1) := by decide +kernel
theorem d_MO_bring_86 : decode prog_14_method_53_code 86 = .ok (.getfield 22, 3) := by decide +kernel
theorem d_MO_bring_89 : decode prog_14_method_53_code 89 = .ok (.iload_n 1, 1) := by decide +kernel
theorem d_MO_bring_90 : decode prog_14_method_53_code 90 = .ok (.iload_n 3, 1) := by decide +kernel
theorem d_MO_bring_91 : decode prog_14_method_53_code 91 = .ok (.iastore, 1) := by decide +kernel
theorem d_MO_bring_92 : decode prog_14_method_53_code 92 = .ok (.iload 4, 2) := by decide +kernel
theorem d_MO_bring_94 : decode prog_14_method_53_code 94 = .ok (.ireturn, 1) := by decide +kernel
def p_MO_bring_77 (Q : Int32 → AH → Prop) (K34 : Int32 → Int32 → Int32 → Int32 → Int32 → AH → Prop) (x1 : Int32) (x2 : Int32) (x3 : Int32) (x5 : Int32) (s0 : Int32) (h : AH) : Prop := K34 x1 x2 x3 s0 (x5 + 1) h
def p_MO_bring_34 (Q : Int32 → AH → Prop) : Nat → Int32 → Int32 → Int32 → Int32 → Int32 → AH → Prop
  | 0 => fun _ _ _ _ _ _ => False
  | n + 1 => fun x1 x2 x3 x4 x5 h => let K34 := p_MO_bring_34 Q n; ((20 < x5 → inb x1 7 ∧ Q x4 (wI h 64 x1 x3)) ∧ (¬ 20 < x5 → ((¬ x4 = (-1) → inb x1 7 ∧ Q x4 (wI h 64 x1 x3)) ∧ (x4 = (-1) → inb x1 7 ∧ p_MO_lives (fun h4 => inb x1 7 ∧ ((¬ (h4.1 78 x1) = 0 → p_MO_bring_77 Q  K34 x1 x2 x3 x5 (-1) h4) ∧ ((h4.1 78 x1) = 0 → p_MO_bring_77 Q  K34 x1 x2 x3 x5 x5 h4))) x2 (wI h 64 x1 (x3 + x5))))))
def p_MO_bring (Q : Int32 → AH → Prop) (x1 : Int32) (x2 : Int32) (h : AH) : Prop := p_MO_isHouse (fun r2 h1 => ((¬ r2 = 0 → p_MO_isMany (fun r4 h3 => ((¬ r4 = 0 → inb x1 7 ∧ ∃ n, p_MO_bring_34 Q   n x1 x2 (h3.1 64 x1) (-1) 0 h3) ∧ (r4 = 0 → Q (-7) h3))) x2 h1) ∧ (r2 = 0 → Q (-5) h1))) x1 h
set_option maxRecDepth 20000 in
theorem r_MO_bring_77 {G : GG} {d : Nat} {Q : Int32 → AH → Prop} {K34 : Int32 → Int32 → Int32 → Int32 → Int32 → AH → Prop} (k34 : ∀ x1 x2 x3 x4 x5 h, K34 x1 x2 x3 x4 x5 h → Att G T1 m_MO_bring (d + 8) 34 [some (.ref 59), some (.int x1), some (.int x2), some (.int x3), some (.int x4), some (.int x5)] [] h 0 0 (iQ Q)) (x1 : Int32) (x2 : Int32) (x3 : Int32) (x5 : Int32) (s0 : Int32) (h : AH) (H : p_MO_bring_77 Q K34 x1 x2 x3 x5 s0 h) : Att G T1 m_MO_bring (d + 8) 77 [some (.ref 59), some (.int x1), some (.int x2), some (.int x3), none, some (.int x5)] [.int s0] h 0 0 (iQ Q) := by
  refine A_istore [some (.ref 59), some (.int x1), some (.int x2), some (.int x3), some (.int s0), some (.int x5)] d_MO_bring_77 (by decide) rfl rfl ?_
  refine A_iinc 1 [some (.ref 59), some (.int x1), some (.int x2), some (.int x3), some (.int s0), some (.int (x5 + 1))] d_MO_bring_79 rfl (by decide) (by decide) rfl rfl ?_
  refine A_goto 34 d_MO_bring_82 (by decide) ?_
  exact k34 _ _ _ _ _ _ H
set_option maxRecDepth 20000 in
theorem r_MO_bring_34 {G : GG} {d : Nat} {Q : Int32 → AH → Prop} : ∀ (n : Nat) (x1 : Int32) (x2 : Int32) (x3 : Int32) (x4 : Int32) (x5 : Int32) (h : AH), p_MO_bring_34 Q n x1 x2 x3 x4 x5 h → Att G T1 m_MO_bring (d + 8) 34 [some (.ref 59), some (.int x1), some (.int x2), some (.int x3), some (.int x4), some (.int x5)] [] h 0 0 (iQ Q) := by
  intro n
  induction n with
  | zero => intro x1 x2 x3 x4 x5 h H; exact H.elim
  | succ n k34 =>
    intro x1 x2 x3 x4 x5 h H
    refine A_iload d_MO_bring_34 rfl ?_
    refine A_bipush 20 (by decide) d_MO_bring_36 ?_
    refine A_icmp_gt 85 d_MO_bring_38 (by decide) (fun z => ?_) (fun z => ?_)
    · have H := H.1 z
      refine A_aload_n d_MO_bring_85 rfl ?_
      refine A_get (v := .ref 64) d_MO_bring_86 (fo_MO_22_12 rfl) (vA_s (by decide)) rfl (by first | rfl | (show Value.int _ = Value.int _; simp [wI, wL, wR, wC, up])) ?_
      refine A_iload_n d_MO_bring_89 rfl ?_
      refine A_iload_n d_MO_bring_90 rfl ?_
      obtain ⟨c1, H⟩ := H
      refine A_iast (n := 7) d_MO_bring_91 (vA_s (by decide)) rfl c1 ?_
      refine A_iload d_MO_bring_92 rfl ?_
      exact A_iret d_MO_bring_94 rfl rfl H
    · have H := H.2 z
      refine A_iload d_MO_bring_41 rfl ?_
      refine A_iconst (-1) (by decide) d_MO_bring_43 ?_
      refine A_icmp_ne 85 d_MO_bring_44 (by decide) (fun z => ?_) (fun z => ?_)
      · have H := H.1 z
        refine A_aload_n d_MO_bring_85 rfl ?_
        refine A_get (v := .ref 64) d_MO_bring_86 (fo_MO_22_12 rfl) (vA_s (by decide)) rfl (by first | rfl | (show Value.int _ = Value.int _; simp [wI, wL, wR, wC, up])) ?_
        refine A_iload_n d_MO_bring_89 rfl ?_
        refine A_iload_n d_MO_bring_90 rfl ?_
        obtain ⟨c2, H⟩ := H
        refine A_iast (n := 7) d_MO_bring_91 (vA_s (by decide)) rfl c2 ?_
        refine A_iload d_MO_bring_92 rfl ?_
        exact A_iret d_MO_bring_94 rfl rfl H
      · have H := H.2 z
        refine A_aload_n d_MO_bring_47 rfl ?_
        refine A_get (v := .ref 64) d_MO_bring_48 (fo_MO_22_12 rfl) (vA_s (by decide)) rfl (by first | rfl | (show Value.int _ = Value.int _; simp [wI, wL, wR, wC, up])) ?_
        refine A_iload_n d_MO_bring_51 rfl ?_
        refine A_iload_n d_MO_bring_52 rfl ?_
        refine A_iload d_MO_bring_53 rfl ?_
        refine A_iadd d_MO_bring_55 ?_
        obtain ⟨c3, H⟩ := H
        refine A_iast (n := 7) d_MO_bring_56 (vA_s (by decide)) rfl c3 ?_
        refine A_aload_n d_MO_bring_57 rfl ?_
        refine A_iload_n d_MO_bring_58 rfl ?_
        refine A_cV [.ref 59, .int x2] [] (ct_MO_241 rfl) d_MO_bring_59 rfl rfl (by decide) (Nat.le_of_ble_eq_true rfl) (rcA_o (c := 12) rfl (vA_s (by decide)) rfl (by decide) rfl) (ok_MO_lives (d := d) H) (fun h4 H => ?_)
        refine A_aload_n d_MO_bring_62 rfl ?_
        refine A_get (v := .ref 78) d_MO_bring_63 (fo_MO_64_12 rfl) (vA_s (by decide)) rfl (by first | rfl | (show Value.int _ = Value.int _; simp [wI, wL, wR, wC, up])) ?_
        refine A_iload_n d_MO_bring_66 rfl ?_
        obtain ⟨c5, H⟩ := H
        refine A_ialdv (n := 7) (v := (h4.1 78 x1)) d_MO_bring_67 (vA_s (by decide)) rfl c5 rfl ?_
        refine A_if_ne 76 d_MO_bring_68 (by decide) (fun z => ?_) (fun z => ?_)
        · have H := H.1 z
          refine A_iconst (-1) (by decide) d_MO_bring_76 ?_
          refine A_sub (L' := [some (.ref 59), some (.int x1), some (.int x2), some (.int x3), none, some (.int x5)]) ⟨rfl, rfl, rfl, rfl, rfl, trivial⟩ ?_
          exact r_MO_bring_77  k34 _ _ _ _ _ _ H
        · have H := H.2 z
          refine A_iload d_MO_bring_71 rfl ?_
          refine A_goto 77 d_MO_bring_73 (by decide) ?_
          refine A_sub (L' := [some (.ref 59), some (.int x1), some (.int x2), some (.int x3), none, some (.int x5)]) ⟨rfl, rfl, rfl, rfl, rfl, trivial⟩ ?_
          exact r_MO_bring_77  k34 _ _ _ _ _ _ H
set_option maxRecDepth 20000 in
theorem r_MO_bring_0 {G : GG} {d : Nat} {Q : Int32 → AH → Prop} (x1 : Int32) (x2 : Int32) (h : AH) (H : p_MO_bring Q x1 x2 h) : Att G T1 m_MO_bring (d + 8) 0 [some (.ref 59), some (.int x1), some (.int x2), none, none, none] [] h 0 0 (iQ Q) := by
  refine A_aload_n d_MO_bring_0 rfl ?_
  refine A_iload_n d_MO_bring_1 rfl ?_
  refine A_cI [.ref 59, .int x1] [] (ct_MO_182 rfl) d_MO_bring_2 rfl rfl (by decide) (Nat.le_of_ble_eq_true rfl) (rcA_o (c := 12) rfl (vA_s (by decide)) rfl (by decide) rfl) (ok_MO_isHouse (d := d + 6) H) (fun r2 h1 H => ?_)
  refine A_if_ne 11 d_MO_bring_5 (by decide) (fun z => ?_) (fun z => ?_)
  · have H := H.1 z
    refine A_iload_n d_MO_bring_11 rfl ?_
    refine A_cI [.int x2] [] (ct_MO_185 rfl) d_MO_bring_12 rfl rfl (by decide) (Nat.le_of_ble_eq_true rfl) trivial (ok_MO_isMany (d := d + 6) H) (fun r4 h3 H => ?_)
    refine A_if_ne 21 d_MO_bring_15 (by decide) (fun z => ?_) (fun z => ?_)
    · have H := H.1 z
      refine A_aload_n d_MO_bring_21 rfl ?_
      refine A_get (v := .ref 64) d_MO_bring_22 (fo_MO_22_12 rfl) (vA_s (by decide)) rfl (by first | rfl | (show Value.int _ = Value.int _; simp [wI, wL, wR, wC, up])) ?_
      refine A_iload_n d_MO_bring_25 rfl ?_
      obtain ⟨c5, H⟩ := H
      refine A_ialdv (n := 7) (v := (h3.1 64 x1)) d_MO_bring_26 (vA_s (by decide)) rfl c5 rfl ?_
      refine A_istore_n [some (.ref 59), some (.int x1), some (.int x2), some (.int (h3.1 64 x1)), none, none] d_MO_bring_27 (by decide) rfl rfl ?_
      refine A_iconst (-1) (by decide) d_MO_bring_28 ?_
      refine A_istore [some (.ref 59), some (.int x1), some (.int x2), some (.int (h3.1 64 x1)), some (.int (-1)), none] d_MO_bring_29 (by decide) rfl rfl ?_
      refine A_iconst 0 (by decide) d_MO_bring_31 ?_
      refine A_istore [some (.ref 59), some (.int x1), some (.int x2), some (.int (h3.1 64 x1)), some (.int (-1)), some (.int 0)] d_MO_bring_32 (by decide) rfl rfl ?_
      obtain ⟨n9, H⟩ := H
      exact r_MO_bring_34   n9 _ _ _ _ _ _ H
    · have H := H.2 z
      refine A_bipush (-7) (by decide) d_MO_bring_18 ?_
      exact A_iret d_MO_bring_20 rfl rfl H
  · have H := H.2 z
    refine A_bipush (-5) (by decide) d_MO_bring_8 ?_
    exact A_iret d_MO_bring_10 rfl rfl H
set_option maxRecDepth 20000 in
theorem ok_MO_bring {G : GG} {d : Nat} {Q : Int32 → AH → Prop} {x1 : Int32} {x2 : Int32} {h : AH} (H : p_MO_bring Q x1 x2 h) : WP G T1 m_MO_bring (d + 8) [.ref 59, .int x1, .int x2] h 0 0 (iQ Q) := by
  exact WP.enter 3 (by decide) rfl rfl (r_MO_bring_0 x1 x2 h H)
theorem d_MO_downs_0 : decode prog_14_method_51_code 0 = .ok (.aload_n 0, 1) := by decide +kernel
theorem d_MO_downs_1 : decode prog_14_method_51_code 1 = .ok (.iload_n 1, 1) := by decide +kernel
theorem d_MO_downs_2 : decode prog_14_method_51_code 2 = .ok (.invokevirtual 241, 3) := by decide +kernel
theorem d_MO_downs_5 : decode prog_14_method_51_code 5 = .ok (.aload_n 0, 1) := by decide +kernel
theorem d_MO_downs_6 : decode prog_14_method_51_code 6 = .ok (.invokevirtual 250, 3) := by decide +kernel
theorem d_MO_downs_9 : decode prog_14_method_51_code 9 = .ok (.ireturn, 1) := by decide +kernel
def p_MO_downs (Q : Int32 → AH → Prop) (x1 : Int32) (h : AH) : Prop := p_MO_lives (fun h1 => p_MO_downNow (fun r3 h2 => Q r3 h2) h1) x1 h
set_option maxRecDepth 20000 in
theorem r_MO_downs_0 {G : GG} {d : Nat} {Q : Int32 → AH → Prop} (x1 : Int32) (h : AH) (H : p_MO_downs Q x1 h) : Att G T1 m_MO_downs (d + 8) 0 [some (.ref 59), some (.int x1)] [] h 0 0 (iQ Q) := by
  refine A_aload_n d_MO_downs_0 rfl ?_
  refine A_iload_n d_MO_downs_1 rfl ?_
  refine A_cV [.ref 59, .int x1] [] (ct_MO_241 rfl) d_MO_downs_2 rfl rfl (by decide) (Nat.le_of_ble_eq_true rfl) (rcA_o (c := 12) rfl (vA_s (by decide)) rfl (by decide) rfl) (ok_MO_lives (d := d) H) (fun h1 H => ?_)
  refine A_aload_n d_MO_downs_5 rfl ?_
  refine A_cI [.ref 59] [] (ct_MO_250 rfl) d_MO_downs_6 rfl rfl (by decide) (Nat.le_of_ble_eq_true rfl) (rcA_o (c := 12) rfl (vA_s (by decide)) rfl (by decide) rfl) (ok_MO_downNow (d := d + 7) H) (fun r3 h2 H => ?_)
  exact A_iret d_MO_downs_9 rfl rfl H
set_option maxRecDepth 20000 in
theorem ok_MO_downs {G : GG} {d : Nat} {Q : Int32 → AH → Prop} {x1 : Int32} {h : AH} (H : p_MO_downs Q x1 h) : WP G T1 m_MO_downs (d + 8) [.ref 59, .int x1] h 0 0 (iQ Q) := by
  exact WP.enter 0 (by decide) rfl rfl (r_MO_downs_0 x1 h H)
