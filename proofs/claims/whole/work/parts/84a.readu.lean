/-! the Reader over the first 59 cells (printed by wip/gen/tuc.py out of the parts that speak of all 84) -/
set_option maxRecDepth 20000 in
theorem r_UF_within_0U {G : GG} {d : Nat} {Q : Int32 → AH → Prop} (x0 : Int32) (x1 : Int32) (x2 : Int32) (h : AH) (H : p_UF_within Q x0 x1 x2 h) : Att G TU m_UF_within d 0 [some (.int x0), some (.int x1), some (.int x2)] [] h 0 0 (iQ Q) := by
  refine A_iload_n d_UF_within_0 rfl ?_
  refine A_iload_n d_UF_within_1 rfl ?_
  refine A_icmp_lt 14 d_UF_within_2 (by decide) (fun z => ?_) (fun z => ?_)
  · have H := H.1 z
    refine A_iconst 0 (by decide) d_UF_within_14 ?_
    exact A_iret d_UF_within_15 rfl rfl H
  · have H := H.2 z
    refine A_iload_n d_UF_within_5 rfl ?_
    refine A_iload_n d_UF_within_6 rfl ?_
    refine A_icmp_gt 14 d_UF_within_7 (by decide) (fun z => ?_) (fun z => ?_)
    · have H := H.1 z
      refine A_iconst 0 (by decide) d_UF_within_14 ?_
      exact A_iret d_UF_within_15 rfl rfl H
    · have H := H.2 z
      refine A_iconst 1 (by decide) d_UF_within_10 ?_
      refine A_goto 15 d_UF_within_11 (by decide) ?_
      exact A_iret d_UF_within_15 rfl rfl H
set_option maxRecDepth 20000 in
theorem ok_UF_withinU {G : GG} {d : Nat} {Q : Int32 → AH → Prop} {x0 : Int32} {x1 : Int32} {x2 : Int32} {h : AH} (H : p_UF_within Q x0 x1 x2 h) : WP G TU m_UF_within d [.int x0, .int x1, .int x2] h 0 0 (iQ Q) := by
  exact WP.enter 0 (by decide) rfl rfl (r_UF_within_0U x0 x1 x2 h H)
def p_Reader_signU (Q : AH → Prop) (h : AH) : Prop := 0 < rR TU h 25 0 ∧ vA TU h (rR TU h 25 0 - 1) ∧ (rS TU h (rR TU h 25 0 - 1)).1 = 100 ∧ inb (h.1 25 3) ((rS TU h (rR TU h 25 0 - 1)).2) ∧ (((h.1 (rR TU h 25 0 - 1) (h.1 25 3)) = 40 → p_Reader_sign_68 Q   (h.1 (rR TU h 25 0 - 1) (h.1 25 3)) (wI h 25 3 ((h.1 25 3) + 1))) ∧ (¬ (h.1 (rR TU h 25 0 - 1) (h.1 25 3)) = 40 → (((h.1 (rR TU h 25 0 - 1) (h.1 25 3)) = 41 → p_Reader_sign_68 Q   (h.1 (rR TU h 25 0 - 1) (h.1 25 3)) (wI h 25 3 ((h.1 25 3) + 1))) ∧ (¬ (h.1 (rR TU h 25 0 - 1) (h.1 25 3)) = 41 → (((h.1 (rR TU h 25 0 - 1) (h.1 25 3)) = 59 → p_Reader_sign_68 Q   (h.1 (rR TU h 25 0 - 1) (h.1 25 3)) (wI h 25 3 ((h.1 25 3) + 1))) ∧ (¬ (h.1 (rR TU h 25 0 - 1) (h.1 25 3)) = 59 → (((h.1 (rR TU h 25 0 - 1) (h.1 25 3)) = 43 → p_Reader_sign_68 Q   (h.1 (rR TU h 25 0 - 1) (h.1 25 3)) (wI h 25 3 ((h.1 25 3) + 1))) ∧ (¬ (h.1 (rR TU h 25 0 - 1) (h.1 25 3)) = 43 → (((h.1 (rR TU h 25 0 - 1) (h.1 25 3)) = 45 → p_Reader_sign_68 Q   (h.1 (rR TU h 25 0 - 1) (h.1 25 3)) (wI h 25 3 ((h.1 25 3) + 1))) ∧ (¬ (h.1 (rR TU h 25 0 - 1) (h.1 25 3)) = 45 → (((h.1 (rR TU h 25 0 - 1) (h.1 25 3)) = 42 → p_Reader_sign_68 Q   (h.1 (rR TU h 25 0 - 1) (h.1 25 3)) (wI h 25 3 ((h.1 25 3) + 1))) ∧ (¬ (h.1 (rR TU h 25 0 - 1) (h.1 25 3)) = 42 → (((h.1 (rR TU h 25 0 - 1) (h.1 25 3)) = 60 → p_Reader_sign_68 Q   (h.1 (rR TU h 25 0 - 1) (h.1 25 3)) (wI h 25 3 ((h.1 25 3) + 1))) ∧ (¬ (h.1 (rR TU h 25 0 - 1) (h.1 25 3)) = 60 → ((¬ (h.1 (rR TU h 25 0 - 1) (h.1 25 3)) = 61 → p_Reader_sign_73 Q   (h.1 (rR TU h 25 0 - 1) (h.1 25 3)) 0 (wI h 25 3 ((h.1 25 3) + 1))) ∧ ((h.1 (rR TU h 25 0 - 1) (h.1 25 3)) = 61 → p_Reader_sign_68 Q   (h.1 (rR TU h 25 0 - 1) (h.1 25 3)) (wI h 25 3 ((h.1 25 3) + 1))))))))))))))))))
set_option maxRecDepth 20000 in
theorem r_Reader_sign_73U {G : GG} {d : Nat} {Q : AH → Prop} (x1 : Int32) (s0 : Int32) (h : AH) (H : p_Reader_sign_73 Q x1 s0 h) : Att G TU m_Reader_sign d 73 [some (.ref 25), some (.int x1), none] [.int s0] h 0 0 (vQ Q) := by
  refine A_istore_n [some (.ref 25), some (.int x1), some (.int s0)] d_Reader_sign_73 (by decide) rfl rfl ?_
  refine A_aload_n d_Reader_sign_74 rfl ?_
  refine A_iload_n d_Reader_sign_75 rfl ?_
  refine A_if_eq 83 d_Reader_sign_76 (by decide) (fun z => ?_) (fun z => ?_)
  · have H := H.1 z
    refine A_iconst 1 (by decide) d_Reader_sign_83 ?_
    refine A_putI (k := 5) d_Reader_sign_84 (fo_Reader_53_7 rfl) (Or.inr ⟨rfl, _, ft_7_5⟩) (fun z => by cases z) rfl (vA_s (by decide)) rfl rfl rfl ?_
    exact A_ret d_Reader_sign_87 rfl H
  · have H := H.2 z
    refine A_iload_n d_Reader_sign_79 rfl ?_
    refine A_goto 84 d_Reader_sign_80 (by decide) ?_
    refine A_putI (k := 5) d_Reader_sign_84 (fo_Reader_53_7 rfl) (Or.inr ⟨rfl, _, ft_7_5⟩) (fun z => by cases z) rfl (vA_s (by decide)) rfl rfl rfl ?_
    exact A_ret d_Reader_sign_87 rfl H
set_option maxRecDepth 20000 in
theorem r_Reader_sign_68U {G : GG} {d : Nat} {Q : AH → Prop} (x1 : Int32) (h : AH) (H : p_Reader_sign_68 Q x1 h) : Att G TU m_Reader_sign d 68 [some (.ref 25), some (.int x1), none] [] h 0 0 (vQ Q) := by
  refine A_iconst 1 (by decide) d_Reader_sign_68 ?_
  refine A_goto 73 d_Reader_sign_69 (by decide) ?_
  exact r_Reader_sign_73U   _ _ _ H
set_option maxRecDepth 20000 in
theorem r_Reader_sign_0U {G : GG} {d : Nat} {Q : AH → Prop} (h : AH) (H : p_Reader_signU Q h) : Att G TU m_Reader_sign d 0 [some (.ref 25), none, none] [] h 0 0 (vQ Q) := by
  refine A_aload_n d_Reader_sign_0 rfl ?_
  obtain ⟨c1, H⟩ := H
  refine A_get (v := .ref (rR TU h 25 0 - 1)) d_Reader_sign_1 (fo_Reader_9_7 rfl) (vA_s (by decide)) rfl (vR_pos c1) ?_
  refine A_aload_n d_Reader_sign_4 rfl ?_
  refine A_get (v := .int (h.1 25 3)) d_Reader_sign_5 (fo_Reader_34_7 rfl) (vA_s (by decide)) rfl (by first | rfl | (show Value.int _ = Value.int _; simp [wI, wL, wR, wC, up])) ?_
  obtain ⟨c2, H⟩ := H
  obtain ⟨c3, H⟩ := H
  obtain ⟨c4, H⟩ := H
  refine A_ialdv (n := _) (v := (h.1 (rR TU h 25 0 - 1) (h.1 25 3))) d_Reader_sign_8 c2 (rS_ex c3) c4 rfl ?_
  refine A_istore_n [some (.ref 25), some (.int (h.1 (rR TU h 25 0 - 1) (h.1 25 3))), none] d_Reader_sign_9 (by decide) rfl rfl ?_
  refine A_aload_n d_Reader_sign_10 rfl ?_
  refine A_dup rfl d_Reader_sign_11 ?_
  refine A_get (v := .int (h.1 25 3)) d_Reader_sign_12 (fo_Reader_34_7 rfl) (vA_s (by decide)) rfl (by first | rfl | (show Value.int _ = Value.int _; simp [wI, wL, wR, wC, up])) ?_
  refine A_iconst 1 (by decide) d_Reader_sign_15 ?_
  refine A_iadd d_Reader_sign_16 ?_
  refine A_putI (k := 3) d_Reader_sign_17 (fo_Reader_34_7 rfl) (Or.inr ⟨rfl, _, ft_7_3⟩) (fun z => by cases z) rfl (vA_s (by decide)) rfl rfl rfl ?_
  refine A_iload_n d_Reader_sign_20 rfl ?_
  refine A_bipush 40 (by decide) d_Reader_sign_21 ?_
  refine A_icmp_eq 68 d_Reader_sign_23 (by decide) (fun z => ?_) (fun z => ?_)
  · have H := H.1 z
    exact r_Reader_sign_68U   _ _ H
  · have H := H.2 z
    refine A_iload_n d_Reader_sign_26 rfl ?_
    refine A_bipush 41 (by decide) d_Reader_sign_27 ?_
    refine A_icmp_eq 68 d_Reader_sign_29 (by decide) (fun z => ?_) (fun z => ?_)
    · have H := H.1 z
      exact r_Reader_sign_68U   _ _ H
    · have H := H.2 z
      refine A_iload_n d_Reader_sign_32 rfl ?_
      refine A_bipush 59 (by decide) d_Reader_sign_33 ?_
      refine A_icmp_eq 68 d_Reader_sign_35 (by decide) (fun z => ?_) (fun z => ?_)
      · have H := H.1 z
        exact r_Reader_sign_68U   _ _ H
      · have H := H.2 z
        refine A_iload_n d_Reader_sign_38 rfl ?_
        refine A_bipush 43 (by decide) d_Reader_sign_39 ?_
        refine A_icmp_eq 68 d_Reader_sign_41 (by decide) (fun z => ?_) (fun z => ?_)
        · have H := H.1 z
          exact r_Reader_sign_68U   _ _ H
        · have H := H.2 z
          refine A_iload_n d_Reader_sign_44 rfl ?_
          refine A_bipush 45 (by decide) d_Reader_sign_45 ?_
          refine A_icmp_eq 68 d_Reader_sign_47 (by decide) (fun z => ?_) (fun z => ?_)
          · have H := H.1 z
            exact r_Reader_sign_68U   _ _ H
          · have H := H.2 z
            refine A_iload_n d_Reader_sign_50 rfl ?_
            refine A_bipush 42 (by decide) d_Reader_sign_51 ?_
            refine A_icmp_eq 68 d_Reader_sign_53 (by decide) (fun z => ?_) (fun z => ?_)
            · have H := H.1 z
              exact r_Reader_sign_68U   _ _ H
            · have H := H.2 z
              refine A_iload_n d_Reader_sign_56 rfl ?_
              refine A_bipush 60 (by decide) d_Reader_sign_57 ?_
              refine A_icmp_eq 68 d_Reader_sign_59 (by decide) (fun z => ?_) (fun z => ?_)
              · have H := H.1 z
                exact r_Reader_sign_68U   _ _ H
              · have H := H.2 z
                refine A_iload_n d_Reader_sign_62 rfl ?_
                refine A_bipush 61 (by decide) d_Reader_sign_63 ?_
                refine A_icmp_ne 72 d_Reader_sign_65 (by decide) (fun z => ?_) (fun z => ?_)
                · have H := H.1 z
                  refine A_iconst 0 (by decide) d_Reader_sign_72 ?_
                  exact r_Reader_sign_73U   _ _ _ H
                · have H := H.2 z
                  exact r_Reader_sign_68U   _ _ H
set_option maxRecDepth 20000 in
theorem ok_Reader_signU {G : GG} {d : Nat} {Q : AH → Prop} {h : AH} (H : p_Reader_signU Q h) : WP G TU m_Reader_sign d [.ref 25] h 0 0 (vQ Q) := by
  exact WP.enter 2 (by decide) rfl rfl (r_Reader_sign_0U h H)
def p_Law_addU (Q : AH → Prop) (a0 : Nat) (x1 : Int32) (h : AH) : Prop := vA TU h a0 ∧ (rS TU h a0).1 = 6 ∧ (((h.1 a0 2) < 160 → 0 < rR TU h a0 0 ∧ vA TU h (rR TU h a0 0 - 1) ∧ (rS TU h (rR TU h a0 0 - 1)).1 = 100 ∧ inb (h.1 a0 2) ((rS TU h (rR TU h a0 0 - 1)).2) ∧ Q (wI (wI h (rR TU h a0 0 - 1) (h.1 a0 2) x1) a0 2 (((wI h (rR TU h a0 0 - 1) (h.1 a0 2) x1).1 a0 2) + 1))) ∧ (¬ (h.1 a0 2) < 160 → Q h))
set_option maxRecDepth 20000 in
theorem r_Law_add_0U {G : GG} {d : Nat} {Q : AH → Prop} (a0 : Nat) (x1 : Int32) (h : AH) (H : p_Law_addU Q a0 x1 h) : Att G TU m_Law_add d 0 [some (.ref a0), some (.int x1)] [] h 0 0 (vQ Q) := by
  refine A_aload_n d_Law_add_0 rfl ?_
  obtain ⟨c1, H⟩ := H
  obtain ⟨c2, H⟩ := H
  refine A_get (v := .int (h.1 a0 2)) d_Law_add_1 (fo_Law_18_6 rfl) c1 c2 (by first | rfl | (show Value.int _ = Value.int _; simp [wI, wL, wR, wC, up])) ?_
  refine A_sipush 160 (by decide) d_Law_add_4 ?_
  refine A_icmp_lt 11 d_Law_add_7 (by decide) (fun z => ?_) (fun z => ?_)
  · have H := H.1 z
    refine A_aload_n d_Law_add_11 rfl ?_
    obtain ⟨c3, H⟩ := H
    refine A_get (v := .ref (rR TU h a0 0 - 1)) d_Law_add_12 (fo_Law_11_6 rfl) c1 c2 (vR_pos c3) ?_
    refine A_aload_n d_Law_add_15 rfl ?_
    refine A_get (v := .int (h.1 a0 2)) d_Law_add_16 (fo_Law_18_6 rfl) c1 c2 (by first | rfl | (show Value.int _ = Value.int _; simp [wI, wL, wR, wC, up])) ?_
    refine A_iload_n d_Law_add_19 rfl ?_
    obtain ⟨c4, H⟩ := H
    obtain ⟨c5, H⟩ := H
    obtain ⟨c6, H⟩ := H
    refine A_iast (n := _) d_Law_add_20 c4 (rS_ex c5) c6 ?_
    refine A_aload_n d_Law_add_21 rfl ?_
    refine A_dup rfl d_Law_add_22 ?_
    refine A_get (v := .int ((wI h (rR TU h a0 0 - 1) (h.1 a0 2) x1).1 a0 2)) d_Law_add_23 (fo_Law_18_6 rfl) c1 c2 (by first | rfl | (show Value.int _ = Value.int _; simp [wI, wL, wR, wC, up])) ?_
    refine A_iconst 1 (by decide) d_Law_add_26 ?_
    refine A_iadd d_Law_add_27 ?_
    refine A_putI (k := 2) d_Law_add_28 (fo_Law_18_6 rfl) (Or.inr ⟨rfl, _, ft_6_2⟩) (fun z => by cases z) rfl c1 c2 rfl rfl ?_
    exact A_ret d_Law_add_31 rfl H
  · have H := H.2 z
    exact A_ret d_Law_add_10 rfl H
set_option maxRecDepth 20000 in
theorem ok_Law_addU {G : GG} {d : Nat} {Q : AH → Prop} {a0 : Nat} {x1 : Int32} {h : AH} (H : p_Law_addU Q a0 x1 h) : WP G TU m_Law_add d [.ref a0, .int x1] h 0 0 (vQ Q) := by
  exact WP.enter 0 (by decide) rfl rfl (r_Law_add_0U a0 x1 h H)
set_option maxRecDepth 20000 in
theorem r_Math_min_0U {G : GG} {d : Nat} {Q : Int32 → AH → Prop} (x0 : Int32) (x1 : Int32) (h : AH) (H : p_Math_min Q x0 x1 h) : Att G TU m_Math_min d 0 [some (.int x0), some (.int x1)] [] h 0 0 (iQ Q) := by
  refine A_iload_n d_Math_min_0 rfl ?_
  refine A_iload_n d_Math_min_1 rfl ?_
  refine A_icmp_gt 9 d_Math_min_2 (by decide) (fun z => ?_) (fun z => ?_)
  · have H := H.1 z
    refine A_iload_n d_Math_min_9 rfl ?_
    exact A_iret d_Math_min_10 rfl rfl H
  · have H := H.2 z
    refine A_iload_n d_Math_min_5 rfl ?_
    refine A_goto 10 d_Math_min_6 (by decide) ?_
    exact A_iret d_Math_min_10 rfl rfl H
set_option maxRecDepth 20000 in
theorem ok_Math_minU {G : GG} {d : Nat} {Q : Int32 → AH → Prop} {x0 : Int32} {x1 : Int32} {h : AH} (H : p_Math_min Q x0 x1 h) : WP G TU m_Math_min d [.int x0, .int x1] h 0 0 (iQ Q) := by
  exact WP.enterF 0 (by decide +kernel) rfl rfl (r_Math_min_0U x0 x1 h H)
set_option maxRecDepth 20000 in
theorem r_Reader_isLetter_0U {G : GG} {d : Nat} {Q : Int32 → AH → Prop} (x0 : Int32) (h : AH) (H : p_Reader_isLetter Q x0 h) : Att G TU m_Reader_isLetter (d + 1) 0 [some (.int x0)] [] h 0 0 (iQ Q) := by
  refine A_iload_n d_Reader_isLetter_0 rfl ?_
  refine A_bipush 97 (by decide) d_Reader_isLetter_1 ?_
  refine A_bipush 122 (by decide) d_Reader_isLetter_3 ?_
  refine A_cI [.int x0, .int 97, .int 122] [] (ct_Reader_140 rfl) d_Reader_isLetter_5 rfl rfl (by decide) (Nat.le_of_ble_eq_true rfl) trivial (ok_UF_withinU (d := d) H) (fun r2 h1 H => ?_)
  exact A_iret d_Reader_isLetter_8 rfl H.1 H.2
set_option maxRecDepth 20000 in
theorem ok_Reader_isLetterU {G : GG} {d : Nat} {Q : Int32 → AH → Prop} {x0 : Int32} {h : AH} (H : p_Reader_isLetter Q x0 h) : WP G TU m_Reader_isLetter (d + 1) [.int x0] h 0 0 (iQ Q) := by
  exact WP.enter 0 (by decide) rfl rfl (r_Reader_isLetter_0U x0 h H)
set_option maxRecDepth 20000 in
theorem r_Reader_isDigit_0U {G : GG} {d : Nat} {Q : Int32 → AH → Prop} (x0 : Int32) (h : AH) (H : p_Reader_isDigit Q x0 h) : Att G TU m_Reader_isDigit (d + 1) 0 [some (.int x0)] [] h 0 0 (iQ Q) := by
  refine A_iload_n d_Reader_isDigit_0 rfl ?_
  refine A_bipush 48 (by decide) d_Reader_isDigit_1 ?_
  refine A_bipush 57 (by decide) d_Reader_isDigit_3 ?_
  refine A_cI [.int x0, .int 48, .int 57] [] (ct_Reader_140 rfl) d_Reader_isDigit_5 rfl rfl (by decide) (Nat.le_of_ble_eq_true rfl) trivial (ok_UF_withinU (d := d) H) (fun r2 h1 H => ?_)
  exact A_iret d_Reader_isDigit_8 rfl H.1 H.2
set_option maxRecDepth 20000 in
theorem ok_Reader_isDigitU {G : GG} {d : Nat} {Q : Int32 → AH → Prop} {x0 : Int32} {h : AH} (H : p_Reader_isDigit Q x0 h) : WP G TU m_Reader_isDigit (d + 1) [.int x0] h 0 0 (iQ Q) := by
  exact WP.enter 0 (by decide) rfl rfl (r_Reader_isDigit_0U x0 h H)
def p_Law_addNameU (Q : AH → Prop) (a0 : Nat) (x1 : Int32) (h : AH) : Prop := vA TU h a0 ∧ (rS TU h a0).1 = 6 ∧ p_Law_addU (fun h3 => Q h3) a0 ((-1) - x1) h
set_option maxRecDepth 20000 in
theorem r_Law_addName_0U {G : GG} {d : Nat} {Q : AH → Prop} (a0 : Nat) (x1 : Int32) (h : AH) (H : p_Law_addNameU Q a0 x1 h) : Att G TU m_Law_addName (d + 1) 0 [some (.ref a0), some (.int x1)] [] h 0 0 (vQ Q) := by
  refine A_aload_n d_Law_addName_0 rfl ?_
  refine A_iconst (-1) (by decide) d_Law_addName_1 ?_
  refine A_iload_n d_Law_addName_2 rfl ?_
  refine A_isub d_Law_addName_3 ?_
  obtain ⟨c1, H⟩ := H
  obtain ⟨c2, H⟩ := H
  refine A_cV [.ref a0, .int ((-1) - x1)] [] (ct_Law_22 rfl) d_Law_addName_4 rfl rfl (by decide) (Nat.le_of_ble_eq_true rfl) (rcA_o (c := 6) rfl c1 c2 (by decide) rfl) (ok_Law_addU (d := d) H) (fun h3 H => ?_)
  exact A_ret d_Law_addName_7 rfl H
set_option maxRecDepth 20000 in
theorem ok_Law_addNameU {G : GG} {d : Nat} {Q : AH → Prop} {a0 : Nat} {x1 : Int32} {h : AH} (H : p_Law_addNameU Q a0 x1 h) : WP G TU m_Law_addName (d + 1) [.ref a0, .int x1] h 0 0 (vQ Q) := by
  exact WP.enter 0 (by decide) rfl rfl (r_Law_addName_0U a0 x1 h H)
def p_Reader_number_5U (Q : AH → Prop) : Nat → AH → Prop
  | 0 => fun  _ => False
  | n + 1 => fun h => let K5 := p_Reader_number_5U Q n; (((h.1 25 1) ≤ (h.1 25 3) → p_Reader_number_68 Q   h) ∧ (¬ (h.1 25 1) ≤ (h.1 25 3) → 0 < rR TU h 25 0 ∧ vA TU h (rR TU h 25 0 - 1) ∧ (rS TU h (rR TU h 25 0 - 1)).1 = 100 ∧ inb (h.1 25 3) ((rS TU h (rR TU h 25 0 - 1)).2) ∧ p_Reader_isDigit (fun r6 h5 => ((r6 = 0 → p_Reader_number_68 Q   h5) ∧ (¬ r6 = 0 → 0 < rR TU h5 25 0 ∧ vA TU h5 (rR TU h5 25 0 - 1) ∧ (rS TU h5 (rR TU h5 25 0 - 1)).1 = 100 ∧ inb (h5.1 25 3) ((rS TU h5 (rR TU h5 25 0 - 1)).2) ∧ K5 (wI (wI h5 25 6 ((((h5.1 25 6) * 10) + (h5.1 (rR TU h5 25 0 - 1) (h5.1 25 3))) - 48)) 25 3 ((h5.1 25 3) + 1))))) (h.1 (rR TU h 25 0 - 1) (h.1 25 3)) h))
def p_Reader_numberU (Q : AH → Prop) (h : AH) : Prop := ∃ n, p_Reader_number_5U Q   n (wI h 25 6 0)
set_option maxRecDepth 20000 in
theorem r_Reader_number_68U {G : GG} {d : Nat} {Q : AH → Prop} (h : AH) (H : p_Reader_number_68 Q h) : Att G TU m_Reader_number (d + 2) 68 [some (.ref 25)] [] h 0 0 (vQ Q) := by
  refine A_aload_n d_Reader_number_68 rfl ?_
  refine A_aload_n d_Reader_number_69 rfl ?_
  refine A_get (v := .int (h.1 25 3)) d_Reader_number_70 (fo_Reader_34_7 rfl) (vA_s (by decide)) rfl (by first | rfl | (show Value.int _ = Value.int _; simp [wI, wL, wR, wC, up])) ?_
  refine A_aload_n d_Reader_number_73 rfl ?_
  refine A_get (v := .int (h.1 25 4)) d_Reader_number_74 (fo_Reader_50_7 rfl) (vA_s (by decide)) rfl (by first | rfl | (show Value.int _ = Value.int _; simp [wI, wL, wR, wC, up])) ?_
  refine A_isub d_Reader_number_77 ?_
  refine A_iconst 4 (by decide) d_Reader_number_78 ?_
  refine A_icmp_le 86 d_Reader_number_79 (by decide) (fun z => ?_) (fun z => ?_)
  · have H := H.1 z
    refine A_iconst 2 (by decide) d_Reader_number_86 ?_
    refine A_putI (k := 5) d_Reader_number_87 (fo_Reader_53_7 rfl) (Or.inr ⟨rfl, _, ft_7_5⟩) (fun z => by cases z) rfl (vA_s (by decide)) rfl rfl rfl ?_
    exact A_ret d_Reader_number_90 rfl H
  · have H := H.2 z
    refine A_iconst 1 (by decide) d_Reader_number_82 ?_
    refine A_goto 87 d_Reader_number_83 (by decide) ?_
    refine A_putI (k := 5) d_Reader_number_87 (fo_Reader_53_7 rfl) (Or.inr ⟨rfl, _, ft_7_5⟩) (fun z => by cases z) rfl (vA_s (by decide)) rfl rfl rfl ?_
    exact A_ret d_Reader_number_90 rfl H
set_option maxRecDepth 20000 in
theorem r_Reader_number_5U {G : GG} {d : Nat} {Q : AH → Prop} : ∀ (n : Nat) (h : AH), p_Reader_number_5U Q n h → Att G TU m_Reader_number (d + 2) 5 [some (.ref 25)] [] h 0 0 (vQ Q) := by
  intro n
  induction n with
  | zero => intro h H; exact H.elim
  | succ n k5 =>
    intro h H
    refine A_aload_n d_Reader_number_5 rfl ?_
    refine A_get (v := .int (h.1 25 3)) d_Reader_number_6 (fo_Reader_34_7 rfl) (vA_s (by decide)) rfl (by first | rfl | (show Value.int _ = Value.int _; simp [wI, wL, wR, wC, up])) ?_
    refine A_aload_n d_Reader_number_9 rfl ?_
    refine A_get (v := .int (h.1 25 1)) d_Reader_number_10 (fo_Reader_21_7 rfl) (vA_s (by decide)) rfl (by first | rfl | (show Value.int _ = Value.int _; simp [wI, wL, wR, wC, up])) ?_
    refine A_icmp_ge 68 d_Reader_number_13 (by decide) (fun z => ?_) (fun z => ?_)
    · have H := H.1 z
      exact r_Reader_number_68U   _ H
    · have H := H.2 z
      refine A_aload_n d_Reader_number_16 rfl ?_
      obtain ⟨c1, H⟩ := H
      refine A_get (v := .ref (rR TU h 25 0 - 1)) d_Reader_number_17 (fo_Reader_9_7 rfl) (vA_s (by decide)) rfl (vR_pos c1) ?_
      refine A_aload_n d_Reader_number_20 rfl ?_
      refine A_get (v := .int (h.1 25 3)) d_Reader_number_21 (fo_Reader_34_7 rfl) (vA_s (by decide)) rfl (by first | rfl | (show Value.int _ = Value.int _; simp [wI, wL, wR, wC, up])) ?_
      obtain ⟨c2, H⟩ := H
      obtain ⟨c3, H⟩ := H
      obtain ⟨c4, H⟩ := H
      refine A_ialdv (n := _) (v := (h.1 (rR TU h 25 0 - 1) (h.1 25 3))) d_Reader_number_24 c2 (rS_ex c3) c4 rfl ?_
      refine A_cI [.int (h.1 (rR TU h 25 0 - 1) (h.1 25 3))] [] (ct_Reader_90 rfl) d_Reader_number_25 rfl rfl (by decide) (Nat.le_of_ble_eq_true rfl) trivial (ok_Reader_isDigitU (d := d) H) (fun r6 h5 H => ?_)
      refine A_if_eq 68 d_Reader_number_28 (by decide) (fun z => ?_) (fun z => ?_)
      · have H := H.1 z
        exact r_Reader_number_68U   _ H
      · have H := H.2 z
        refine A_aload_n d_Reader_number_31 rfl ?_
        refine A_aload_n d_Reader_number_32 rfl ?_
        refine A_get (v := .int (h5.1 25 6)) d_Reader_number_33 (fo_Reader_78_7 rfl) (vA_s (by decide)) rfl (by first | rfl | (show Value.int _ = Value.int _; simp [wI, wL, wR, wC, up])) ?_
        refine A_bipush 10 (by decide) d_Reader_number_36 ?_
        refine A_imul d_Reader_number_38 ?_
        refine A_aload_n d_Reader_number_39 rfl ?_
        obtain ⟨c7, H⟩ := H
        refine A_get (v := .ref (rR TU h5 25 0 - 1)) d_Reader_number_40 (fo_Reader_9_7 rfl) (vA_s (by decide)) rfl (vR_pos c7) ?_
        refine A_aload_n d_Reader_number_43 rfl ?_
        refine A_get (v := .int (h5.1 25 3)) d_Reader_number_44 (fo_Reader_34_7 rfl) (vA_s (by decide)) rfl (by first | rfl | (show Value.int _ = Value.int _; simp [wI, wL, wR, wC, up])) ?_
        obtain ⟨c8, H⟩ := H
        obtain ⟨c9, H⟩ := H
        obtain ⟨c10, H⟩ := H
        refine A_ialdv (n := _) (v := (h5.1 (rR TU h5 25 0 - 1) (h5.1 25 3))) d_Reader_number_47 c8 (rS_ex c9) c10 rfl ?_
        refine A_iadd d_Reader_number_48 ?_
        refine A_bipush 48 (by decide) d_Reader_number_49 ?_
        refine A_isub d_Reader_number_51 ?_
        refine A_putI (k := 6) d_Reader_number_52 (fo_Reader_78_7 rfl) (Or.inr ⟨rfl, _, ft_7_6⟩) (fun z => by cases z) rfl (vA_s (by decide)) rfl rfl rfl ?_
        refine A_aload_n d_Reader_number_55 rfl ?_
        refine A_dup rfl d_Reader_number_56 ?_
        refine A_get (v := .int (h5.1 25 3)) d_Reader_number_57 (fo_Reader_34_7 rfl) (vA_s (by decide)) rfl (by first | rfl | (show Value.int _ = Value.int _; simp [wI, wL, wR, wC, up])) ?_
        refine A_iconst 1 (by decide) d_Reader_number_60 ?_
        refine A_iadd d_Reader_number_61 ?_
        refine A_putI (k := 3) d_Reader_number_62 (fo_Reader_34_7 rfl) (Or.inr ⟨rfl, _, ft_7_3⟩) (fun z => by cases z) rfl (vA_s (by decide)) rfl rfl rfl ?_
        refine A_goto 5 d_Reader_number_65 (by decide) ?_
        exact k5 _ H
set_option maxRecDepth 20000 in
theorem r_Reader_number_0U {G : GG} {d : Nat} {Q : AH → Prop} (h : AH) (H : p_Reader_numberU Q h) : Att G TU m_Reader_number (d + 2) 0 [some (.ref 25)] [] h 0 0 (vQ Q) := by
  refine A_aload_n d_Reader_number_0 rfl ?_
  refine A_iconst 0 (by decide) d_Reader_number_1 ?_
  refine A_putI (k := 6) d_Reader_number_2 (fo_Reader_78_7 rfl) (Or.inr ⟨rfl, _, ft_7_6⟩) (fun z => by cases z) rfl (vA_s (by decide)) rfl rfl rfl ?_
  obtain ⟨n9, H⟩ := H
  exact r_Reader_number_5U   n9 _ H
set_option maxRecDepth 20000 in
theorem ok_Reader_numberU {G : GG} {d : Nat} {Q : AH → Prop} {h : AH} (H : p_Reader_numberU Q h) : WP G TU m_Reader_number (d + 2) [.ref 25] h 0 0 (vQ Q) := by
  exact WP.enter 0 (by decide) rfl rfl (r_Reader_number_0U h H)
def p_Reader_isWord_23U (Q : Int32 → AH → Prop) : Nat → Nat → Int32 → AH → Prop
  | 0 => fun _ _ _ => False
  | n + 1 => fun a1 x2 h => let K23 := p_Reader_isWord_23U Q n; (((h.1 25 3) ≤ x2 → Q 1 h) ∧ (¬ (h.1 25 3) ≤ x2 → 0 < rR TU h 25 0 ∧ vA TU h (rR TU h 25 0 - 1) ∧ (rS TU h (rR TU h 25 0 - 1)).1 = 100 ∧ inb x2 ((rS TU h (rR TU h 25 0 - 1)).2) ∧ p_Str_charAt (fun r6 h5 => (((h.1 (rR TU h 25 0 - 1) x2) = r6 → K23 a1 (x2 + 1) h5) ∧ (¬ (h.1 (rR TU h 25 0 - 1) x2) = r6 → Q 0 h5))) a1 (x2 - (h.1 25 4)) h))
def p_Reader_isWordU (Q : Int32 → AH → Prop) (a1 : Nat) (h : AH) : Prop := p_Str_length (fun r2 h1 => ((((h.1 25 3) - (h.1 25 4)) = r2 → ∃ n, p_Reader_isWord_23U Q   n a1 (h1.1 25 4) h1) ∧ (¬ ((h.1 25 3) - (h.1 25 4)) = r2 → Q 0 h1))) a1 h
set_option maxRecDepth 20000 in
theorem r_Reader_isWord_23U {G : GG} {d : Nat} {Q : Int32 → AH → Prop} : ∀ (n : Nat) (a1 : Nat) (x2 : Int32) (h : AH), p_Reader_isWord_23U Q n a1 x2 h → Att G TU m_Reader_isWord (d + 4) 23 [some (.ref 25), some (.ref a1), some (.int x2)] [] h 0 0 (iQ Q) := by
  intro n
  induction n with
  | zero => intro a1 x2 h H; exact H.elim
  | succ n k23 =>
    intro a1 x2 h H
    refine A_iload_n d_Reader_isWord_23 rfl ?_
    refine A_aload_n d_Reader_isWord_24 rfl ?_
    refine A_get (v := .int (h.1 25 3)) d_Reader_isWord_25 (fo_Reader_34_7 rfl) (vA_s (by decide)) rfl (by first | rfl | (show Value.int _ = Value.int _; simp [wI, wL, wR, wC, up])) ?_
    refine A_icmp_ge 58 d_Reader_isWord_28 (by decide) (fun z => ?_) (fun z => ?_)
    · have H := H.1 z
      refine A_iconst 1 (by decide) d_Reader_isWord_58 ?_
      exact A_iret d_Reader_isWord_59 rfl rfl H
    · have H := H.2 z
      refine A_aload_n d_Reader_isWord_31 rfl ?_
      obtain ⟨c1, H⟩ := H
      refine A_get (v := .ref (rR TU h 25 0 - 1)) d_Reader_isWord_32 (fo_Reader_9_7 rfl) (vA_s (by decide)) rfl (vR_pos c1) ?_
      refine A_iload_n d_Reader_isWord_35 rfl ?_
      obtain ⟨c2, H⟩ := H
      obtain ⟨c3, H⟩ := H
      obtain ⟨c4, H⟩ := H
      refine A_ialdv (n := _) (v := (h.1 (rR TU h 25 0 - 1) x2)) d_Reader_isWord_36 c2 (rS_ex c3) c4 rfl ?_
      refine A_aload_n d_Reader_isWord_37 rfl ?_
      refine A_iload_n d_Reader_isWord_38 rfl ?_
      refine A_aload_n d_Reader_isWord_39 rfl ?_
      refine A_get (v := .int (h.1 25 4)) d_Reader_isWord_40 (fo_Reader_50_7 rfl) (vA_s (by decide)) rfl (by first | rfl | (show Value.int _ = Value.int _; simp [wI, wL, wR, wC, up])) ?_
      refine A_isub d_Reader_isWord_43 ?_
      refine A_cI [.ref a1, .int (x2 - (h.1 25 4))] [.int (h.1 (rR TU h 25 0 - 1) x2)] (ct_Reader_136 rfl) d_Reader_isWord_44 rfl rfl (by decide) (Nat.le_of_ble_eq_true rfl) (by obtain ⟨i9, e9, hi9, -⟩ := H; exact rcA_s (by rw [e9]) hi9) (ok_Str_charAt (d := d) H) (fun r6 h5 H => ?_)
      refine A_icmp_eq 52 d_Reader_isWord_47 (by decide) (fun z => ?_) (fun z => ?_)
      · have H := H.1 z
        refine A_iinc 1 [some (.ref 25), some (.ref a1), some (.int (x2 + 1))] d_Reader_isWord_52 rfl (by decide) (by decide) rfl rfl ?_
        refine A_goto 23 d_Reader_isWord_55 (by decide) ?_
        exact k23 _ _ _ H
      · have H := H.2 z
        refine A_iconst 0 (by decide) d_Reader_isWord_50 ?_
        exact A_iret d_Reader_isWord_51 rfl rfl H
set_option maxRecDepth 20000 in
theorem r_Reader_isWord_0U {G : GG} {d : Nat} {Q : Int32 → AH → Prop} (a1 : Nat) (h : AH) (H : p_Reader_isWordU Q a1 h) : Att G TU m_Reader_isWord (d + 4) 0 [some (.ref 25), some (.ref a1), none] [] h 0 0 (iQ Q) := by
  refine A_aload_n d_Reader_isWord_0 rfl ?_
  refine A_get (v := .int (h.1 25 3)) d_Reader_isWord_1 (fo_Reader_34_7 rfl) (vA_s (by decide)) rfl (by first | rfl | (show Value.int _ = Value.int _; simp [wI, wL, wR, wC, up])) ?_
  refine A_aload_n d_Reader_isWord_4 rfl ?_
  refine A_get (v := .int (h.1 25 4)) d_Reader_isWord_5 (fo_Reader_50_7 rfl) (vA_s (by decide)) rfl (by first | rfl | (show Value.int _ = Value.int _; simp [wI, wL, wR, wC, up])) ?_
  refine A_isub d_Reader_isWord_8 ?_
  refine A_aload_n d_Reader_isWord_9 rfl ?_
  refine A_cI [.ref a1] [.int ((h.1 25 3) - (h.1 25 4))] (ct_Reader_131 rfl) d_Reader_isWord_10 rfl rfl (by decide) (Nat.le_of_ble_eq_true rfl) (by obtain ⟨i9, e9, hi9, -⟩ := H; exact rcA_s (by rw [e9]) hi9) (ok_Str_length (d := d + 2) H) (fun r2 h1 H => ?_)
  refine A_icmp_eq 18 d_Reader_isWord_13 (by decide) (fun z => ?_) (fun z => ?_)
  · have H := H.1 z
    refine A_aload_n d_Reader_isWord_18 rfl ?_
    refine A_get (v := .int (h1.1 25 4)) d_Reader_isWord_19 (fo_Reader_50_7 rfl) (vA_s (by decide)) rfl (by first | rfl | (show Value.int _ = Value.int _; simp [wI, wL, wR, wC, up])) ?_
    refine A_istore_n [some (.ref 25), some (.ref a1), some (.int (h1.1 25 4))] d_Reader_isWord_22 (by decide) rfl rfl ?_
    obtain ⟨n9, H⟩ := H
    exact r_Reader_isWord_23U   n9 _ _ _ H
  · have H := H.2 z
    refine A_iconst 0 (by decide) d_Reader_isWord_16 ?_
    exact A_iret d_Reader_isWord_17 rfl rfl H
set_option maxRecDepth 20000 in
theorem ok_Reader_isWordU {G : GG} {d : Nat} {Q : Int32 → AH → Prop} {a1 : Nat} {h : AH} (H : p_Reader_isWordU Q a1 h) : WP G TU m_Reader_isWord (d + 4) [.ref 25, .ref a1] h 0 0 (iQ Q) := by
  exact WP.enter 1 (by decide) rfl rfl (r_Reader_isWord_0U a1 h H)
def p_Reader_nameReadU (Q : Int32 → AH → Prop) (h : AH) : Prop := p_Reader_isWordU (fun r2 h1 => ((r2 = 0 → p_Reader_isWordU (fun r4 h3 => ((r4 = 0 → p_Reader_isWordU (fun r6 h5 => ((r6 = 0 → p_Reader_isWordU (fun r8 h7 => ((r8 = 0 → p_Reader_isWordU (fun r10 h9 => ((r10 = 0 → p_Reader_isWordU (fun r12 h11 => ((r12 = 0 → Q (-1) h11) ∧ (¬ r12 = 0 → Q 5 h11))) (1000000 + 12) h9) ∧ (¬ r10 = 0 → Q 4 h9))) (1000000 + 11) h7) ∧ (¬ r8 = 0 → Q 3 h7))) (1000000 + 10) h5) ∧ (¬ r6 = 0 → Q 2 h5))) (1000000 + 9) h3) ∧ (¬ r4 = 0 → Q 1 h3))) (1000000 + 8) h1) ∧ (¬ r2 = 0 → Q 0 h1))) (1000000 + 7) h
set_option maxRecDepth 20000 in
theorem r_Reader_nameRead_0U {G : GG} {d : Nat} {Q : Int32 → AH → Prop} (h : AH) (H : p_Reader_nameReadU Q h) : Att G TU m_Reader_nameRead (d + 5) 0 [some (.ref 25)] [] h 0 0 (iQ Q) := by
  refine A_aload_n d_Reader_nameRead_0 rfl ?_
  refine A_ldcS 7 d_Reader_nameRead_1 rfl rfl ?_
  refine A_cI [.ref 25, .ref (1000000 + 7)] [] (ct_Reader_101 rfl) d_Reader_nameRead_3 rfl rfl (by decide) (Nat.le_of_ble_eq_true rfl) (rcA_o (c := 7) rfl (vA_s (by decide)) rfl (by decide) rfl) (ok_Reader_isWordU (d := d) H) (fun r2 h1 H => ?_)
  refine A_if_eq 11 d_Reader_nameRead_6 (by decide) (fun z => ?_) (fun z => ?_)
  · have H := H.1 z
    refine A_aload_n d_Reader_nameRead_11 rfl ?_
    refine A_ldcS 8 d_Reader_nameRead_12 rfl rfl ?_
    refine A_cI [.ref 25, .ref (1000000 + 8)] [] (ct_Reader_101 rfl) d_Reader_nameRead_14 rfl rfl (by decide) (Nat.le_of_ble_eq_true rfl) (rcA_o (c := 7) rfl (vA_s (by decide)) rfl (by decide) rfl) (ok_Reader_isWordU (d := d) H) (fun r4 h3 H => ?_)
    refine A_if_eq 22 d_Reader_nameRead_17 (by decide) (fun z => ?_) (fun z => ?_)
    · have H := H.1 z
      refine A_aload_n d_Reader_nameRead_22 rfl ?_
      refine A_ldcS 9 d_Reader_nameRead_23 rfl rfl ?_
      refine A_cI [.ref 25, .ref (1000000 + 9)] [] (ct_Reader_101 rfl) d_Reader_nameRead_25 rfl rfl (by decide) (Nat.le_of_ble_eq_true rfl) (rcA_o (c := 7) rfl (vA_s (by decide)) rfl (by decide) rfl) (ok_Reader_isWordU (d := d) H) (fun r6 h5 H => ?_)
      refine A_if_eq 33 d_Reader_nameRead_28 (by decide) (fun z => ?_) (fun z => ?_)
      · have H := H.1 z
        refine A_aload_n d_Reader_nameRead_33 rfl ?_
        refine A_ldcS 10 d_Reader_nameRead_34 rfl rfl ?_
        refine A_cI [.ref 25, .ref (1000000 + 10)] [] (ct_Reader_101 rfl) d_Reader_nameRead_36 rfl rfl (by decide) (Nat.le_of_ble_eq_true rfl) (rcA_o (c := 7) rfl (vA_s (by decide)) rfl (by decide) rfl) (ok_Reader_isWordU (d := d) H) (fun r8 h7 H => ?_)
        refine A_if_eq 44 d_Reader_nameRead_39 (by decide) (fun z => ?_) (fun z => ?_)
        · have H := H.1 z
          refine A_aload_n d_Reader_nameRead_44 rfl ?_
          refine A_ldcS 11 d_Reader_nameRead_45 rfl rfl ?_
          refine A_cI [.ref 25, .ref (1000000 + 11)] [] (ct_Reader_101 rfl) d_Reader_nameRead_47 rfl rfl (by decide) (Nat.le_of_ble_eq_true rfl) (rcA_o (c := 7) rfl (vA_s (by decide)) rfl (by decide) rfl) (ok_Reader_isWordU (d := d) H) (fun r10 h9 H => ?_)
          refine A_if_eq 55 d_Reader_nameRead_50 (by decide) (fun z => ?_) (fun z => ?_)
          · have H := H.1 z
            refine A_aload_n d_Reader_nameRead_55 rfl ?_
            refine A_ldcS 12 d_Reader_nameRead_56 rfl rfl ?_
            refine A_cI [.ref 25, .ref (1000000 + 12)] [] (ct_Reader_101 rfl) d_Reader_nameRead_58 rfl rfl (by decide) (Nat.le_of_ble_eq_true rfl) (rcA_o (c := 7) rfl (vA_s (by decide)) rfl (by decide) rfl) (ok_Reader_isWordU (d := d) H) (fun r12 h11 H => ?_)
            refine A_if_eq 66 d_Reader_nameRead_61 (by decide) (fun z => ?_) (fun z => ?_)
            · have H := H.1 z
              refine A_iconst (-1) (by decide) d_Reader_nameRead_66 ?_
              exact A_iret d_Reader_nameRead_67 rfl rfl H
            · have H := H.2 z
              refine A_iconst 5 (by decide) d_Reader_nameRead_64 ?_
              exact A_iret d_Reader_nameRead_65 rfl rfl H
          · have H := H.2 z
            refine A_iconst 4 (by decide) d_Reader_nameRead_53 ?_
            exact A_iret d_Reader_nameRead_54 rfl rfl H
        · have H := H.2 z
          refine A_iconst 3 (by decide) d_Reader_nameRead_42 ?_
          exact A_iret d_Reader_nameRead_43 rfl rfl H
      · have H := H.2 z
        refine A_iconst 2 (by decide) d_Reader_nameRead_31 ?_
        exact A_iret d_Reader_nameRead_32 rfl rfl H
    · have H := H.2 z
      refine A_iconst 1 (by decide) d_Reader_nameRead_20 ?_
      exact A_iret d_Reader_nameRead_21 rfl rfl H
  · have H := H.2 z
    refine A_iconst 0 (by decide) d_Reader_nameRead_9 ?_
    exact A_iret d_Reader_nameRead_10 rfl rfl H
set_option maxRecDepth 20000 in
theorem ok_Reader_nameReadU {G : GG} {d : Nat} {Q : Int32 → AH → Prop} {h : AH} (H : p_Reader_nameReadU Q h) : WP G TU m_Reader_nameRead (d + 5) [.ref 25] h 0 0 (iQ Q) := by
  exact WP.enter 0 (by decide) rfl rfl (r_Reader_nameRead_0U h H)
def p_Reader_word_39U (Q : AH → Prop) (h : AH) : Prop := p_Reader_isWordU (fun r2 h1 => ((r2 = 0 → p_Reader_isWordU (fun r4 h3 => ((r4 = 0 → p_Reader_isWordU (fun r6 h5 => ((r6 = 0 → p_Reader_isWordU (fun r8 h7 => ((r8 = 0 → p_Reader_isWordU (fun r10 h9 => ((r10 = 0 → p_Reader_isWordU (fun r12 h11 => ((r12 = 0 → p_Reader_nameReadU (fun r14 h13 => ((¬ r14 = (-1) → Q (wI (wI h13 25 6 r14) 25 5 3)) ∧ (r14 = (-1) → Q (wI (wI h13 25 6 r14) 25 5 1)))) h11) ∧ (¬ r12 = 0 → Q (wI h11 25 5 6)))) (1000000 + 6) h9) ∧ (¬ r10 = 0 → Q (wI h9 25 5 5)))) (1000000 + 5) h7) ∧ (¬ r8 = 0 → Q (wI h7 25 5 4)))) (1000000 + 4) h5) ∧ (¬ r6 = 0 → Q (wI h5 25 5 9)))) (1000000 + 3) h3) ∧ (¬ r4 = 0 → Q (wI h3 25 5 8)))) (1000000 + 2) h1) ∧ (¬ r2 = 0 → Q (wI h1 25 5 7)))) (1000000 + 1) h
def p_Reader_word_0U (Q : AH → Prop) : Nat → AH → Prop
  | 0 => fun  _ => False
  | n + 1 => fun h => let K0 := p_Reader_word_0U Q n; (((h.1 25 1) ≤ (h.1 25 3) → p_Reader_word_39U Q   h) ∧ (¬ (h.1 25 1) ≤ (h.1 25 3) → 0 < rR TU h 25 0 ∧ vA TU h (rR TU h 25 0 - 1) ∧ (rS TU h (rR TU h 25 0 - 1)).1 = 100 ∧ inb (h.1 25 3) ((rS TU h (rR TU h 25 0 - 1)).2) ∧ p_Reader_isLetter (fun r6 h5 => ((r6 = 0 → p_Reader_word_39U Q   h5) ∧ (¬ r6 = 0 → K0 (wI h5 25 3 ((h5.1 25 3) + 1))))) (h.1 (rR TU h 25 0 - 1) (h.1 25 3)) h))
def p_Reader_wordU (Q : AH → Prop) (h : AH) : Prop := ∃ n, p_Reader_word_0U Q   n h
set_option maxRecDepth 20000 in
theorem r_Reader_word_39U {G : GG} {d : Nat} {Q : AH → Prop} (h : AH) (H : p_Reader_word_39U Q h) : Att G TU m_Reader_word (d + 6) 39 [some (.ref 25)] [] h 0 0 (vQ Q) := by
  refine A_aload_n d_Reader_word_39 rfl ?_
  refine A_ldcS 1 d_Reader_word_40 rfl rfl ?_
  refine A_cI [.ref 25, .ref (1000000 + 1)] [] (ct_Reader_101 rfl) d_Reader_word_42 rfl rfl (by decide) (Nat.le_of_ble_eq_true rfl) (rcA_o (c := 7) rfl (vA_s (by decide)) rfl (by decide) rfl) (ok_Reader_isWordU (d := d + 1) H) (fun r2 h1 H => ?_)
  refine A_if_eq 57 d_Reader_word_45 (by decide) (fun z => ?_) (fun z => ?_)
  · have H := H.1 z
    refine A_aload_n d_Reader_word_57 rfl ?_
    refine A_ldcS 2 d_Reader_word_58 rfl rfl ?_
    refine A_cI [.ref 25, .ref (1000000 + 2)] [] (ct_Reader_101 rfl) d_Reader_word_60 rfl rfl (by decide) (Nat.le_of_ble_eq_true rfl) (rcA_o (c := 7) rfl (vA_s (by decide)) rfl (by decide) rfl) (ok_Reader_isWordU (d := d + 1) H) (fun r4 h3 H => ?_)
    refine A_if_eq 75 d_Reader_word_63 (by decide) (fun z => ?_) (fun z => ?_)
    · have H := H.1 z
      refine A_aload_n d_Reader_word_75 rfl ?_
      refine A_ldcS 3 d_Reader_word_76 rfl rfl ?_
      refine A_cI [.ref 25, .ref (1000000 + 3)] [] (ct_Reader_101 rfl) d_Reader_word_78 rfl rfl (by decide) (Nat.le_of_ble_eq_true rfl) (rcA_o (c := 7) rfl (vA_s (by decide)) rfl (by decide) rfl) (ok_Reader_isWordU (d := d + 1) H) (fun r6 h5 H => ?_)
      refine A_if_eq 93 d_Reader_word_81 (by decide) (fun z => ?_) (fun z => ?_)
      · have H := H.1 z
        refine A_aload_n d_Reader_word_93 rfl ?_
        refine A_ldcS 4 d_Reader_word_94 rfl rfl ?_
        refine A_cI [.ref 25, .ref (1000000 + 4)] [] (ct_Reader_101 rfl) d_Reader_word_96 rfl rfl (by decide) (Nat.le_of_ble_eq_true rfl) (rcA_o (c := 7) rfl (vA_s (by decide)) rfl (by decide) rfl) (ok_Reader_isWordU (d := d + 1) H) (fun r8 h7 H => ?_)
        refine A_if_eq 110 d_Reader_word_99 (by decide) (fun z => ?_) (fun z => ?_)
        · have H := H.1 z
          refine A_aload_n d_Reader_word_110 rfl ?_
          refine A_ldcS 5 d_Reader_word_111 rfl rfl ?_
          refine A_cI [.ref 25, .ref (1000000 + 5)] [] (ct_Reader_101 rfl) d_Reader_word_113 rfl rfl (by decide) (Nat.le_of_ble_eq_true rfl) (rcA_o (c := 7) rfl (vA_s (by decide)) rfl (by decide) rfl) (ok_Reader_isWordU (d := d + 1) H) (fun r10 h9 H => ?_)
          refine A_if_eq 127 d_Reader_word_116 (by decide) (fun z => ?_) (fun z => ?_)
          · have H := H.1 z
            refine A_aload_n d_Reader_word_127 rfl ?_
            refine A_ldcS 6 d_Reader_word_128 rfl rfl ?_
            refine A_cI [.ref 25, .ref (1000000 + 6)] [] (ct_Reader_101 rfl) d_Reader_word_130 rfl rfl (by decide) (Nat.le_of_ble_eq_true rfl) (rcA_o (c := 7) rfl (vA_s (by decide)) rfl (by decide) rfl) (ok_Reader_isWordU (d := d + 1) H) (fun r12 h11 H => ?_)
            refine A_if_eq 145 d_Reader_word_133 (by decide) (fun z => ?_) (fun z => ?_)
            · have H := H.1 z
              refine A_aload_n d_Reader_word_145 rfl ?_
              refine A_aload_n d_Reader_word_146 rfl ?_
              refine A_cI [.ref 25] [.ref 25] (ct_Reader_115 rfl) d_Reader_word_147 rfl rfl (by decide) (Nat.le_of_ble_eq_true rfl) (rcA_o (c := 7) rfl (vA_s (by decide)) rfl (by decide) rfl) (ok_Reader_nameReadU (d := d) H) (fun r14 h13 H => ?_)
              refine A_putI (k := 6) d_Reader_word_150 (fo_Reader_78_7 rfl) (Or.inr ⟨rfl, _, ft_7_6⟩) (fun z => by cases z) rfl (vA_s (by decide)) rfl rfl rfl ?_
              refine A_aload_n d_Reader_word_153 rfl ?_
              refine A_aload_n d_Reader_word_154 rfl ?_
              refine A_get (v := .int r14) d_Reader_word_155 (fo_Reader_78_7 rfl) (vA_s (by decide)) rfl (by first | rfl | (show Value.int _ = Value.int _; simp [wI, wL, wR, wC, up])) ?_
              refine A_iconst (-1) (by decide) d_Reader_word_158 ?_
              refine A_icmp_ne 166 d_Reader_word_159 (by decide) (fun z => ?_) (fun z => ?_)
              · have H := H.1 z
                refine A_iconst 3 (by decide) d_Reader_word_166 ?_
                refine A_putI (k := 5) d_Reader_word_167 (fo_Reader_53_7 rfl) (Or.inr ⟨rfl, _, ft_7_5⟩) (fun z => by cases z) rfl (vA_s (by decide)) rfl rfl rfl ?_
                exact A_ret d_Reader_word_170 rfl H
              · have H := H.2 z
                refine A_iconst 1 (by decide) d_Reader_word_162 ?_
                refine A_goto 167 d_Reader_word_163 (by decide) ?_
                refine A_putI (k := 5) d_Reader_word_167 (fo_Reader_53_7 rfl) (Or.inr ⟨rfl, _, ft_7_5⟩) (fun z => by cases z) rfl (vA_s (by decide)) rfl rfl rfl ?_
                exact A_ret d_Reader_word_170 rfl H
            · have H := H.2 z
              refine A_aload_n d_Reader_word_136 rfl ?_
              refine A_bipush 6 (by decide) d_Reader_word_137 ?_
              refine A_putI (k := 5) d_Reader_word_139 (fo_Reader_53_7 rfl) (Or.inr ⟨rfl, _, ft_7_5⟩) (fun z => by cases z) rfl (vA_s (by decide)) rfl rfl rfl ?_
              refine A_goto 170 d_Reader_word_142 (by decide) ?_
              exact A_ret d_Reader_word_170 rfl H
          · have H := H.2 z
            refine A_aload_n d_Reader_word_119 rfl ?_
            refine A_iconst 5 (by decide) d_Reader_word_120 ?_
            refine A_putI (k := 5) d_Reader_word_121 (fo_Reader_53_7 rfl) (Or.inr ⟨rfl, _, ft_7_5⟩) (fun z => by cases z) rfl (vA_s (by decide)) rfl rfl rfl ?_
            refine A_goto 170 d_Reader_word_124 (by decide) ?_
            exact A_ret d_Reader_word_170 rfl H
        · have H := H.2 z
          refine A_aload_n d_Reader_word_102 rfl ?_
          refine A_iconst 4 (by decide) d_Reader_word_103 ?_
          refine A_putI (k := 5) d_Reader_word_104 (fo_Reader_53_7 rfl) (Or.inr ⟨rfl, _, ft_7_5⟩) (fun z => by cases z) rfl (vA_s (by decide)) rfl rfl rfl ?_
          refine A_goto 170 d_Reader_word_107 (by decide) ?_
          exact A_ret d_Reader_word_170 rfl H
      · have H := H.2 z
        refine A_aload_n d_Reader_word_84 rfl ?_
        refine A_bipush 9 (by decide) d_Reader_word_85 ?_
        refine A_putI (k := 5) d_Reader_word_87 (fo_Reader_53_7 rfl) (Or.inr ⟨rfl, _, ft_7_5⟩) (fun z => by cases z) rfl (vA_s (by decide)) rfl rfl rfl ?_
        refine A_goto 170 d_Reader_word_90 (by decide) ?_
        exact A_ret d_Reader_word_170 rfl H
    · have H := H.2 z
      refine A_aload_n d_Reader_word_66 rfl ?_
      refine A_bipush 8 (by decide) d_Reader_word_67 ?_
      refine A_putI (k := 5) d_Reader_word_69 (fo_Reader_53_7 rfl) (Or.inr ⟨rfl, _, ft_7_5⟩) (fun z => by cases z) rfl (vA_s (by decide)) rfl rfl rfl ?_
      refine A_goto 170 d_Reader_word_72 (by decide) ?_
      exact A_ret d_Reader_word_170 rfl H
  · have H := H.2 z
    refine A_aload_n d_Reader_word_48 rfl ?_
    refine A_bipush 7 (by decide) d_Reader_word_49 ?_
    refine A_putI (k := 5) d_Reader_word_51 (fo_Reader_53_7 rfl) (Or.inr ⟨rfl, _, ft_7_5⟩) (fun z => by cases z) rfl (vA_s (by decide)) rfl rfl rfl ?_
    refine A_goto 170 d_Reader_word_54 (by decide) ?_
    exact A_ret d_Reader_word_170 rfl H
set_option maxRecDepth 20000 in
theorem r_Reader_word_0U {G : GG} {d : Nat} {Q : AH → Prop} : ∀ (n : Nat) (h : AH), p_Reader_word_0U Q n h → Att G TU m_Reader_word (d + 6) 0 [some (.ref 25)] [] h 0 0 (vQ Q) := by
  intro n
  induction n with
  | zero => intro h H; exact H.elim
  | succ n k0 =>
    intro h H
    refine A_aload_n d_Reader_word_0 rfl ?_
    refine A_get (v := .int (h.1 25 3)) d_Reader_word_1 (fo_Reader_34_7 rfl) (vA_s (by decide)) rfl (by first | rfl | (show Value.int _ = Value.int _; simp [wI, wL, wR, wC, up])) ?_
    refine A_aload_n d_Reader_word_4 rfl ?_
    refine A_get (v := .int (h.1 25 1)) d_Reader_word_5 (fo_Reader_21_7 rfl) (vA_s (by decide)) rfl (by first | rfl | (show Value.int _ = Value.int _; simp [wI, wL, wR, wC, up])) ?_
    refine A_icmp_ge 39 d_Reader_word_8 (by decide) (fun z => ?_) (fun z => ?_)
    · have H := H.1 z
      exact r_Reader_word_39U   _ H
    · have H := H.2 z
      refine A_aload_n d_Reader_word_11 rfl ?_
      obtain ⟨c1, H⟩ := H
      refine A_get (v := .ref (rR TU h 25 0 - 1)) d_Reader_word_12 (fo_Reader_9_7 rfl) (vA_s (by decide)) rfl (vR_pos c1) ?_
      refine A_aload_n d_Reader_word_15 rfl ?_
      refine A_get (v := .int (h.1 25 3)) d_Reader_word_16 (fo_Reader_34_7 rfl) (vA_s (by decide)) rfl (by first | rfl | (show Value.int _ = Value.int _; simp [wI, wL, wR, wC, up])) ?_
      obtain ⟨c2, H⟩ := H
      obtain ⟨c3, H⟩ := H
      obtain ⟨c4, H⟩ := H
      refine A_ialdv (n := _) (v := (h.1 (rR TU h 25 0 - 1) (h.1 25 3))) d_Reader_word_19 c2 (rS_ex c3) c4 rfl ?_
      refine A_cI [.int (h.1 (rR TU h 25 0 - 1) (h.1 25 3))] [] (ct_Reader_84 rfl) d_Reader_word_20 rfl rfl (by decide) (Nat.le_of_ble_eq_true rfl) trivial (ok_Reader_isLetterU (d := d + 4) H) (fun r6 h5 H => ?_)
      refine A_if_eq 39 d_Reader_word_23 (by decide) (fun z => ?_) (fun z => ?_)
      · have H := H.1 z
        exact r_Reader_word_39U   _ H
      · have H := H.2 z
        refine A_aload_n d_Reader_word_26 rfl ?_
        refine A_dup rfl d_Reader_word_27 ?_
        refine A_get (v := .int (h5.1 25 3)) d_Reader_word_28 (fo_Reader_34_7 rfl) (vA_s (by decide)) rfl (by first | rfl | (show Value.int _ = Value.int _; simp [wI, wL, wR, wC, up])) ?_
        refine A_iconst 1 (by decide) d_Reader_word_31 ?_
        refine A_iadd d_Reader_word_32 ?_
        refine A_putI (k := 3) d_Reader_word_33 (fo_Reader_34_7 rfl) (Or.inr ⟨rfl, _, ft_7_3⟩) (fun z => by cases z) rfl (vA_s (by decide)) rfl rfl rfl ?_
        refine A_goto 0 d_Reader_word_36 (by decide) ?_
        exact k0 _ H
set_option maxRecDepth 20000 in
theorem r_Reader_word_eU {G : GG} {d : Nat} {Q : AH → Prop} (h : AH) (H : p_Reader_wordU Q h) : Att G TU m_Reader_word (d + 6) 0 [some (.ref 25)] [] h 0 0 (vQ Q) := by
  obtain ⟨n9, H⟩ := H
  exact r_Reader_word_0U   n9 _ H
set_option maxRecDepth 20000 in
theorem ok_Reader_wordU {G : GG} {d : Nat} {Q : AH → Prop} {h : AH} (H : p_Reader_wordU Q h) : WP G TU m_Reader_word (d + 6) [.ref 25] h 0 0 (vQ Q) := by
  exact WP.enter 0 (by decide) rfl rfl (r_Reader_word_eU h H)
def p_Reader_next_52U (Q : AH → Prop) (h : AH) : Prop := (((h.1 25 3) < (h.1 25 1) → 0 < rR TU h 25 0 ∧ vA TU h (rR TU h 25 0 - 1) ∧ (rS TU h (rR TU h 25 0 - 1)).1 = 100 ∧ inb (h.1 25 3) ((rS TU h (rR TU h 25 0 - 1)).2) ∧ p_Reader_isLetter (fun r6 h5 => ((r6 = 0 → 0 < rR TU h5 25 0 ∧ vA TU h5 (rR TU h5 25 0 - 1) ∧ (rS TU h5 (rR TU h5 25 0 - 1)).1 = 100 ∧ inb (h5.1 25 3) ((rS TU h5 (rR TU h5 25 0 - 1)).2) ∧ p_Reader_isDigit (fun r12 h11 => ((r12 = 0 → p_Reader_signU (fun h13 => Q h13) h11) ∧ (¬ r12 = 0 → p_Reader_numberU (fun h14 => Q h14) h11))) (h5.1 (rR TU h5 25 0 - 1) (h5.1 25 3)) h5) ∧ (¬ r6 = 0 → p_Reader_wordU (fun h15 => Q h15) h5))) ((wI h 25 4 (h.1 25 3)).1 (rR TU h 25 0 - 1) (h.1 25 3)) (wI h 25 4 (h.1 25 3))) ∧ (¬ (h.1 25 3) < (h.1 25 1) → Q (wI (wI h 25 4 (h.1 25 3)) 25 5 0)))
def p_Reader_next_0U (Q : AH → Prop) : Nat → AH → Prop
  | 0 => fun  _ => False
  | n + 1 => fun h => let K0 := p_Reader_next_0U Q n; (((h.1 25 1) ≤ (h.1 25 3) → p_Reader_next_52U Q   h) ∧ (¬ (h.1 25 1) ≤ (h.1 25 3) → 0 < rR TU h 25 0 ∧ vA TU h (rR TU h 25 0 - 1) ∧ (rS TU h (rR TU h 25 0 - 1)).1 = 100 ∧ inb (h.1 25 3) ((rS TU h (rR TU h 25 0 - 1)).2) ∧ (((h.1 (rR TU h 25 0 - 1) (h.1 25 3)) = 32 → p_Reader_next_39 Q  K0 h) ∧ (¬ (h.1 (rR TU h 25 0 - 1) (h.1 25 3)) = 32 → ((¬ (h.1 (rR TU h 25 0 - 1) (h.1 25 3)) = 10 → p_Reader_next_52U Q   h) ∧ ((h.1 (rR TU h 25 0 - 1) (h.1 25 3)) = 10 → p_Reader_next_39 Q  K0 h))))))
def p_Reader_nextU (Q : AH → Prop) (h : AH) : Prop := ∃ n, p_Reader_next_0U Q   n h
set_option maxRecDepth 20000 in
theorem r_Reader_next_52U {G : GG} {d : Nat} {Q : AH → Prop} (h : AH) (H : p_Reader_next_52U Q h) : Att G TU m_Reader_next (d + 7) 52 [some (.ref 25)] [] h 0 0 (vQ Q) := by
  refine A_aload_n d_Reader_next_52 rfl ?_
  refine A_aload_n d_Reader_next_53 rfl ?_
  refine A_get (v := .int (h.1 25 3)) d_Reader_next_54 (fo_Reader_34_7 rfl) (vA_s (by decide)) rfl (by first | rfl | (show Value.int _ = Value.int _; simp [wI, wL, wR, wC, up])) ?_
  refine A_putI (k := 4) d_Reader_next_57 (fo_Reader_50_7 rfl) (Or.inr ⟨rfl, _, ft_7_4⟩) (fun z => by cases z) rfl (vA_s (by decide)) rfl rfl rfl ?_
  refine A_aload_n d_Reader_next_60 rfl ?_
  refine A_get (v := .int (h.1 25 3)) d_Reader_next_61 (fo_Reader_34_7 rfl) (vA_s (by decide)) rfl (by first | rfl | (show Value.int _ = Value.int _; simp [wI, wL, wR, wC, up])) ?_
  refine A_aload_n d_Reader_next_64 rfl ?_
  refine A_get (v := .int (h.1 25 1)) d_Reader_next_65 (fo_Reader_21_7 rfl) (vA_s (by decide)) rfl (by first | rfl | (show Value.int _ = Value.int _; simp [wI, wL, wR, wC, up])) ?_
  refine A_icmp_lt 79 d_Reader_next_68 (by decide) (fun z => ?_) (fun z => ?_)
  · have H := H.1 z
    refine A_aload_n d_Reader_next_79 rfl ?_
    obtain ⟨c1, H⟩ := H
    refine A_get (v := .ref (rR TU h 25 0 - 1)) d_Reader_next_80 (fo_Reader_9_7 rfl) (vA_s (by decide)) rfl (vR_pos c1) ?_
    refine A_aload_n d_Reader_next_83 rfl ?_
    refine A_get (v := .int (h.1 25 3)) d_Reader_next_84 (fo_Reader_34_7 rfl) (vA_s (by decide)) rfl (by first | rfl | (show Value.int _ = Value.int _; simp [wI, wL, wR, wC, up])) ?_
    obtain ⟨c2, H⟩ := H
    obtain ⟨c3, H⟩ := H
    obtain ⟨c4, H⟩ := H
    refine A_ialdv (n := _) (v := ((wI h 25 4 (h.1 25 3)).1 (rR TU h 25 0 - 1) (h.1 25 3))) d_Reader_next_87 c2 (rS_ex c3) c4 (by first | rfl | simp [wI, wL, wR, wC, up]) ?_
    refine A_cI [.int ((wI h 25 4 (h.1 25 3)).1 (rR TU h 25 0 - 1) (h.1 25 3))] [] (ct_Reader_84 rfl) d_Reader_next_88 rfl rfl (by decide) (Nat.le_of_ble_eq_true rfl) trivial (ok_Reader_isLetterU (d := d + 5) H) (fun r6 h5 H => ?_)
    refine A_if_eq 101 d_Reader_next_91 (by decide) (fun z => ?_) (fun z => ?_)
    · have H := H.1 z
      refine A_aload_n d_Reader_next_101 rfl ?_
      obtain ⟨c7, H⟩ := H
      refine A_get (v := .ref (rR TU h5 25 0 - 1)) d_Reader_next_102 (fo_Reader_9_7 rfl) (vA_s (by decide)) rfl (vR_pos c7) ?_
      refine A_aload_n d_Reader_next_105 rfl ?_
      refine A_get (v := .int (h5.1 25 3)) d_Reader_next_106 (fo_Reader_34_7 rfl) (vA_s (by decide)) rfl (by first | rfl | (show Value.int _ = Value.int _; simp [wI, wL, wR, wC, up])) ?_
      obtain ⟨c8, H⟩ := H
      obtain ⟨c9, H⟩ := H
      obtain ⟨c10, H⟩ := H
      refine A_ialdv (n := _) (v := (h5.1 (rR TU h5 25 0 - 1) (h5.1 25 3))) d_Reader_next_109 c8 (rS_ex c9) c10 rfl ?_
      refine A_cI [.int (h5.1 (rR TU h5 25 0 - 1) (h5.1 25 3))] [] (ct_Reader_90 rfl) d_Reader_next_110 rfl rfl (by decide) (Nat.le_of_ble_eq_true rfl) trivial (ok_Reader_isDigitU (d := d + 5) H) (fun r12 h11 H => ?_)
      refine A_if_eq 123 d_Reader_next_113 (by decide) (fun z => ?_) (fun z => ?_)
      · have H := H.1 z
        refine A_aload_n d_Reader_next_123 rfl ?_
        refine A_cV [.ref 25] [] (ct_Reader_96 rfl) d_Reader_next_124 rfl rfl (by decide) (Nat.le_of_ble_eq_true rfl) (rcA_o (c := 7) rfl (vA_s (by decide)) rfl (by decide) rfl) (ok_Reader_signU (d := d + 6) H) (fun h13 H => ?_)
        exact A_ret d_Reader_next_127 rfl H
      · have H := H.2 z
        refine A_aload_n d_Reader_next_116 rfl ?_
        refine A_cV [.ref 25] [] (ct_Reader_93 rfl) d_Reader_next_117 rfl rfl (by decide) (Nat.le_of_ble_eq_true rfl) (rcA_o (c := 7) rfl (vA_s (by decide)) rfl (by decide) rfl) (ok_Reader_numberU (d := d + 4) H) (fun h14 H => ?_)
        refine A_goto 127 d_Reader_next_120 (by decide) ?_
        exact A_ret d_Reader_next_127 rfl H
    · have H := H.2 z
      refine A_aload_n d_Reader_next_94 rfl ?_
      refine A_cV [.ref 25] [] (ct_Reader_87 rfl) d_Reader_next_95 rfl rfl (by decide) (Nat.le_of_ble_eq_true rfl) (rcA_o (c := 7) rfl (vA_s (by decide)) rfl (by decide) rfl) (ok_Reader_wordU (d := d) H) (fun h15 H => ?_)
      refine A_goto 127 d_Reader_next_98 (by decide) ?_
      exact A_ret d_Reader_next_127 rfl H
  · have H := H.2 z
    refine A_aload_n d_Reader_next_71 rfl ?_
    refine A_iconst 0 (by decide) d_Reader_next_72 ?_
    refine A_putI (k := 5) d_Reader_next_73 (fo_Reader_53_7 rfl) (Or.inr ⟨rfl, _, ft_7_5⟩) (fun z => by cases z) rfl (vA_s (by decide)) rfl rfl rfl ?_
    refine A_goto 127 d_Reader_next_76 (by decide) ?_
    exact A_ret d_Reader_next_127 rfl H
set_option maxRecDepth 20000 in
theorem r_Reader_next_39U {G : GG} {d : Nat} {Q : AH → Prop} {K0 : AH → Prop} (k0 : ∀ h, K0 h → Att G TU m_Reader_next (d + 7) 0 [some (.ref 25)] [] h 0 0 (vQ Q)) (h : AH) (H : p_Reader_next_39 Q K0 h) : Att G TU m_Reader_next (d + 7) 39 [some (.ref 25)] [] h 0 0 (vQ Q) := by
  refine A_aload_n d_Reader_next_39 rfl ?_
  refine A_dup rfl d_Reader_next_40 ?_
  refine A_get (v := .int (h.1 25 3)) d_Reader_next_41 (fo_Reader_34_7 rfl) (vA_s (by decide)) rfl (by first | rfl | (show Value.int _ = Value.int _; simp [wI, wL, wR, wC, up])) ?_
  refine A_iconst 1 (by decide) d_Reader_next_44 ?_
  refine A_iadd d_Reader_next_45 ?_
  refine A_putI (k := 3) d_Reader_next_46 (fo_Reader_34_7 rfl) (Or.inr ⟨rfl, _, ft_7_3⟩) (fun z => by cases z) rfl (vA_s (by decide)) rfl rfl rfl ?_
  refine A_goto 0 d_Reader_next_49 (by decide) ?_
  exact k0 _ H
set_option maxRecDepth 20000 in
theorem r_Reader_next_0U {G : GG} {d : Nat} {Q : AH → Prop} : ∀ (n : Nat) (h : AH), p_Reader_next_0U Q n h → Att G TU m_Reader_next (d + 7) 0 [some (.ref 25)] [] h 0 0 (vQ Q) := by
  intro n
  induction n with
  | zero => intro h H; exact H.elim
  | succ n k0 =>
    intro h H
    refine A_aload_n d_Reader_next_0 rfl ?_
    refine A_get (v := .int (h.1 25 3)) d_Reader_next_1 (fo_Reader_34_7 rfl) (vA_s (by decide)) rfl (by first | rfl | (show Value.int _ = Value.int _; simp [wI, wL, wR, wC, up])) ?_
    refine A_aload_n d_Reader_next_4 rfl ?_
    refine A_get (v := .int (h.1 25 1)) d_Reader_next_5 (fo_Reader_21_7 rfl) (vA_s (by decide)) rfl (by first | rfl | (show Value.int _ = Value.int _; simp [wI, wL, wR, wC, up])) ?_
    refine A_icmp_ge 52 d_Reader_next_8 (by decide) (fun z => ?_) (fun z => ?_)
    · have H := H.1 z
      exact r_Reader_next_52U   _ H
    · have H := H.2 z
      refine A_aload_n d_Reader_next_11 rfl ?_
      obtain ⟨c1, H⟩ := H
      refine A_get (v := .ref (rR TU h 25 0 - 1)) d_Reader_next_12 (fo_Reader_9_7 rfl) (vA_s (by decide)) rfl (vR_pos c1) ?_
      refine A_aload_n d_Reader_next_15 rfl ?_
      refine A_get (v := .int (h.1 25 3)) d_Reader_next_16 (fo_Reader_34_7 rfl) (vA_s (by decide)) rfl (by first | rfl | (show Value.int _ = Value.int _; simp [wI, wL, wR, wC, up])) ?_
      obtain ⟨c2, H⟩ := H
      obtain ⟨c3, H⟩ := H
      obtain ⟨c4, H⟩ := H
      refine A_ialdv (n := _) (v := (h.1 (rR TU h 25 0 - 1) (h.1 25 3))) d_Reader_next_19 c2 (rS_ex c3) c4 rfl ?_
      refine A_bipush 32 (by decide) d_Reader_next_20 ?_
      refine A_icmp_eq 39 d_Reader_next_22 (by decide) (fun z => ?_) (fun z => ?_)
      · have H := H.1 z
        exact r_Reader_next_39U  k0 _ H
      · have H := H.2 z
        refine A_aload_n d_Reader_next_25 rfl ?_
        refine A_get (v := .ref (rR TU h 25 0 - 1)) d_Reader_next_26 (fo_Reader_9_7 rfl) (vA_s (by decide)) rfl (vR_pos c1) ?_
        refine A_aload_n d_Reader_next_29 rfl ?_
        refine A_get (v := .int (h.1 25 3)) d_Reader_next_30 (fo_Reader_34_7 rfl) (vA_s (by decide)) rfl (by first | rfl | (show Value.int _ = Value.int _; simp [wI, wL, wR, wC, up])) ?_
        refine A_ialdv (n := _) (v := (h.1 (rR TU h 25 0 - 1) (h.1 25 3))) d_Reader_next_33 c2 (rS_ex c3) c4 rfl ?_
        refine A_bipush 10 (by decide) d_Reader_next_34 ?_
        refine A_icmp_ne 52 d_Reader_next_36 (by decide) (fun z => ?_) (fun z => ?_)
        · have H := H.1 z
          exact r_Reader_next_52U   _ H
        · have H := H.2 z
          exact r_Reader_next_39U  k0 _ H
set_option maxRecDepth 20000 in
theorem r_Reader_next_eU {G : GG} {d : Nat} {Q : AH → Prop} (h : AH) (H : p_Reader_nextU Q h) : Att G TU m_Reader_next (d + 7) 0 [some (.ref 25)] [] h 0 0 (vQ Q) := by
  obtain ⟨n9, H⟩ := H
  exact r_Reader_next_0U   n9 _ H
set_option maxRecDepth 20000 in
theorem ok_Reader_nextU {G : GG} {d : Nat} {Q : AH → Prop} {h : AH} (H : p_Reader_nextU Q h) : WP G TU m_Reader_next (d + 7) [.ref 25] h 0 0 (vQ Q) := by
  exact WP.enter 0 (by decide) rfl rfl (r_Reader_next_eU h H)
def p_Reader_takeU (Q : Int32 → AH → Prop) (x1 : Int32) (h : AH) : Prop := (((h.1 25 5) = x1 → p_Reader_nextU (fun h1 => Q 1 h1) h) ∧ (¬ (h.1 25 5) = x1 → Q 0 h))
set_option maxRecDepth 20000 in
theorem r_Reader_take_0U {G : GG} {d : Nat} {Q : Int32 → AH → Prop} (x1 : Int32) (h : AH) (H : p_Reader_takeU Q x1 h) : Att G TU m_Reader_take (d + 8) 0 [some (.ref 25), some (.int x1)] [] h 0 0 (iQ Q) := by
  refine A_aload_n d_Reader_take_0 rfl ?_
  refine A_get (v := .int (h.1 25 5)) d_Reader_take_1 (fo_Reader_53_7 rfl) (vA_s (by decide)) rfl (by first | rfl | (show Value.int _ = Value.int _; simp [wI, wL, wR, wC, up])) ?_
  refine A_iload_n d_Reader_take_4 rfl ?_
  refine A_icmp_eq 10 d_Reader_take_5 (by decide) (fun z => ?_) (fun z => ?_)
  · have H := H.1 z
    refine A_aload_n d_Reader_take_10 rfl ?_
    refine A_cV [.ref 25] [] (ct_Reader_37 rfl) d_Reader_take_11 rfl rfl (by decide) (Nat.le_of_ble_eq_true rfl) (rcA_o (c := 7) rfl (vA_s (by decide)) rfl (by decide) rfl) (ok_Reader_nextU (d := d) H) (fun h1 H => ?_)
    refine A_iconst 1 (by decide) d_Reader_take_14 ?_
    exact A_iret d_Reader_take_15 rfl rfl H
  · have H := H.2 z
    refine A_iconst 0 (by decide) d_Reader_take_8 ?_
    exact A_iret d_Reader_take_9 rfl rfl H
set_option maxRecDepth 20000 in
theorem ok_Reader_takeU {G : GG} {d : Nat} {Q : Int32 → AH → Prop} {x1 : Int32} {h : AH} (H : p_Reader_takeU Q x1 h) : WP G TU m_Reader_take (d + 8) [.ref 25, .int x1] h 0 0 (iQ Q) := by
  exact WP.enter 0 (by decide) rfl rfl (r_Reader_take_0U x1 h H)
def p_Reader_either_12U (Q : Int32 → AH → Prop) (P_Reader_both : (Int32 → AH → Prop) → Int32 → AH → Prop) : Nat → Int32 → Int32 → AH → Prop
  | 0 => fun _ _ _ => False
  | n + 1 => fun x1 x2 h => let K12 := p_Reader_either_12U Q P_Reader_both n; ((160 ≤ x2 → Q 1 h) ∧ (¬ 160 ≤ x2 → ((¬ (h.1 25 5) = 4 → Q 1 h) ∧ ((h.1 25 5) = 4 → p_Reader_nextU (fun h1 => P_Reader_both (fun r3 h2 => ((¬ r3 = 0 → 0 < rR TU h2 25 2 ∧ vA TU h2 (rR TU h2 25 2 - 1) ∧ (rS TU h2 (rR TU h2 25 2 - 1)).1 = 6 ∧ p_Law_addU (fun h7 => K12 x1 (x2 + 1) h7) (rR TU h2 25 2 - 1) (-20) h2) ∧ (r3 = 0 → Q 0 h2))) x1 h1) h))))
def p_Reader_eitherU (Q : Int32 → AH → Prop) (P_Reader_both : (Int32 → AH → Prop) → Int32 → AH → Prop) (x1 : Int32) (h : AH) : Prop := P_Reader_both (fun r2 h1 => ((¬ r2 = 0 → ∃ n, p_Reader_either_12U Q P_Reader_both  n x1 0 h1) ∧ (r2 = 0 → Q 0 h1))) x1 h
set_option maxRecDepth 20000 in
theorem r_Reader_either_12U {G : GG} {d : Nat} {Q : Int32 → AH → Prop} {P_Reader_both : (Int32 → AH → Prop) → Int32 → AH → Prop} (hP_Reader_both : ∀ Q x1 h, P_Reader_both Q x1 h → WP G TU m_Reader_both (d + 7) [.ref 25, .int x1] h 0 0 (iQ Q)) : ∀ (n : Nat) (x1 : Int32) (x2 : Int32) (h : AH), p_Reader_either_12U Q P_Reader_both n x1 x2 h → Att G TU m_Reader_either (d + 8) 12 [some (.ref 25), some (.int x1), some (.int x2)] [] h 0 0 (iQ Q) := by
  intro n
  induction n with
  | zero => intro x1 x2 h H; exact H.elim
  | succ n k12 =>
    intro x1 x2 h H
    refine A_iload_n d_Reader_either_12 rfl ?_
    refine A_sipush 160 (by decide) d_Reader_either_13 ?_
    refine A_icmp_ge 56 d_Reader_either_16 (by decide) (fun z => ?_) (fun z => ?_)
    · have H := H.1 z
      refine A_iconst 1 (by decide) d_Reader_either_56 ?_
      exact A_iret d_Reader_either_57 rfl rfl H
    · have H := H.2 z
      refine A_aload_n d_Reader_either_19 rfl ?_
      refine A_get (v := .int (h.1 25 5)) d_Reader_either_20 (fo_Reader_53_7 rfl) (vA_s (by decide)) rfl (by first | rfl | (show Value.int _ = Value.int _; simp [wI, wL, wR, wC, up])) ?_
      refine A_iconst 4 (by decide) d_Reader_either_23 ?_
      refine A_icmp_ne 56 d_Reader_either_24 (by decide) (fun z => ?_) (fun z => ?_)
      · have H := H.1 z
        refine A_iconst 1 (by decide) d_Reader_either_56 ?_
        exact A_iret d_Reader_either_57 rfl rfl H
      · have H := H.2 z
        refine A_aload_n d_Reader_either_27 rfl ?_
        refine A_cV [.ref 25] [] (ct_Reader_37 rfl) d_Reader_either_28 rfl rfl (by decide) (Nat.le_of_ble_eq_true rfl) (rcA_o (c := 7) rfl (vA_s (by decide)) rfl (by decide) rfl) (ok_Reader_nextU (d := d) H) (fun h1 H => ?_)
        refine A_aload_n d_Reader_either_31 rfl ?_
        refine A_iload_n d_Reader_either_32 rfl ?_
        refine A_cI [.ref 25, .int x1] [] (ct_Reader_56 rfl) d_Reader_either_33 rfl rfl (by decide) (Nat.le_of_ble_eq_true rfl) (rcA_o (c := 7) rfl (vA_s (by decide)) rfl (by decide) rfl) (hP_Reader_both _ _ _ H) (fun r3 h2 H => ?_)
        refine A_if_ne 41 d_Reader_either_36 (by decide) (fun z => ?_) (fun z => ?_)
        · have H := H.1 z
          refine A_aload_n d_Reader_either_41 rfl ?_
          obtain ⟨c4, H⟩ := H
          refine A_get (v := .ref (rR TU h2 25 2 - 1)) d_Reader_either_42 (fo_Reader_25_7 rfl) (vA_s (by decide)) rfl (vR_pos c4) ?_
          refine A_bipush (-20) (by decide) d_Reader_either_45 ?_
          obtain ⟨c5, H⟩ := H
          obtain ⟨c6, H⟩ := H
          refine A_cV [.ref (rR TU h2 25 2 - 1), .int (-20)] [] (ct_Reader_59 rfl) d_Reader_either_47 rfl rfl (by decide) (Nat.le_of_ble_eq_true rfl) (rcA_o (c := 6) rfl c5 c6 (by decide) rfl) (ok_Law_addU (d := d + 7) H) (fun h7 H => ?_)
          refine A_iinc 1 [some (.ref 25), some (.int x1), some (.int (x2 + 1))] d_Reader_either_50 rfl (by decide) (by decide) rfl rfl ?_
          refine A_goto 12 d_Reader_either_53 (by decide) ?_
          exact k12 _ _ _ H
        · have H := H.2 z
          refine A_iconst 0 (by decide) d_Reader_either_39 ?_
          exact A_iret d_Reader_either_40 rfl rfl H
set_option maxRecDepth 20000 in
theorem r_Reader_either_0U {G : GG} {d : Nat} {Q : Int32 → AH → Prop} {P_Reader_both : (Int32 → AH → Prop) → Int32 → AH → Prop} (hP_Reader_both : ∀ Q x1 h, P_Reader_both Q x1 h → WP G TU m_Reader_both (d + 7) [.ref 25, .int x1] h 0 0 (iQ Q)) (x1 : Int32) (h : AH) (H : p_Reader_eitherU Q P_Reader_both x1 h) : Att G TU m_Reader_either (d + 8) 0 [some (.ref 25), some (.int x1), none] [] h 0 0 (iQ Q) := by
  refine A_aload_n d_Reader_either_0 rfl ?_
  refine A_iload_n d_Reader_either_1 rfl ?_
  refine A_cI [.ref 25, .int x1] [] (ct_Reader_56 rfl) d_Reader_either_2 rfl rfl (by decide) (Nat.le_of_ble_eq_true rfl) (rcA_o (c := 7) rfl (vA_s (by decide)) rfl (by decide) rfl) (hP_Reader_both _ _ _ H) (fun r2 h1 H => ?_)
  refine A_if_ne 10 d_Reader_either_5 (by decide) (fun z => ?_) (fun z => ?_)
  · have H := H.1 z
    refine A_iconst 0 (by decide) d_Reader_either_10 ?_
    refine A_istore_n [some (.ref 25), some (.int x1), some (.int 0)] d_Reader_either_11 (by decide) rfl rfl ?_
    obtain ⟨n9, H⟩ := H
    exact r_Reader_either_12U hP_Reader_both  n9 _ _ _ H
  · have H := H.2 z
    refine A_iconst 0 (by decide) d_Reader_either_8 ?_
    exact A_iret d_Reader_either_9 rfl rfl H
set_option maxRecDepth 20000 in
theorem ok_Reader_eitherU {G : GG} {d : Nat} {Q : Int32 → AH → Prop} {P_Reader_both : (Int32 → AH → Prop) → Int32 → AH → Prop} (hP_Reader_both : ∀ Q x1 h, P_Reader_both Q x1 h → WP G TU m_Reader_both (d + 7) [.ref 25, .int x1] h 0 0 (iQ Q)) {x1 : Int32} {h : AH} (H : p_Reader_eitherU Q P_Reader_both x1 h) : WP G TU m_Reader_either (d + 8) [.ref 25, .int x1] h 0 0 (iQ Q) := by
  exact WP.enter 1 (by decide) rfl rfl (r_Reader_either_0U hP_Reader_both x1 h H)
def p_Reader_both_12U (Q : Int32 → AH → Prop) (P_Reader_unless : (Int32 → AH → Prop) → Int32 → AH → Prop) : Nat → Int32 → Int32 → AH → Prop
  | 0 => fun _ _ _ => False
  | n + 1 => fun x1 x2 h => let K12 := p_Reader_both_12U Q P_Reader_unless n; ((160 ≤ x2 → Q 1 h) ∧ (¬ 160 ≤ x2 → ((¬ (h.1 25 5) = 5 → Q 1 h) ∧ ((h.1 25 5) = 5 → p_Reader_nextU (fun h1 => P_Reader_unless (fun r3 h2 => ((¬ r3 = 0 → 0 < rR TU h2 25 2 ∧ vA TU h2 (rR TU h2 25 2 - 1) ∧ (rS TU h2 (rR TU h2 25 2 - 1)).1 = 6 ∧ p_Law_addU (fun h7 => K12 x1 (x2 + 1) h7) (rR TU h2 25 2 - 1) (-21) h2) ∧ (r3 = 0 → Q 0 h2))) x1 h1) h))))
def p_Reader_bothU (Q : Int32 → AH → Prop) (P_Reader_unless : (Int32 → AH → Prop) → Int32 → AH → Prop) (x1 : Int32) (h : AH) : Prop := P_Reader_unless (fun r2 h1 => ((¬ r2 = 0 → ∃ n, p_Reader_both_12U Q P_Reader_unless  n x1 0 h1) ∧ (r2 = 0 → Q 0 h1))) x1 h
set_option maxRecDepth 20000 in
theorem r_Reader_both_12U {G : GG} {d : Nat} {Q : Int32 → AH → Prop} {P_Reader_unless : (Int32 → AH → Prop) → Int32 → AH → Prop} (hP_Reader_unless : ∀ Q x1 h, P_Reader_unless Q x1 h → WP G TU m_Reader_unless (d + 7) [.ref 25, .int x1] h 0 0 (iQ Q)) : ∀ (n : Nat) (x1 : Int32) (x2 : Int32) (h : AH), p_Reader_both_12U Q P_Reader_unless n x1 x2 h → Att G TU m_Reader_both (d + 8) 12 [some (.ref 25), some (.int x1), some (.int x2)] [] h 0 0 (iQ Q) := by
  intro n
  induction n with
  | zero => intro x1 x2 h H; exact H.elim
  | succ n k12 =>
    intro x1 x2 h H
    refine A_iload_n d_Reader_both_12 rfl ?_
    refine A_sipush 160 (by decide) d_Reader_both_13 ?_
    refine A_icmp_ge 56 d_Reader_both_16 (by decide) (fun z => ?_) (fun z => ?_)
    · have H := H.1 z
      refine A_iconst 1 (by decide) d_Reader_both_56 ?_
      exact A_iret d_Reader_both_57 rfl rfl H
    · have H := H.2 z
      refine A_aload_n d_Reader_both_19 rfl ?_
      refine A_get (v := .int (h.1 25 5)) d_Reader_both_20 (fo_Reader_53_7 rfl) (vA_s (by decide)) rfl (by first | rfl | (show Value.int _ = Value.int _; simp [wI, wL, wR, wC, up])) ?_
      refine A_iconst 5 (by decide) d_Reader_both_23 ?_
      refine A_icmp_ne 56 d_Reader_both_24 (by decide) (fun z => ?_) (fun z => ?_)
      · have H := H.1 z
        refine A_iconst 1 (by decide) d_Reader_both_56 ?_
        exact A_iret d_Reader_both_57 rfl rfl H
      · have H := H.2 z
        refine A_aload_n d_Reader_both_27 rfl ?_
        refine A_cV [.ref 25] [] (ct_Reader_37 rfl) d_Reader_both_28 rfl rfl (by decide) (Nat.le_of_ble_eq_true rfl) (rcA_o (c := 7) rfl (vA_s (by decide)) rfl (by decide) rfl) (ok_Reader_nextU (d := d) H) (fun h1 H => ?_)
        refine A_aload_n d_Reader_both_31 rfl ?_
        refine A_iload_n d_Reader_both_32 rfl ?_
        refine A_cI [.ref 25, .int x1] [] (ct_Reader_63 rfl) d_Reader_both_33 rfl rfl (by decide) (Nat.le_of_ble_eq_true rfl) (rcA_o (c := 7) rfl (vA_s (by decide)) rfl (by decide) rfl) (hP_Reader_unless _ _ _ H) (fun r3 h2 H => ?_)
        refine A_if_ne 41 d_Reader_both_36 (by decide) (fun z => ?_) (fun z => ?_)
        · have H := H.1 z
          refine A_aload_n d_Reader_both_41 rfl ?_
          obtain ⟨c4, H⟩ := H
          refine A_get (v := .ref (rR TU h2 25 2 - 1)) d_Reader_both_42 (fo_Reader_25_7 rfl) (vA_s (by decide)) rfl (vR_pos c4) ?_
          refine A_bipush (-21) (by decide) d_Reader_both_45 ?_
          obtain ⟨c5, H⟩ := H
          obtain ⟨c6, H⟩ := H
          refine A_cV [.ref (rR TU h2 25 2 - 1), .int (-21)] [] (ct_Reader_59 rfl) d_Reader_both_47 rfl rfl (by decide) (Nat.le_of_ble_eq_true rfl) (rcA_o (c := 6) rfl c5 c6 (by decide) rfl) (ok_Law_addU (d := d + 7) H) (fun h7 H => ?_)
          refine A_iinc 1 [some (.ref 25), some (.int x1), some (.int (x2 + 1))] d_Reader_both_50 rfl (by decide) (by decide) rfl rfl ?_
          refine A_goto 12 d_Reader_both_53 (by decide) ?_
          exact k12 _ _ _ H
        · have H := H.2 z
          refine A_iconst 0 (by decide) d_Reader_both_39 ?_
          exact A_iret d_Reader_both_40 rfl rfl H
set_option maxRecDepth 20000 in
theorem r_Reader_both_0U {G : GG} {d : Nat} {Q : Int32 → AH → Prop} {P_Reader_unless : (Int32 → AH → Prop) → Int32 → AH → Prop} (hP_Reader_unless : ∀ Q x1 h, P_Reader_unless Q x1 h → WP G TU m_Reader_unless (d + 7) [.ref 25, .int x1] h 0 0 (iQ Q)) (x1 : Int32) (h : AH) (H : p_Reader_bothU Q P_Reader_unless x1 h) : Att G TU m_Reader_both (d + 8) 0 [some (.ref 25), some (.int x1), none] [] h 0 0 (iQ Q) := by
  refine A_aload_n d_Reader_both_0 rfl ?_
  refine A_iload_n d_Reader_both_1 rfl ?_
  refine A_cI [.ref 25, .int x1] [] (ct_Reader_63 rfl) d_Reader_both_2 rfl rfl (by decide) (Nat.le_of_ble_eq_true rfl) (rcA_o (c := 7) rfl (vA_s (by decide)) rfl (by decide) rfl) (hP_Reader_unless _ _ _ H) (fun r2 h1 H => ?_)
  refine A_if_ne 10 d_Reader_both_5 (by decide) (fun z => ?_) (fun z => ?_)
  · have H := H.1 z
    refine A_iconst 0 (by decide) d_Reader_both_10 ?_
    refine A_istore_n [some (.ref 25), some (.int x1), some (.int 0)] d_Reader_both_11 (by decide) rfl rfl ?_
    obtain ⟨n9, H⟩ := H
    exact r_Reader_both_12U hP_Reader_unless  n9 _ _ _ H
  · have H := H.2 z
    refine A_iconst 0 (by decide) d_Reader_both_8 ?_
    exact A_iret d_Reader_both_9 rfl rfl H
set_option maxRecDepth 20000 in
theorem ok_Reader_bothU {G : GG} {d : Nat} {Q : Int32 → AH → Prop} {P_Reader_unless : (Int32 → AH → Prop) → Int32 → AH → Prop} (hP_Reader_unless : ∀ Q x1 h, P_Reader_unless Q x1 h → WP G TU m_Reader_unless (d + 7) [.ref 25, .int x1] h 0 0 (iQ Q)) {x1 : Int32} {h : AH} (H : p_Reader_bothU Q P_Reader_unless x1 h) : WP G TU m_Reader_both (d + 8) [.ref 25, .int x1] h 0 0 (iQ Q) := by
  exact WP.enter 1 (by decide) rfl rfl (r_Reader_both_0U hP_Reader_unless x1 h H)
def p_Reader_unlessU (Q : Int32 → AH → Prop) (P_Reader_compared : (Int32 → AH → Prop) → Int32 → AH → Prop) (P_Reader_unless : (Int32 → AH → Prop) → Int32 → AH → Prop) (x1 : Int32) (h : AH) : Prop := (((h.1 25 5) = 6 → ((x1 < 5 → p_Reader_nextU (fun h1 => P_Reader_unless (fun r3 h2 => ((¬ r3 = 0 → 0 < rR TU h2 25 2 ∧ vA TU h2 (rR TU h2 25 2 - 1) ∧ (rS TU h2 (rR TU h2 25 2 - 1)).1 = 6 ∧ p_Law_addU (fun h7 => Q 1 h7) (rR TU h2 25 2 - 1) (-11) h2) ∧ (r3 = 0 → Q 0 h2))) (x1 + 1) h1) h) ∧ (¬ x1 < 5 → Q 0 h))) ∧ (¬ (h.1 25 5) = 6 → P_Reader_compared (fun r9 h8 => narrow .boolean (.int r9) = .int r9 ∧ Q r9 h8) x1 h))
set_option maxRecDepth 20000 in
theorem r_Reader_unless_0U {G : GG} {d : Nat} {Q : Int32 → AH → Prop} {P_Reader_compared : (Int32 → AH → Prop) → Int32 → AH → Prop} {P_Reader_unless : (Int32 → AH → Prop) → Int32 → AH → Prop} (hP_Reader_compared : ∀ Q x1 h, P_Reader_compared Q x1 h → WP G TU m_Reader_compared (d + 7) [.ref 25, .int x1] h 0 0 (iQ Q)) (hP_Reader_unless : ∀ Q x1 h, P_Reader_unless Q x1 h → WP G TU m_Reader_unless (d + 7) [.ref 25, .int x1] h 0 0 (iQ Q)) (x1 : Int32) (h : AH) (H : p_Reader_unlessU Q P_Reader_compared P_Reader_unless x1 h) : Att G TU m_Reader_unless (d + 8) 0 [some (.ref 25), some (.int x1)] [] h 0 0 (iQ Q) := by
  refine A_aload_n d_Reader_unless_0 rfl ?_
  refine A_get (v := .int (h.1 25 5)) d_Reader_unless_1 (fo_Reader_53_7 rfl) (vA_s (by decide)) rfl (by first | rfl | (show Value.int _ = Value.int _; simp [wI, wL, wR, wC, up])) ?_
  refine A_bipush 6 (by decide) d_Reader_unless_4 ?_
  refine A_icmp_eq 15 d_Reader_unless_6 (by decide) (fun z => ?_) (fun z => ?_)
  · have H := H.1 z
    refine A_iload_n d_Reader_unless_15 rfl ?_
    refine A_iconst 5 (by decide) d_Reader_unless_16 ?_
    refine A_icmp_lt 22 d_Reader_unless_17 (by decide) (fun z => ?_) (fun z => ?_)
    · have H := H.1 z
      refine A_aload_n d_Reader_unless_22 rfl ?_
      refine A_cV [.ref 25] [] (ct_Reader_37 rfl) d_Reader_unless_23 rfl rfl (by decide) (Nat.le_of_ble_eq_true rfl) (rcA_o (c := 7) rfl (vA_s (by decide)) rfl (by decide) rfl) (ok_Reader_nextU (d := d) H) (fun h1 H => ?_)
      refine A_aload_n d_Reader_unless_26 rfl ?_
      refine A_iload_n d_Reader_unless_27 rfl ?_
      refine A_iconst 1 (by decide) d_Reader_unless_28 ?_
      refine A_iadd d_Reader_unless_29 ?_
      refine A_cI [.ref 25, .int (x1 + 1)] [] (ct_Reader_63 rfl) d_Reader_unless_30 rfl rfl (by decide) (Nat.le_of_ble_eq_true rfl) (rcA_o (c := 7) rfl (vA_s (by decide)) rfl (by decide) rfl) (hP_Reader_unless _ _ _ H) (fun r3 h2 H => ?_)
      refine A_if_ne 38 d_Reader_unless_33 (by decide) (fun z => ?_) (fun z => ?_)
      · have H := H.1 z
        refine A_aload_n d_Reader_unless_38 rfl ?_
        obtain ⟨c4, H⟩ := H
        refine A_get (v := .ref (rR TU h2 25 2 - 1)) d_Reader_unless_39 (fo_Reader_25_7 rfl) (vA_s (by decide)) rfl (vR_pos c4) ?_
        refine A_bipush (-11) (by decide) d_Reader_unless_42 ?_
        obtain ⟨c5, H⟩ := H
        obtain ⟨c6, H⟩ := H
        refine A_cV [.ref (rR TU h2 25 2 - 1), .int (-11)] [] (ct_Reader_59 rfl) d_Reader_unless_44 rfl rfl (by decide) (Nat.le_of_ble_eq_true rfl) (rcA_o (c := 6) rfl c5 c6 (by decide) rfl) (ok_Law_addU (d := d + 7) H) (fun h7 H => ?_)
        refine A_iconst 1 (by decide) d_Reader_unless_47 ?_
        exact A_iret d_Reader_unless_48 rfl rfl H
      · have H := H.2 z
        refine A_iconst 0 (by decide) d_Reader_unless_36 ?_
        exact A_iret d_Reader_unless_37 rfl rfl H
    · have H := H.2 z
      refine A_iconst 0 (by decide) d_Reader_unless_20 ?_
      exact A_iret d_Reader_unless_21 rfl rfl H
  · have H := H.2 z
    refine A_aload_n d_Reader_unless_9 rfl ?_
    refine A_iload_n d_Reader_unless_10 rfl ?_
    refine A_cI [.ref 25, .int x1] [] (ct_Reader_66 rfl) d_Reader_unless_11 rfl rfl (by decide) (Nat.le_of_ble_eq_true rfl) (rcA_o (c := 7) rfl (vA_s (by decide)) rfl (by decide) rfl) (hP_Reader_compared _ _ _ H) (fun r9 h8 H => ?_)
    exact A_iret d_Reader_unless_14 rfl H.1 H.2
set_option maxRecDepth 20000 in
theorem ok_Reader_unlessU {G : GG} {d : Nat} {Q : Int32 → AH → Prop} {P_Reader_compared : (Int32 → AH → Prop) → Int32 → AH → Prop} {P_Reader_unless : (Int32 → AH → Prop) → Int32 → AH → Prop} (hP_Reader_compared : ∀ Q x1 h, P_Reader_compared Q x1 h → WP G TU m_Reader_compared (d + 7) [.ref 25, .int x1] h 0 0 (iQ Q)) (hP_Reader_unless : ∀ Q x1 h, P_Reader_unless Q x1 h → WP G TU m_Reader_unless (d + 7) [.ref 25, .int x1] h 0 0 (iQ Q)) {x1 : Int32} {h : AH} (H : p_Reader_unlessU Q P_Reader_compared P_Reader_unless x1 h) : WP G TU m_Reader_unless (d + 8) [.ref 25, .int x1] h 0 0 (iQ Q) := by
  exact WP.enter 0 (by decide) rfl rfl (r_Reader_unless_0U hP_Reader_compared hP_Reader_unless x1 h H)
def p_Reader_compared_66U (Q : Int32 → AH → Prop) (P_Reader_sum : (Int32 → AH → Prop) → Int32 → AH → Prop) (s0 : Nat) (s1 : Int32) (h : AH) : Prop := vA TU h s0 ∧ (rS TU h s0).1 = 6 ∧ p_Law_addU (fun h3 => Q 1 h3) s0 s1 h
def p_Reader_compared_30U (Q : Int32 → AH → Prop) (P_Reader_sum : (Int32 → AH → Prop) → Int32 → AH → Prop) (x1 : Int32) (h : AH) : Prop := p_Reader_nextU (fun h1 => P_Reader_sum (fun r3 h2 => ((¬ r3 = 0 → 0 < rR TU h2 25 2 ∧ ((¬ (h.1 25 5) = 60 → p_Reader_compared_66U Q P_Reader_sum  (rR TU h2 25 2 - 1) (-23) h2) ∧ ((h.1 25 5) = 60 → p_Reader_compared_66U Q P_Reader_sum  (rR TU h2 25 2 - 1) (-22) h2))) ∧ (r3 = 0 → Q 0 h2))) x1 h1) h
def p_Reader_comparedU (Q : Int32 → AH → Prop) (P_Reader_sum : (Int32 → AH → Prop) → Int32 → AH → Prop) (x1 : Int32) (h : AH) : Prop := P_Reader_sum (fun r2 h1 => ((¬ r2 = 0 → (((h1.1 25 5) = 60 → p_Reader_compared_30U Q P_Reader_sum  x1 h1) ∧ (¬ (h1.1 25 5) = 60 → (((h1.1 25 5) = 61 → p_Reader_compared_30U Q P_Reader_sum  x1 h1) ∧ (¬ (h1.1 25 5) = 61 → Q 1 h1))))) ∧ (r2 = 0 → Q 0 h1))) x1 h
set_option maxRecDepth 20000 in
theorem r_Reader_compared_66U {G : GG} {d : Nat} {Q : Int32 → AH → Prop} {P_Reader_sum : (Int32 → AH → Prop) → Int32 → AH → Prop} (hP_Reader_sum : ∀ Q x1 h, P_Reader_sum Q x1 h → WP G TU m_Reader_sum (d + 7) [.ref 25, .int x1] h 0 0 (iQ Q)) (s0 : Nat) (s1 : Int32) (h : AH) (H : p_Reader_compared_66U Q P_Reader_sum s0 s1 h) : Att G TU m_Reader_compared (d + 8) 66 [none, none, none] [.int s1, .ref s0] h 0 0 (iQ Q) := by
  obtain ⟨c1, H⟩ := H
  obtain ⟨c2, H⟩ := H
  refine A_cV [.ref s0, .int s1] [] (ct_Reader_59 rfl) d_Reader_compared_66 rfl rfl (by decide) (Nat.le_of_ble_eq_true rfl) (rcA_o (c := 6) rfl c1 c2 (by decide) rfl) (ok_Law_addU (d := d + 7) H) (fun h3 H => ?_)
  refine A_iconst 1 (by decide) d_Reader_compared_69 ?_
  exact A_iret d_Reader_compared_70 rfl rfl H
set_option maxRecDepth 20000 in
theorem r_Reader_compared_30U {G : GG} {d : Nat} {Q : Int32 → AH → Prop} {P_Reader_sum : (Int32 → AH → Prop) → Int32 → AH → Prop} (hP_Reader_sum : ∀ Q x1 h, P_Reader_sum Q x1 h → WP G TU m_Reader_sum (d + 7) [.ref 25, .int x1] h 0 0 (iQ Q)) (x1 : Int32) (h : AH) (H : p_Reader_compared_30U Q P_Reader_sum x1 h) : Att G TU m_Reader_compared (d + 8) 30 [some (.ref 25), some (.int x1), none] [] h 0 0 (iQ Q) := by
  refine A_aload_n d_Reader_compared_30 rfl ?_
  refine A_get (v := .int (h.1 25 5)) d_Reader_compared_31 (fo_Reader_53_7 rfl) (vA_s (by decide)) rfl (by first | rfl | (show Value.int _ = Value.int _; simp [wI, wL, wR, wC, up])) ?_
  refine A_istore_n [some (.ref 25), some (.int x1), some (.int (h.1 25 5))] d_Reader_compared_34 (by decide) rfl rfl ?_
  refine A_aload_n d_Reader_compared_35 rfl ?_
  refine A_cV [.ref 25] [] (ct_Reader_37 rfl) d_Reader_compared_36 rfl rfl (by decide) (Nat.le_of_ble_eq_true rfl) (rcA_o (c := 7) rfl (vA_s (by decide)) rfl (by decide) rfl) (ok_Reader_nextU (d := d) H) (fun h1 H => ?_)
  refine A_aload_n d_Reader_compared_39 rfl ?_
  refine A_iload_n d_Reader_compared_40 rfl ?_
  refine A_cI [.ref 25, .int x1] [] (ct_Reader_69 rfl) d_Reader_compared_41 rfl rfl (by decide) (Nat.le_of_ble_eq_true rfl) (rcA_o (c := 7) rfl (vA_s (by decide)) rfl (by decide) rfl) (hP_Reader_sum _ _ _ H) (fun r3 h2 H => ?_)
  refine A_if_ne 49 d_Reader_compared_44 (by decide) (fun z => ?_) (fun z => ?_)
  · have H := H.1 z
    refine A_aload_n d_Reader_compared_49 rfl ?_
    obtain ⟨c4, H⟩ := H
    refine A_get (v := .ref (rR TU h2 25 2 - 1)) d_Reader_compared_50 (fo_Reader_25_7 rfl) (vA_s (by decide)) rfl (vR_pos c4) ?_
    refine A_iload_n d_Reader_compared_53 rfl ?_
    refine A_bipush 60 (by decide) d_Reader_compared_54 ?_
    refine A_icmp_ne 64 d_Reader_compared_56 (by decide) (fun z => ?_) (fun z => ?_)
    · have H := H.1 z
      refine A_bipush (-23) (by decide) d_Reader_compared_64 ?_
      refine A_sub (L' := [none, none, none]) trivial ?_
      exact r_Reader_compared_66U hP_Reader_sum  _ _ _ H
    · have H := H.2 z
      refine A_bipush (-22) (by decide) d_Reader_compared_59 ?_
      refine A_goto 66 d_Reader_compared_61 (by decide) ?_
      refine A_sub (L' := [none, none, none]) trivial ?_
      exact r_Reader_compared_66U hP_Reader_sum  _ _ _ H
  · have H := H.2 z
    refine A_iconst 0 (by decide) d_Reader_compared_47 ?_
    exact A_iret d_Reader_compared_48 rfl rfl H
set_option maxRecDepth 20000 in
theorem r_Reader_compared_0U {G : GG} {d : Nat} {Q : Int32 → AH → Prop} {P_Reader_sum : (Int32 → AH → Prop) → Int32 → AH → Prop} (hP_Reader_sum : ∀ Q x1 h, P_Reader_sum Q x1 h → WP G TU m_Reader_sum (d + 7) [.ref 25, .int x1] h 0 0 (iQ Q)) (x1 : Int32) (h : AH) (H : p_Reader_comparedU Q P_Reader_sum x1 h) : Att G TU m_Reader_compared (d + 8) 0 [some (.ref 25), some (.int x1), none] [] h 0 0 (iQ Q) := by
  refine A_aload_n d_Reader_compared_0 rfl ?_
  refine A_iload_n d_Reader_compared_1 rfl ?_
  refine A_cI [.ref 25, .int x1] [] (ct_Reader_69 rfl) d_Reader_compared_2 rfl rfl (by decide) (Nat.le_of_ble_eq_true rfl) (rcA_o (c := 7) rfl (vA_s (by decide)) rfl (by decide) rfl) (hP_Reader_sum _ _ _ H) (fun r2 h1 H => ?_)
  refine A_if_ne 10 d_Reader_compared_5 (by decide) (fun z => ?_) (fun z => ?_)
  · have H := H.1 z
    refine A_aload_n d_Reader_compared_10 rfl ?_
    refine A_get (v := .int (h1.1 25 5)) d_Reader_compared_11 (fo_Reader_53_7 rfl) (vA_s (by decide)) rfl (by first | rfl | (show Value.int _ = Value.int _; simp [wI, wL, wR, wC, up])) ?_
    refine A_bipush 60 (by decide) d_Reader_compared_14 ?_
    refine A_icmp_eq 30 d_Reader_compared_16 (by decide) (fun z => ?_) (fun z => ?_)
    · have H := H.1 z
      exact r_Reader_compared_30U hP_Reader_sum  _ _ H
    · have H := H.2 z
      refine A_aload_n d_Reader_compared_19 rfl ?_
      refine A_get (v := .int (h1.1 25 5)) d_Reader_compared_20 (fo_Reader_53_7 rfl) (vA_s (by decide)) rfl (by first | rfl | (show Value.int _ = Value.int _; simp [wI, wL, wR, wC, up])) ?_
      refine A_bipush 61 (by decide) d_Reader_compared_23 ?_
      refine A_icmp_eq 30 d_Reader_compared_25 (by decide) (fun z => ?_) (fun z => ?_)
      · have H := H.1 z
        exact r_Reader_compared_30U hP_Reader_sum  _ _ H
      · have H := H.2 z
        refine A_iconst 1 (by decide) d_Reader_compared_28 ?_
        exact A_iret d_Reader_compared_29 rfl rfl H
  · have H := H.2 z
    refine A_iconst 0 (by decide) d_Reader_compared_8 ?_
    exact A_iret d_Reader_compared_9 rfl rfl H
set_option maxRecDepth 20000 in
theorem ok_Reader_comparedU {G : GG} {d : Nat} {Q : Int32 → AH → Prop} {P_Reader_sum : (Int32 → AH → Prop) → Int32 → AH → Prop} (hP_Reader_sum : ∀ Q x1 h, P_Reader_sum Q x1 h → WP G TU m_Reader_sum (d + 7) [.ref 25, .int x1] h 0 0 (iQ Q)) {x1 : Int32} {h : AH} (H : p_Reader_comparedU Q P_Reader_sum x1 h) : WP G TU m_Reader_compared (d + 8) [.ref 25, .int x1] h 0 0 (iQ Q) := by
  exact WP.enter 1 (by decide) rfl rfl (r_Reader_compared_0U hP_Reader_sum x1 h H)
def p_Reader_sum_73U (Q : Int32 → AH → Prop) (P_Reader_term : (Int32 → AH → Prop) → Int32 → AH → Prop) (K12 : Int32 → Int32 → AH → Prop) (x1 : Int32) (x2 : Int32) (s0 : Nat) (s1 : Int32) (h : AH) : Prop := vA TU h s0 ∧ (rS TU h s0).1 = 6 ∧ p_Law_addU (fun h3 => K12 x1 (x2 + 1) h3) s0 s1 h
def p_Reader_sum_37U (Q : Int32 → AH → Prop) (P_Reader_term : (Int32 → AH → Prop) → Int32 → AH → Prop) (K12 : Int32 → Int32 → AH → Prop) (x1 : Int32) (x2 : Int32) (h : AH) : Prop := p_Reader_nextU (fun h1 => P_Reader_term (fun r3 h2 => ((¬ r3 = 0 → 0 < rR TU h2 25 2 ∧ ((¬ (h.1 25 5) = 43 → p_Reader_sum_73U Q P_Reader_term K12 x1 x2 (rR TU h2 25 2 - 1) (-25) h2) ∧ ((h.1 25 5) = 43 → p_Reader_sum_73U Q P_Reader_term K12 x1 x2 (rR TU h2 25 2 - 1) (-24) h2))) ∧ (r3 = 0 → Q 0 h2))) x1 h1) h
def p_Reader_sum_12U (Q : Int32 → AH → Prop) (P_Reader_term : (Int32 → AH → Prop) → Int32 → AH → Prop) : Nat → Int32 → Int32 → AH → Prop
  | 0 => fun _ _ _ => False
  | n + 1 => fun x1 x2 h => let K12 := p_Reader_sum_12U Q P_Reader_term n; ((160 ≤ x2 → Q 1 h) ∧ (¬ 160 ≤ x2 → (((h.1 25 5) = 43 → p_Reader_sum_37U Q P_Reader_term K12 x1 x2 h) ∧ (¬ (h.1 25 5) = 43 → ((¬ (h.1 25 5) = 45 → Q 1 h) ∧ ((h.1 25 5) = 45 → p_Reader_sum_37U Q P_Reader_term K12 x1 x2 h))))))
def p_Reader_sumU (Q : Int32 → AH → Prop) (P_Reader_term : (Int32 → AH → Prop) → Int32 → AH → Prop) (x1 : Int32) (h : AH) : Prop := P_Reader_term (fun r2 h1 => ((¬ r2 = 0 → ∃ n, p_Reader_sum_12U Q P_Reader_term  n x1 0 h1) ∧ (r2 = 0 → Q 0 h1))) x1 h
set_option maxRecDepth 20000 in
theorem r_Reader_sum_73U {G : GG} {d : Nat} {Q : Int32 → AH → Prop} {P_Reader_term : (Int32 → AH → Prop) → Int32 → AH → Prop} (hP_Reader_term : ∀ Q x1 h, P_Reader_term Q x1 h → WP G TU m_Reader_term (d + 7) [.ref 25, .int x1] h 0 0 (iQ Q)) {K12 : Int32 → Int32 → AH → Prop} (k12 : ∀ x1 x2 h, K12 x1 x2 h → Att G TU m_Reader_sum (d + 8) 12 [some (.ref 25), some (.int x1), some (.int x2), none] [] h 0 0 (iQ Q)) (x1 : Int32) (x2 : Int32) (s0 : Nat) (s1 : Int32) (h : AH) (H : p_Reader_sum_73U Q P_Reader_term K12 x1 x2 s0 s1 h) : Att G TU m_Reader_sum (d + 8) 73 [some (.ref 25), some (.int x1), some (.int x2), none] [.int s1, .ref s0] h 0 0 (iQ Q) := by
  obtain ⟨c1, H⟩ := H
  obtain ⟨c2, H⟩ := H
  refine A_cV [.ref s0, .int s1] [] (ct_Reader_59 rfl) d_Reader_sum_73 rfl rfl (by decide) (Nat.le_of_ble_eq_true rfl) (rcA_o (c := 6) rfl c1 c2 (by decide) rfl) (ok_Law_addU (d := d + 7) H) (fun h3 H => ?_)
  refine A_iinc 1 [some (.ref 25), some (.int x1), some (.int (x2 + 1)), none] d_Reader_sum_76 rfl (by decide) (by decide) rfl rfl ?_
  refine A_goto 12 d_Reader_sum_79 (by decide) ?_
  exact k12 _ _ _ H
set_option maxRecDepth 20000 in
theorem r_Reader_sum_37U {G : GG} {d : Nat} {Q : Int32 → AH → Prop} {P_Reader_term : (Int32 → AH → Prop) → Int32 → AH → Prop} (hP_Reader_term : ∀ Q x1 h, P_Reader_term Q x1 h → WP G TU m_Reader_term (d + 7) [.ref 25, .int x1] h 0 0 (iQ Q)) {K12 : Int32 → Int32 → AH → Prop} (k12 : ∀ x1 x2 h, K12 x1 x2 h → Att G TU m_Reader_sum (d + 8) 12 [some (.ref 25), some (.int x1), some (.int x2), none] [] h 0 0 (iQ Q)) (x1 : Int32) (x2 : Int32) (h : AH) (H : p_Reader_sum_37U Q P_Reader_term K12 x1 x2 h) : Att G TU m_Reader_sum (d + 8) 37 [some (.ref 25), some (.int x1), some (.int x2), none] [] h 0 0 (iQ Q) := by
  refine A_aload_n d_Reader_sum_37 rfl ?_
  refine A_get (v := .int (h.1 25 5)) d_Reader_sum_38 (fo_Reader_53_7 rfl) (vA_s (by decide)) rfl (by first | rfl | (show Value.int _ = Value.int _; simp [wI, wL, wR, wC, up])) ?_
  refine A_istore_n [some (.ref 25), some (.int x1), some (.int x2), some (.int (h.1 25 5))] d_Reader_sum_41 (by decide) rfl rfl ?_
  refine A_aload_n d_Reader_sum_42 rfl ?_
  refine A_cV [.ref 25] [] (ct_Reader_37 rfl) d_Reader_sum_43 rfl rfl (by decide) (Nat.le_of_ble_eq_true rfl) (rcA_o (c := 7) rfl (vA_s (by decide)) rfl (by decide) rfl) (ok_Reader_nextU (d := d) H) (fun h1 H => ?_)
  refine A_aload_n d_Reader_sum_46 rfl ?_
  refine A_iload_n d_Reader_sum_47 rfl ?_
  refine A_cI [.ref 25, .int x1] [] (ct_Reader_72 rfl) d_Reader_sum_48 rfl rfl (by decide) (Nat.le_of_ble_eq_true rfl) (rcA_o (c := 7) rfl (vA_s (by decide)) rfl (by decide) rfl) (hP_Reader_term _ _ _ H) (fun r3 h2 H => ?_)
  refine A_if_ne 56 d_Reader_sum_51 (by decide) (fun z => ?_) (fun z => ?_)
  · have H := H.1 z
    refine A_aload_n d_Reader_sum_56 rfl ?_
    obtain ⟨c4, H⟩ := H
    refine A_get (v := .ref (rR TU h2 25 2 - 1)) d_Reader_sum_57 (fo_Reader_25_7 rfl) (vA_s (by decide)) rfl (vR_pos c4) ?_
    refine A_iload_n d_Reader_sum_60 rfl ?_
    refine A_bipush 43 (by decide) d_Reader_sum_61 ?_
    refine A_icmp_ne 71 d_Reader_sum_63 (by decide) (fun z => ?_) (fun z => ?_)
    · have H := H.1 z
      refine A_bipush (-25) (by decide) d_Reader_sum_71 ?_
      refine A_sub (L' := [some (.ref 25), some (.int x1), some (.int x2), none]) ⟨rfl, rfl, rfl, trivial⟩ ?_
      exact r_Reader_sum_73U hP_Reader_term k12 _ _ _ _ _ H
    · have H := H.2 z
      refine A_bipush (-24) (by decide) d_Reader_sum_66 ?_
      refine A_goto 73 d_Reader_sum_68 (by decide) ?_
      refine A_sub (L' := [some (.ref 25), some (.int x1), some (.int x2), none]) ⟨rfl, rfl, rfl, trivial⟩ ?_
      exact r_Reader_sum_73U hP_Reader_term k12 _ _ _ _ _ H
  · have H := H.2 z
    refine A_iconst 0 (by decide) d_Reader_sum_54 ?_
    exact A_iret d_Reader_sum_55 rfl rfl H
set_option maxRecDepth 20000 in
theorem r_Reader_sum_12U {G : GG} {d : Nat} {Q : Int32 → AH → Prop} {P_Reader_term : (Int32 → AH → Prop) → Int32 → AH → Prop} (hP_Reader_term : ∀ Q x1 h, P_Reader_term Q x1 h → WP G TU m_Reader_term (d + 7) [.ref 25, .int x1] h 0 0 (iQ Q)) : ∀ (n : Nat) (x1 : Int32) (x2 : Int32) (h : AH), p_Reader_sum_12U Q P_Reader_term n x1 x2 h → Att G TU m_Reader_sum (d + 8) 12 [some (.ref 25), some (.int x1), some (.int x2), none] [] h 0 0 (iQ Q) := by
  intro n
  induction n with
  | zero => intro x1 x2 h H; exact H.elim
  | succ n k12 =>
    intro x1 x2 h H
    refine A_iload_n d_Reader_sum_12 rfl ?_
    refine A_sipush 160 (by decide) d_Reader_sum_13 ?_
    refine A_icmp_ge 82 d_Reader_sum_16 (by decide) (fun z => ?_) (fun z => ?_)
    · have H := H.1 z
      refine A_iconst 1 (by decide) d_Reader_sum_82 ?_
      exact A_iret d_Reader_sum_83 rfl rfl H
    · have H := H.2 z
      refine A_aload_n d_Reader_sum_19 rfl ?_
      refine A_get (v := .int (h.1 25 5)) d_Reader_sum_20 (fo_Reader_53_7 rfl) (vA_s (by decide)) rfl (by first | rfl | (show Value.int _ = Value.int _; simp [wI, wL, wR, wC, up])) ?_
      refine A_bipush 43 (by decide) d_Reader_sum_23 ?_
      refine A_icmp_eq 37 d_Reader_sum_25 (by decide) (fun z => ?_) (fun z => ?_)
      · have H := H.1 z
        exact r_Reader_sum_37U hP_Reader_term k12 _ _ _ H
      · have H := H.2 z
        refine A_aload_n d_Reader_sum_28 rfl ?_
        refine A_get (v := .int (h.1 25 5)) d_Reader_sum_29 (fo_Reader_53_7 rfl) (vA_s (by decide)) rfl (by first | rfl | (show Value.int _ = Value.int _; simp [wI, wL, wR, wC, up])) ?_
        refine A_bipush 45 (by decide) d_Reader_sum_32 ?_
        refine A_icmp_ne 82 d_Reader_sum_34 (by decide) (fun z => ?_) (fun z => ?_)
        · have H := H.1 z
          refine A_iconst 1 (by decide) d_Reader_sum_82 ?_
          exact A_iret d_Reader_sum_83 rfl rfl H
        · have H := H.2 z
          exact r_Reader_sum_37U hP_Reader_term k12 _ _ _ H
set_option maxRecDepth 20000 in
theorem r_Reader_sum_0U {G : GG} {d : Nat} {Q : Int32 → AH → Prop} {P_Reader_term : (Int32 → AH → Prop) → Int32 → AH → Prop} (hP_Reader_term : ∀ Q x1 h, P_Reader_term Q x1 h → WP G TU m_Reader_term (d + 7) [.ref 25, .int x1] h 0 0 (iQ Q)) (x1 : Int32) (h : AH) (H : p_Reader_sumU Q P_Reader_term x1 h) : Att G TU m_Reader_sum (d + 8) 0 [some (.ref 25), some (.int x1), none, none] [] h 0 0 (iQ Q) := by
  refine A_aload_n d_Reader_sum_0 rfl ?_
  refine A_iload_n d_Reader_sum_1 rfl ?_
  refine A_cI [.ref 25, .int x1] [] (ct_Reader_72 rfl) d_Reader_sum_2 rfl rfl (by decide) (Nat.le_of_ble_eq_true rfl) (rcA_o (c := 7) rfl (vA_s (by decide)) rfl (by decide) rfl) (hP_Reader_term _ _ _ H) (fun r2 h1 H => ?_)
  refine A_if_ne 10 d_Reader_sum_5 (by decide) (fun z => ?_) (fun z => ?_)
  · have H := H.1 z
    refine A_iconst 0 (by decide) d_Reader_sum_10 ?_
    refine A_istore_n [some (.ref 25), some (.int x1), some (.int 0), none] d_Reader_sum_11 (by decide) rfl rfl ?_
    obtain ⟨n9, H⟩ := H
    exact r_Reader_sum_12U hP_Reader_term  n9 _ _ _ H
  · have H := H.2 z
    refine A_iconst 0 (by decide) d_Reader_sum_8 ?_
    exact A_iret d_Reader_sum_9 rfl rfl H
set_option maxRecDepth 20000 in
theorem ok_Reader_sumU {G : GG} {d : Nat} {Q : Int32 → AH → Prop} {P_Reader_term : (Int32 → AH → Prop) → Int32 → AH → Prop} (hP_Reader_term : ∀ Q x1 h, P_Reader_term Q x1 h → WP G TU m_Reader_term (d + 7) [.ref 25, .int x1] h 0 0 (iQ Q)) {x1 : Int32} {h : AH} (H : p_Reader_sumU Q P_Reader_term x1 h) : WP G TU m_Reader_sum (d + 8) [.ref 25, .int x1] h 0 0 (iQ Q) := by
  exact WP.enter 2 (by decide) rfl rfl (r_Reader_sum_0U hP_Reader_term x1 h H)
def p_Reader_term_12U (Q : Int32 → AH → Prop) (P_Reader_one : (Int32 → AH → Prop) → Int32 → AH → Prop) : Nat → Int32 → Int32 → AH → Prop
  | 0 => fun _ _ _ => False
  | n + 1 => fun x1 x2 h => let K12 := p_Reader_term_12U Q P_Reader_one n; ((160 ≤ x2 → Q 1 h) ∧ (¬ 160 ≤ x2 → ((¬ (h.1 25 5) = 42 → Q 1 h) ∧ ((h.1 25 5) = 42 → p_Reader_nextU (fun h1 => P_Reader_one (fun r3 h2 => ((¬ r3 = 0 → 0 < rR TU h2 25 2 ∧ vA TU h2 (rR TU h2 25 2 - 1) ∧ (rS TU h2 (rR TU h2 25 2 - 1)).1 = 6 ∧ p_Law_addU (fun h7 => K12 x1 (x2 + 1) h7) (rR TU h2 25 2 - 1) (-26) h2) ∧ (r3 = 0 → Q 0 h2))) x1 h1) h))))
def p_Reader_termU (Q : Int32 → AH → Prop) (P_Reader_one : (Int32 → AH → Prop) → Int32 → AH → Prop) (x1 : Int32) (h : AH) : Prop := P_Reader_one (fun r2 h1 => ((¬ r2 = 0 → ∃ n, p_Reader_term_12U Q P_Reader_one  n x1 0 h1) ∧ (r2 = 0 → Q 0 h1))) x1 h
set_option maxRecDepth 20000 in
theorem r_Reader_term_12U {G : GG} {d : Nat} {Q : Int32 → AH → Prop} {P_Reader_one : (Int32 → AH → Prop) → Int32 → AH → Prop} (hP_Reader_one : ∀ Q x1 h, P_Reader_one Q x1 h → WP G TU m_Reader_one (d + 7) [.ref 25, .int x1] h 0 0 (iQ Q)) : ∀ (n : Nat) (x1 : Int32) (x2 : Int32) (h : AH), p_Reader_term_12U Q P_Reader_one n x1 x2 h → Att G TU m_Reader_term (d + 8) 12 [some (.ref 25), some (.int x1), some (.int x2)] [] h 0 0 (iQ Q) := by
  intro n
  induction n with
  | zero => intro x1 x2 h H; exact H.elim
  | succ n k12 =>
    intro x1 x2 h H
    refine A_iload_n d_Reader_term_12 rfl ?_
    refine A_sipush 160 (by decide) d_Reader_term_13 ?_
    refine A_icmp_ge 57 d_Reader_term_16 (by decide) (fun z => ?_) (fun z => ?_)
    · have H := H.1 z
      refine A_iconst 1 (by decide) d_Reader_term_57 ?_
      exact A_iret d_Reader_term_58 rfl rfl H
    · have H := H.2 z
      refine A_aload_n d_Reader_term_19 rfl ?_
      refine A_get (v := .int (h.1 25 5)) d_Reader_term_20 (fo_Reader_53_7 rfl) (vA_s (by decide)) rfl (by first | rfl | (show Value.int _ = Value.int _; simp [wI, wL, wR, wC, up])) ?_
      refine A_bipush 42 (by decide) d_Reader_term_23 ?_
      refine A_icmp_ne 57 d_Reader_term_25 (by decide) (fun z => ?_) (fun z => ?_)
      · have H := H.1 z
        refine A_iconst 1 (by decide) d_Reader_term_57 ?_
        exact A_iret d_Reader_term_58 rfl rfl H
      · have H := H.2 z
        refine A_aload_n d_Reader_term_28 rfl ?_
        refine A_cV [.ref 25] [] (ct_Reader_37 rfl) d_Reader_term_29 rfl rfl (by decide) (Nat.le_of_ble_eq_true rfl) (rcA_o (c := 7) rfl (vA_s (by decide)) rfl (by decide) rfl) (ok_Reader_nextU (d := d) H) (fun h1 H => ?_)
        refine A_aload_n d_Reader_term_32 rfl ?_
        refine A_iload_n d_Reader_term_33 rfl ?_
        refine A_cI [.ref 25, .int x1] [] (ct_Reader_75 rfl) d_Reader_term_34 rfl rfl (by decide) (Nat.le_of_ble_eq_true rfl) (rcA_o (c := 7) rfl (vA_s (by decide)) rfl (by decide) rfl) (hP_Reader_one _ _ _ H) (fun r3 h2 H => ?_)
        refine A_if_ne 42 d_Reader_term_37 (by decide) (fun z => ?_) (fun z => ?_)
        · have H := H.1 z
          refine A_aload_n d_Reader_term_42 rfl ?_
          obtain ⟨c4, H⟩ := H
          refine A_get (v := .ref (rR TU h2 25 2 - 1)) d_Reader_term_43 (fo_Reader_25_7 rfl) (vA_s (by decide)) rfl (vR_pos c4) ?_
          refine A_bipush (-26) (by decide) d_Reader_term_46 ?_
          obtain ⟨c5, H⟩ := H
          obtain ⟨c6, H⟩ := H
          refine A_cV [.ref (rR TU h2 25 2 - 1), .int (-26)] [] (ct_Reader_59 rfl) d_Reader_term_48 rfl rfl (by decide) (Nat.le_of_ble_eq_true rfl) (rcA_o (c := 6) rfl c5 c6 (by decide) rfl) (ok_Law_addU (d := d + 7) H) (fun h7 H => ?_)
          refine A_iinc 1 [some (.ref 25), some (.int x1), some (.int (x2 + 1))] d_Reader_term_51 rfl (by decide) (by decide) rfl rfl ?_
          refine A_goto 12 d_Reader_term_54 (by decide) ?_
          exact k12 _ _ _ H
        · have H := H.2 z
          refine A_iconst 0 (by decide) d_Reader_term_40 ?_
          exact A_iret d_Reader_term_41 rfl rfl H
set_option maxRecDepth 20000 in
theorem r_Reader_term_0U {G : GG} {d : Nat} {Q : Int32 → AH → Prop} {P_Reader_one : (Int32 → AH → Prop) → Int32 → AH → Prop} (hP_Reader_one : ∀ Q x1 h, P_Reader_one Q x1 h → WP G TU m_Reader_one (d + 7) [.ref 25, .int x1] h 0 0 (iQ Q)) (x1 : Int32) (h : AH) (H : p_Reader_termU Q P_Reader_one x1 h) : Att G TU m_Reader_term (d + 8) 0 [some (.ref 25), some (.int x1), none] [] h 0 0 (iQ Q) := by
  refine A_aload_n d_Reader_term_0 rfl ?_
  refine A_iload_n d_Reader_term_1 rfl ?_
  refine A_cI [.ref 25, .int x1] [] (ct_Reader_75 rfl) d_Reader_term_2 rfl rfl (by decide) (Nat.le_of_ble_eq_true rfl) (rcA_o (c := 7) rfl (vA_s (by decide)) rfl (by decide) rfl) (hP_Reader_one _ _ _ H) (fun r2 h1 H => ?_)
  refine A_if_ne 10 d_Reader_term_5 (by decide) (fun z => ?_) (fun z => ?_)
  · have H := H.1 z
    refine A_iconst 0 (by decide) d_Reader_term_10 ?_
    refine A_istore_n [some (.ref 25), some (.int x1), some (.int 0)] d_Reader_term_11 (by decide) rfl rfl ?_
    obtain ⟨n9, H⟩ := H
    exact r_Reader_term_12U hP_Reader_one  n9 _ _ _ H
  · have H := H.2 z
    refine A_iconst 0 (by decide) d_Reader_term_8 ?_
    exact A_iret d_Reader_term_9 rfl rfl H
set_option maxRecDepth 20000 in
theorem ok_Reader_termU {G : GG} {d : Nat} {Q : Int32 → AH → Prop} {P_Reader_one : (Int32 → AH → Prop) → Int32 → AH → Prop} (hP_Reader_one : ∀ Q x1 h, P_Reader_one Q x1 h → WP G TU m_Reader_one (d + 7) [.ref 25, .int x1] h 0 0 (iQ Q)) {x1 : Int32} {h : AH} (H : p_Reader_termU Q P_Reader_one x1 h) : WP G TU m_Reader_term (d + 8) [.ref 25, .int x1] h 0 0 (iQ Q) := by
  exact WP.enter 1 (by decide) rfl rfl (r_Reader_term_0U hP_Reader_one x1 h H)
def p_Reader_read_40U (Q : Int32 → AH → Prop) (P_Reader_either : (Int32 → AH → Prop) → Int32 → AH → Prop) : Nat → Int32 → AH → Prop
  | 0 => fun _ _ => False
  | n + 1 => fun x4 h => let K40 := p_Reader_read_40U Q P_Reader_either n; ((3 ≤ x4 → ((¬ (h.1 25 5) = 0 → Q (h.1 25 4) h) ∧ ((h.1 25 5) = 0 → Q (-1) h))) ∧ (¬ 3 ≤ x4 → 0 < rR TU h 25 2 ∧ vA TU h (rR TU h 25 2 - 1) ∧ (rS TU h (rR TU h 25 2 - 1)).1 = 6 ∧ 0 < rR TU h (rR TU h 25 2 - 1) 1 ∧ vA TU h (rR TU h (rR TU h 25 2 - 1) 1 - 1) ∧ (rS TU h (rR TU h (rR TU h 25 2 - 1) 1 - 1)).1 = 100 ∧ inb x4 ((rS TU h (rR TU h (rR TU h 25 2 - 1) 1 - 1)).2) ∧ p_Reader_takeU (fun r9 h8 => ((r9 = 0 → Q (h8.1 25 4) h8) ∧ (¬ r9 = 0 → P_Reader_either (fun r11 h10 => ((r11 = 0 → Q (h10.1 25 4) h10) ∧ (¬ r11 = 0 → p_Reader_takeU (fun r13 h12 => ((¬ r13 = 0 → 0 < rR TU h12 25 2 ∧ vA TU h12 (rR TU h12 25 2 - 1) ∧ (rS TU h12 (rR TU h12 25 2 - 1)).1 = 6 ∧ 0 < rR TU h12 (rR TU h12 25 2 - 1) 1 ∧ vA TU h12 (rR TU h12 (rR TU h12 25 2 - 1) 1 - 1) ∧ (rS TU h12 (rR TU h12 (rR TU h12 25 2 - 1) 1 - 1)).1 = 100 ∧ inb (x4 + 1) ((rS TU h12 (rR TU h12 (rR TU h12 25 2 - 1) 1 - 1)).2) ∧ K40 (x4 + 1) (wI h12 (rR TU h12 (rR TU h12 25 2 - 1) 1 - 1) (x4 + 1) (h12.1 (rR TU h12 25 2 - 1) 2))) ∧ (r13 = 0 → Q (h12.1 25 4) h12))) 59 h10))) 0 h8))) (7 + x4) (wI h (rR TU h (rR TU h 25 2 - 1) 1 - 1) x4 (h.1 (rR TU h 25 2 - 1) 2))))
def p_Reader_readU (Q : Int32 → AH → Prop) (P_Reader_either : (Int32 → AH → Prop) → Int32 → AH → Prop) (a1 : Nat) (x2 : Int32) (a3 : Nat) (h : AH) : Prop := vA TU (wR h 25 0 (a1 + 1)) a1 ∧ (rS TU (wR h 25 0 (a1 + 1)) a1).1 = 100 ∧ p_Math_min (fun r4 h3 => 0 < rR TU (wR h3 25 2 (a3 + 1)) 25 2 ∧ vA TU (wR h3 25 2 (a3 + 1)) (rR TU (wR h3 25 2 (a3 + 1)) 25 2 - 1) ∧ (rS TU (wR h3 25 2 (a3 + 1)) (rR TU (wR h3 25 2 (a3 + 1)) 25 2 - 1)).1 = 6 ∧ p_Reader_nextU (fun h8 => ∃ n, p_Reader_read_40U Q P_Reader_either  n 0 h8) (wI (wI (wR (wI h3 25 1 r4) 25 2 (a3 + 1)) (rR TU (wR h3 25 2 (a3 + 1)) 25 2 - 1) 2 0) 25 3 0)) x2 (Int32.ofNat (rS TU (wR h 25 0 (a1 + 1)) a1).2) (wR h 25 0 (a1 + 1))
set_option maxRecDepth 20000 in
theorem r_Reader_read_40U {G : GG} {d : Nat} {Q : Int32 → AH → Prop} {P_Reader_either : (Int32 → AH → Prop) → Int32 → AH → Prop} (hP_Reader_either : ∀ Q x1 h, P_Reader_either Q x1 h → WP G TU m_Reader_either (d + 8) [.ref 25, .int x1] h 0 0 (iQ Q)) : ∀ (n : Nat) (x4 : Int32) (h : AH), p_Reader_read_40U Q P_Reader_either n x4 h → Att G TU m_Reader_read (d + 9) 40 [some (.ref 25), none, none, none, some (.int x4)] [] h 0 0 (iQ Q) := by
  intro n
  induction n with
  | zero => intro x4 h H; exact H.elim
  | succ n k40 =>
    intro x4 h H
    refine A_iload d_Reader_read_40 rfl ?_
    refine A_iconst 3 (by decide) d_Reader_read_42 ?_
    refine A_icmp_ge 122 d_Reader_read_43 (by decide) (fun z => ?_) (fun z => ?_)
    · have H := H.1 z
      refine A_aload_n d_Reader_read_122 rfl ?_
      refine A_get (v := .int (h.1 25 5)) d_Reader_read_123 (fo_Reader_53_7 rfl) (vA_s (by decide)) rfl (by first | rfl | (show Value.int _ = Value.int _; simp [wI, wL, wR, wC, up])) ?_
      refine A_if_ne 133 d_Reader_read_126 (by decide) (fun z => ?_) (fun z => ?_)
      · have H := H.1 z
        refine A_aload_n d_Reader_read_133 rfl ?_
        refine A_get (v := .int (h.1 25 4)) d_Reader_read_134 (fo_Reader_50_7 rfl) (vA_s (by decide)) rfl (by first | rfl | (show Value.int _ = Value.int _; simp [wI, wL, wR, wC, up])) ?_
        exact A_iret d_Reader_read_137 rfl rfl H
      · have H := H.2 z
        refine A_iconst (-1) (by decide) d_Reader_read_129 ?_
        refine A_goto 137 d_Reader_read_130 (by decide) ?_
        exact A_iret d_Reader_read_137 rfl rfl H
    · have H := H.2 z
      refine A_aload_n d_Reader_read_46 rfl ?_
      obtain ⟨c1, H⟩ := H
      refine A_get (v := .ref (rR TU h 25 2 - 1)) d_Reader_read_47 (fo_Reader_25_7 rfl) (vA_s (by decide)) rfl (vR_pos c1) ?_
      obtain ⟨c2, H⟩ := H
      obtain ⟨c3, H⟩ := H
      obtain ⟨c4, H⟩ := H
      refine A_get (v := .ref (rR TU h (rR TU h 25 2 - 1) 1 - 1)) d_Reader_read_50 (fo_Reader_40_6 rfl) c2 c3 (vR_pos c4) ?_
      refine A_iload d_Reader_read_53 rfl ?_
      refine A_aload_n d_Reader_read_55 rfl ?_
      refine A_get (v := .ref (rR TU h 25 2 - 1)) d_Reader_read_56 (fo_Reader_25_7 rfl) (vA_s (by decide)) rfl (vR_pos c1) ?_
      refine A_get (v := .int (h.1 (rR TU h 25 2 - 1) 2)) d_Reader_read_59 (fo_Reader_29_6 rfl) c2 c3 (by first | rfl | (show Value.int _ = Value.int _; simp [wI, wL, wR, wC, up])) ?_
      obtain ⟨c5, H⟩ := H
      obtain ⟨c6, H⟩ := H
      obtain ⟨c7, H⟩ := H
      refine A_iast (n := _) d_Reader_read_62 c5 (rS_ex c6) c7 ?_
      refine A_aload_n d_Reader_read_63 rfl ?_
      refine A_bipush 7 (by decide) d_Reader_read_64 ?_
      refine A_iload d_Reader_read_66 rfl ?_
      refine A_iadd d_Reader_read_68 ?_
      refine A_cI [.ref 25, .int (7 + x4)] [] (ct_Reader_43 rfl) d_Reader_read_69 rfl rfl (by decide) (Nat.le_of_ble_eq_true rfl) (rcA_o (c := 7) rfl (vA_s (by decide)) rfl (by decide) rfl) (ok_Reader_takeU (d := d) H) (fun r9 h8 H => ?_)
      refine A_if_eq 92 d_Reader_read_72 (by decide) (fun z => ?_) (fun z => ?_)
      · have H := H.1 z
        refine A_aload_n d_Reader_read_92 rfl ?_
        refine A_get (v := .int (h8.1 25 4)) d_Reader_read_93 (fo_Reader_50_7 rfl) (vA_s (by decide)) rfl (by first | rfl | (show Value.int _ = Value.int _; simp [wI, wL, wR, wC, up])) ?_
        exact A_iret d_Reader_read_96 rfl rfl H
      · have H := H.2 z
        refine A_aload_n d_Reader_read_75 rfl ?_
        refine A_iconst 0 (by decide) d_Reader_read_76 ?_
        refine A_cI [.ref 25, .int 0] [] (ct_Reader_47 rfl) d_Reader_read_77 rfl rfl (by decide) (Nat.le_of_ble_eq_true rfl) (rcA_o (c := 7) rfl (vA_s (by decide)) rfl (by decide) rfl) (hP_Reader_either _ _ _ H) (fun r11 h10 H => ?_)
        refine A_if_eq 92 d_Reader_read_80 (by decide) (fun z => ?_) (fun z => ?_)
        · have H := H.1 z
          refine A_aload_n d_Reader_read_92 rfl ?_
          refine A_get (v := .int (h10.1 25 4)) d_Reader_read_93 (fo_Reader_50_7 rfl) (vA_s (by decide)) rfl (by first | rfl | (show Value.int _ = Value.int _; simp [wI, wL, wR, wC, up])) ?_
          exact A_iret d_Reader_read_96 rfl rfl H
        · have H := H.2 z
          refine A_aload_n d_Reader_read_83 rfl ?_
          refine A_bipush 59 (by decide) d_Reader_read_84 ?_
          refine A_cI [.ref 25, .int 59] [] (ct_Reader_43 rfl) d_Reader_read_86 rfl rfl (by decide) (Nat.le_of_ble_eq_true rfl) (rcA_o (c := 7) rfl (vA_s (by decide)) rfl (by decide) rfl) (ok_Reader_takeU (d := d) H) (fun r13 h12 H => ?_)
          refine A_if_ne 97 d_Reader_read_89 (by decide) (fun z => ?_) (fun z => ?_)
          · have H := H.1 z
            refine A_aload_n d_Reader_read_97 rfl ?_
            obtain ⟨c14, H⟩ := H
            refine A_get (v := .ref (rR TU h12 25 2 - 1)) d_Reader_read_98 (fo_Reader_25_7 rfl) (vA_s (by decide)) rfl (vR_pos c14) ?_
            obtain ⟨c15, H⟩ := H
            obtain ⟨c16, H⟩ := H
            obtain ⟨c17, H⟩ := H
            refine A_get (v := .ref (rR TU h12 (rR TU h12 25 2 - 1) 1 - 1)) d_Reader_read_101 (fo_Reader_40_6 rfl) c15 c16 (vR_pos c17) ?_
            refine A_iload d_Reader_read_104 rfl ?_
            refine A_iconst 1 (by decide) d_Reader_read_106 ?_
            refine A_iadd d_Reader_read_107 ?_
            refine A_aload_n d_Reader_read_108 rfl ?_
            refine A_get (v := .ref (rR TU h12 25 2 - 1)) d_Reader_read_109 (fo_Reader_25_7 rfl) (vA_s (by decide)) rfl (vR_pos c14) ?_
            refine A_get (v := .int (h12.1 (rR TU h12 25 2 - 1) 2)) d_Reader_read_112 (fo_Reader_29_6 rfl) c15 c16 (by first | rfl | (show Value.int _ = Value.int _; simp [wI, wL, wR, wC, up])) ?_
            obtain ⟨c18, H⟩ := H
            obtain ⟨c19, H⟩ := H
            obtain ⟨c20, H⟩ := H
            refine A_iast (n := _) d_Reader_read_115 c18 (rS_ex c19) c20 ?_
            refine A_iinc 1 [some (.ref 25), none, none, none, some (.int (x4 + 1))] d_Reader_read_116 rfl (by decide) (by decide) rfl rfl ?_
            refine A_goto 40 d_Reader_read_119 (by decide) ?_
            exact k40 _ _ H
          · have H := H.2 z
            refine A_aload_n d_Reader_read_92 rfl ?_
            refine A_get (v := .int (h12.1 25 4)) d_Reader_read_93 (fo_Reader_50_7 rfl) (vA_s (by decide)) rfl (by first | rfl | (show Value.int _ = Value.int _; simp [wI, wL, wR, wC, up])) ?_
            exact A_iret d_Reader_read_96 rfl rfl H
set_option maxRecDepth 20000 in
theorem r_Reader_read_0U {G : GG} {d : Nat} {Q : Int32 → AH → Prop} {P_Reader_either : (Int32 → AH → Prop) → Int32 → AH → Prop} (hP_Reader_either : ∀ Q x1 h, P_Reader_either Q x1 h → WP G TU m_Reader_either (d + 8) [.ref 25, .int x1] h 0 0 (iQ Q)) (a1 : Nat) (x2 : Int32) (a3 : Nat) (h : AH) (H : p_Reader_readU Q P_Reader_either a1 x2 a3 h) : Att G TU m_Reader_read (d + 9) 0 [some (.ref 25), some (.ref a1), some (.int x2), some (.ref a3), none] [] h 0 0 (iQ Q) := by
  refine A_aload_n d_Reader_read_0 rfl ?_
  refine A_aload_n d_Reader_read_1 rfl ?_
  refine A_putR (k := 0) d_Reader_read_2 (fo_Reader_9_7 rfl) (Or.inr ⟨rfl, _, ft_7_0⟩) (fun z => by cases z) rfl (vA_s (by decide)) rfl rfl (fun _ => rfl) (fun _ => rfl) ?_
  refine A_aload_n d_Reader_read_5 rfl ?_
  refine A_iload_n d_Reader_read_6 rfl ?_
  refine A_aload_n d_Reader_read_7 rfl ?_
  obtain ⟨c1, H⟩ := H
  obtain ⟨c2, H⟩ := H
  refine A_alenI d_Reader_read_8 c1 (rS_ex c2) ?_
  refine A_cI [.int x2, .int (Int32.ofNat (rS TU (wR h 25 0 (a1 + 1)) a1).2)] [.ref 25] (ct_Reader_15 rfl) d_Reader_read_9 rfl rfl (by decide) (Nat.le_of_ble_eq_true rfl) trivial (ok_Math_minU (d := d + 8) H) (fun r4 h3 H => ?_)
  refine A_putI (k := 1) d_Reader_read_12 (fo_Reader_21_7 rfl) (Or.inr ⟨rfl, _, ft_7_1⟩) (fun z => by cases z) rfl (vA_s (by decide)) rfl rfl rfl ?_
  refine A_aload_n d_Reader_read_15 rfl ?_
  refine A_aload_n d_Reader_read_16 rfl ?_
  refine A_putR (k := 2) d_Reader_read_17 (fo_Reader_25_7 rfl) (Or.inr ⟨rfl, _, ft_7_2⟩) (fun z => by cases z) rfl (vA_s (by decide)) rfl rfl (fun _ => rfl) (fun _ => rfl) ?_
  refine A_aload_n d_Reader_read_20 rfl ?_
  obtain ⟨c5, H⟩ := H
  refine A_get (v := .ref (rR TU (wR h3 25 2 (a3 + 1)) 25 2 - 1)) d_Reader_read_21 (fo_Reader_25_7 rfl) (vA_s (by decide)) rfl (vR_pos c5) ?_
  refine A_iconst 0 (by decide) d_Reader_read_24 ?_
  obtain ⟨c6, H⟩ := H
  obtain ⟨c7, H⟩ := H
  refine A_putI (k := 2) d_Reader_read_25 (fo_Reader_29_6 rfl) (Or.inr ⟨rfl, _, ft_6_2⟩) (fun z => by cases z) rfl c6 c7 rfl rfl ?_
  refine A_aload_n d_Reader_read_28 rfl ?_
  refine A_iconst 0 (by decide) d_Reader_read_29 ?_
  refine A_putI (k := 3) d_Reader_read_30 (fo_Reader_34_7 rfl) (Or.inr ⟨rfl, _, ft_7_3⟩) (fun z => by cases z) rfl (vA_s (by decide)) rfl rfl rfl ?_
  refine A_aload_n d_Reader_read_33 rfl ?_
  refine A_cV [.ref 25] [] (ct_Reader_37 rfl) d_Reader_read_34 rfl rfl (by decide) (Nat.le_of_ble_eq_true rfl) (rcA_o (c := 7) rfl (vA_s (by decide)) rfl (by decide) rfl) (ok_Reader_nextU (d := d + 1) H) (fun h8 H => ?_)
  refine A_iconst 0 (by decide) d_Reader_read_37 ?_
  refine A_istore [some (.ref 25), some (.ref a1), some (.int x2), some (.ref a3), some (.int 0)] d_Reader_read_38 (by decide) rfl rfl ?_
  refine A_sub (L' := [some (.ref 25), none, none, none, some (.int 0)]) ⟨rfl, rfl, trivial⟩ ?_
  obtain ⟨n9, H⟩ := H
  exact r_Reader_read_40U hP_Reader_either  n9 _ _ H
set_option maxRecDepth 20000 in
theorem ok_Reader_readU {G : GG} {d : Nat} {Q : Int32 → AH → Prop} {P_Reader_either : (Int32 → AH → Prop) → Int32 → AH → Prop} (hP_Reader_either : ∀ Q x1 h, P_Reader_either Q x1 h → WP G TU m_Reader_either (d + 8) [.ref 25, .int x1] h 0 0 (iQ Q)) {a1 : Nat} {x2 : Int32} {a3 : Nat} {h : AH} (H : p_Reader_readU Q P_Reader_either a1 x2 a3 h) : WP G TU m_Reader_read (d + 9) [.ref 25, .ref a1, .int x2, .ref a3] h 0 0 (iQ Q) := by
  exact WP.enter 1 (by decide) rfl rfl (r_Reader_read_0U hP_Reader_either a1 x2 a3 h H)
def p_Reader_one_89U (Q : Int32 → AH → Prop) (P_Reader_either : (Int32 → AH → Prop) → Int32 → AH → Prop) (P_Reader_one : (Int32 → AH → Prop) → Int32 → AH → Prop) (x1 : Int32) (s0 : Int32) (h : AH) : Prop := p_Reader_nextU (fun h1 => ((¬ s0 = 0 → P_Reader_one (fun r3 h2 => ((¬ r3 = 0 → 0 < rR TU h2 25 2 ∧ vA TU h2 (rR TU h2 25 2 - 1) ∧ (rS TU h2 (rR TU h2 25 2 - 1)).1 = 6 ∧ p_Law_addU (fun h7 => Q 1 h7) (rR TU h2 25 2 - 1) (-10) h2) ∧ (r3 = 0 → Q 0 h2))) (x1 + 1) h1) ∧ (s0 = 0 → P_Reader_either (fun r9 h8 => ((r9 = 0 → Q 0 h8) ∧ (¬ r9 = 0 → p_Reader_takeU (fun r11 h10 => ((r11 = 0 → Q 0 h10) ∧ (¬ r11 = 0 → Q 1 h10))) 41 h8))) (x1 + 1) h1))) h
def p_Reader_one_68U (Q : Int32 → AH → Prop) (P_Reader_either : (Int32 → AH → Prop) → Int32 → AH → Prop) (P_Reader_one : (Int32 → AH → Prop) → Int32 → AH → Prop) (x1 : Int32) (h : AH) : Prop := ((x1 < 5 → ((¬ (h.1 25 5) = 45 → p_Reader_one_89U Q P_Reader_either P_Reader_one  x1 0 h) ∧ ((h.1 25 5) = 45 → p_Reader_one_89U Q P_Reader_either P_Reader_one  x1 1 h))) ∧ (¬ x1 < 5 → Q 0 h))
def p_Reader_oneU (Q : Int32 → AH → Prop) (P_Reader_either : (Int32 → AH → Prop) → Int32 → AH → Prop) (P_Reader_one : (Int32 → AH → Prop) → Int32 → AH → Prop) (x1 : Int32) (h : AH) : Prop := ((¬ (h.1 25 5) = 2 → ((¬ (h.1 25 5) = 3 → (((h.1 25 5) = 45 → p_Reader_one_68U Q P_Reader_either P_Reader_one  x1 h) ∧ (¬ (h.1 25 5) = 45 → ((¬ (h.1 25 5) = 40 → Q 0 h) ∧ ((h.1 25 5) = 40 → p_Reader_one_68U Q P_Reader_either P_Reader_one  x1 h))))) ∧ ((h.1 25 5) = 3 → 0 < rR TU h 25 2 ∧ vA TU h (rR TU h 25 2 - 1) ∧ (rS TU h (rR TU h 25 2 - 1)).1 = 6 ∧ p_Law_addNameU (fun h4 => p_Reader_nextU (fun h5 => Q 1 h5) h4) (rR TU h 25 2 - 1) (h.1 25 6) h))) ∧ ((h.1 25 5) = 2 → 0 < rR TU h 25 2 ∧ vA TU h (rR TU h 25 2 - 1) ∧ (rS TU h (rR TU h 25 2 - 1)).1 = 6 ∧ p_Law_addU (fun h9 => p_Reader_nextU (fun h10 => Q 1 h10) h9) (rR TU h 25 2 - 1) (h.1 25 6) h))
set_option maxRecDepth 20000 in
theorem r_Reader_one_89U {G : GG} {d : Nat} {Q : Int32 → AH → Prop} {P_Reader_either : (Int32 → AH → Prop) → Int32 → AH → Prop} {P_Reader_one : (Int32 → AH → Prop) → Int32 → AH → Prop} (hP_Reader_either : ∀ Q x1 h, P_Reader_either Q x1 h → WP G TU m_Reader_either (d + 8) [.ref 25, .int x1] h 0 0 (iQ Q)) (hP_Reader_one : ∀ Q x1 h, P_Reader_one Q x1 h → WP G TU m_Reader_one (d + 8) [.ref 25, .int x1] h 0 0 (iQ Q)) (x1 : Int32) (s0 : Int32) (h : AH) (H : p_Reader_one_89U Q P_Reader_either P_Reader_one x1 s0 h) : Att G TU m_Reader_one (d + 9) 89 [some (.ref 25), some (.int x1), none] [.int s0] h 0 0 (iQ Q) := by
  refine A_istore_n [some (.ref 25), some (.int x1), some (.int s0)] d_Reader_one_89 (by decide) rfl rfl ?_
  refine A_aload_n d_Reader_one_90 rfl ?_
  refine A_cV [.ref 25] [] (ct_Reader_37 rfl) d_Reader_one_91 rfl rfl (by decide) (Nat.le_of_ble_eq_true rfl) (rcA_o (c := 7) rfl (vA_s (by decide)) rfl (by decide) rfl) (ok_Reader_nextU (d := d + 1) H) (fun h1 H => ?_)
  refine A_iload_n d_Reader_one_94 rfl ?_
  refine A_if_ne 123 d_Reader_one_95 (by decide) (fun z => ?_) (fun z => ?_)
  · have H := H.1 z
    refine A_aload_n d_Reader_one_123 rfl ?_
    refine A_iload_n d_Reader_one_124 rfl ?_
    refine A_iconst 1 (by decide) d_Reader_one_125 ?_
    refine A_iadd d_Reader_one_126 ?_
    refine A_cI [.ref 25, .int (x1 + 1)] [] (ct_Reader_75 rfl) d_Reader_one_127 rfl rfl (by decide) (Nat.le_of_ble_eq_true rfl) (rcA_o (c := 7) rfl (vA_s (by decide)) rfl (by decide) rfl) (hP_Reader_one _ _ _ H) (fun r3 h2 H => ?_)
    refine A_if_ne 135 d_Reader_one_130 (by decide) (fun z => ?_) (fun z => ?_)
    · have H := H.1 z
      refine A_aload_n d_Reader_one_135 rfl ?_
      obtain ⟨c4, H⟩ := H
      refine A_get (v := .ref (rR TU h2 25 2 - 1)) d_Reader_one_136 (fo_Reader_25_7 rfl) (vA_s (by decide)) rfl (vR_pos c4) ?_
      refine A_bipush (-10) (by decide) d_Reader_one_139 ?_
      obtain ⟨c5, H⟩ := H
      obtain ⟨c6, H⟩ := H
      refine A_cV [.ref (rR TU h2 25 2 - 1), .int (-10)] [] (ct_Reader_59 rfl) d_Reader_one_141 rfl rfl (by decide) (Nat.le_of_ble_eq_true rfl) (rcA_o (c := 6) rfl c5 c6 (by decide) rfl) (ok_Law_addU (d := d + 8) H) (fun h7 H => ?_)
      refine A_iconst 1 (by decide) d_Reader_one_144 ?_
      exact A_iret d_Reader_one_145 rfl rfl H
    · have H := H.2 z
      refine A_iconst 0 (by decide) d_Reader_one_133 ?_
      exact A_iret d_Reader_one_134 rfl rfl H
  · have H := H.2 z
    refine A_aload_n d_Reader_one_98 rfl ?_
    refine A_iload_n d_Reader_one_99 rfl ?_
    refine A_iconst 1 (by decide) d_Reader_one_100 ?_
    refine A_iadd d_Reader_one_101 ?_
    refine A_cI [.ref 25, .int (x1 + 1)] [] (ct_Reader_47 rfl) d_Reader_one_102 rfl rfl (by decide) (Nat.le_of_ble_eq_true rfl) (rcA_o (c := 7) rfl (vA_s (by decide)) rfl (by decide) rfl) (hP_Reader_either _ _ _ H) (fun r9 h8 H => ?_)
    refine A_if_eq 121 d_Reader_one_105 (by decide) (fun z => ?_) (fun z => ?_)
    · have H := H.1 z
      refine A_iconst 0 (by decide) d_Reader_one_121 ?_
      exact A_iret d_Reader_one_122 rfl rfl H
    · have H := H.2 z
      refine A_aload_n d_Reader_one_108 rfl ?_
      refine A_bipush 41 (by decide) d_Reader_one_109 ?_
      refine A_cI [.ref 25, .int 41] [] (ct_Reader_43 rfl) d_Reader_one_111 rfl rfl (by decide) (Nat.le_of_ble_eq_true rfl) (rcA_o (c := 7) rfl (vA_s (by decide)) rfl (by decide) rfl) (ok_Reader_takeU (d := d) H) (fun r11 h10 H => ?_)
      refine A_if_eq 121 d_Reader_one_114 (by decide) (fun z => ?_) (fun z => ?_)
      · have H := H.1 z
        refine A_iconst 0 (by decide) d_Reader_one_121 ?_
        exact A_iret d_Reader_one_122 rfl rfl H
      · have H := H.2 z
        refine A_iconst 1 (by decide) d_Reader_one_117 ?_
        refine A_goto 122 d_Reader_one_118 (by decide) ?_
        exact A_iret d_Reader_one_122 rfl rfl H
set_option maxRecDepth 20000 in
theorem r_Reader_one_68U {G : GG} {d : Nat} {Q : Int32 → AH → Prop} {P_Reader_either : (Int32 → AH → Prop) → Int32 → AH → Prop} {P_Reader_one : (Int32 → AH → Prop) → Int32 → AH → Prop} (hP_Reader_either : ∀ Q x1 h, P_Reader_either Q x1 h → WP G TU m_Reader_either (d + 8) [.ref 25, .int x1] h 0 0 (iQ Q)) (hP_Reader_one : ∀ Q x1 h, P_Reader_one Q x1 h → WP G TU m_Reader_one (d + 8) [.ref 25, .int x1] h 0 0 (iQ Q)) (x1 : Int32) (h : AH) (H : p_Reader_one_68U Q P_Reader_either P_Reader_one x1 h) : Att G TU m_Reader_one (d + 9) 68 [some (.ref 25), some (.int x1), none] [] h 0 0 (iQ Q) := by
  refine A_iload_n d_Reader_one_68 rfl ?_
  refine A_iconst 5 (by decide) d_Reader_one_69 ?_
  refine A_icmp_lt 75 d_Reader_one_70 (by decide) (fun z => ?_) (fun z => ?_)
  · have H := H.1 z
    refine A_aload_n d_Reader_one_75 rfl ?_
    refine A_get (v := .int (h.1 25 5)) d_Reader_one_76 (fo_Reader_53_7 rfl) (vA_s (by decide)) rfl (by first | rfl | (show Value.int _ = Value.int _; simp [wI, wL, wR, wC, up])) ?_
    refine A_bipush 45 (by decide) d_Reader_one_79 ?_
    refine A_icmp_ne 88 d_Reader_one_81 (by decide) (fun z => ?_) (fun z => ?_)
    · have H := H.1 z
      refine A_iconst 0 (by decide) d_Reader_one_88 ?_
      exact r_Reader_one_89U hP_Reader_either hP_Reader_one  _ _ _ H
    · have H := H.2 z
      refine A_iconst 1 (by decide) d_Reader_one_84 ?_
      refine A_goto 89 d_Reader_one_85 (by decide) ?_
      exact r_Reader_one_89U hP_Reader_either hP_Reader_one  _ _ _ H
  · have H := H.2 z
    refine A_iconst 0 (by decide) d_Reader_one_73 ?_
    exact A_iret d_Reader_one_74 rfl rfl H
set_option maxRecDepth 20000 in
theorem r_Reader_one_0U {G : GG} {d : Nat} {Q : Int32 → AH → Prop} {P_Reader_either : (Int32 → AH → Prop) → Int32 → AH → Prop} {P_Reader_one : (Int32 → AH → Prop) → Int32 → AH → Prop} (hP_Reader_either : ∀ Q x1 h, P_Reader_either Q x1 h → WP G TU m_Reader_either (d + 8) [.ref 25, .int x1] h 0 0 (iQ Q)) (hP_Reader_one : ∀ Q x1 h, P_Reader_one Q x1 h → WP G TU m_Reader_one (d + 8) [.ref 25, .int x1] h 0 0 (iQ Q)) (x1 : Int32) (h : AH) (H : p_Reader_oneU Q P_Reader_either P_Reader_one x1 h) : Att G TU m_Reader_one (d + 9) 0 [some (.ref 25), some (.int x1), none] [] h 0 0 (iQ Q) := by
  refine A_aload_n d_Reader_one_0 rfl ?_
  refine A_get (v := .int (h.1 25 5)) d_Reader_one_1 (fo_Reader_53_7 rfl) (vA_s (by decide)) rfl (by first | rfl | (show Value.int _ = Value.int _; simp [wI, wL, wR, wC, up])) ?_
  refine A_iconst 2 (by decide) d_Reader_one_4 ?_
  refine A_icmp_ne 25 d_Reader_one_5 (by decide) (fun z => ?_) (fun z => ?_)
  · have H := H.1 z
    refine A_aload_n d_Reader_one_25 rfl ?_
    refine A_get (v := .int (h.1 25 5)) d_Reader_one_26 (fo_Reader_53_7 rfl) (vA_s (by decide)) rfl (by first | rfl | (show Value.int _ = Value.int _; simp [wI, wL, wR, wC, up])) ?_
    refine A_iconst 3 (by decide) d_Reader_one_29 ?_
    refine A_icmp_ne 50 d_Reader_one_30 (by decide) (fun z => ?_) (fun z => ?_)
    · have H := H.1 z
      refine A_aload_n d_Reader_one_50 rfl ?_
      refine A_get (v := .int (h.1 25 5)) d_Reader_one_51 (fo_Reader_53_7 rfl) (vA_s (by decide)) rfl (by first | rfl | (show Value.int _ = Value.int _; simp [wI, wL, wR, wC, up])) ?_
      refine A_bipush 45 (by decide) d_Reader_one_54 ?_
      refine A_icmp_eq 68 d_Reader_one_56 (by decide) (fun z => ?_) (fun z => ?_)
      · have H := H.1 z
        exact r_Reader_one_68U hP_Reader_either hP_Reader_one  _ _ H
      · have H := H.2 z
        refine A_aload_n d_Reader_one_59 rfl ?_
        refine A_get (v := .int (h.1 25 5)) d_Reader_one_60 (fo_Reader_53_7 rfl) (vA_s (by decide)) rfl (by first | rfl | (show Value.int _ = Value.int _; simp [wI, wL, wR, wC, up])) ?_
        refine A_bipush 40 (by decide) d_Reader_one_63 ?_
        refine A_icmp_ne 73 d_Reader_one_65 (by decide) (fun z => ?_) (fun z => ?_)
        · have H := H.1 z
          refine A_iconst 0 (by decide) d_Reader_one_73 ?_
          exact A_iret d_Reader_one_74 rfl rfl H
        · have H := H.2 z
          exact r_Reader_one_68U hP_Reader_either hP_Reader_one  _ _ H
    · have H := H.2 z
      refine A_aload_n d_Reader_one_33 rfl ?_
      obtain ⟨c1, H⟩ := H
      refine A_get (v := .ref (rR TU h 25 2 - 1)) d_Reader_one_34 (fo_Reader_25_7 rfl) (vA_s (by decide)) rfl (vR_pos c1) ?_
      refine A_aload_n d_Reader_one_37 rfl ?_
      refine A_get (v := .int (h.1 25 6)) d_Reader_one_38 (fo_Reader_78_7 rfl) (vA_s (by decide)) rfl (by first | rfl | (show Value.int _ = Value.int _; simp [wI, wL, wR, wC, up])) ?_
      obtain ⟨c2, H⟩ := H
      obtain ⟨c3, H⟩ := H
      refine A_cV [.ref (rR TU h 25 2 - 1), .int (h.1 25 6)] [] (ct_Reader_81 rfl) d_Reader_one_41 rfl rfl (by decide) (Nat.le_of_ble_eq_true rfl) (rcA_o (c := 6) rfl c2 c3 (by decide) rfl) (ok_Law_addNameU (d := d + 7) H) (fun h4 H => ?_)
      refine A_aload_n d_Reader_one_44 rfl ?_
      refine A_cV [.ref 25] [] (ct_Reader_37 rfl) d_Reader_one_45 rfl rfl (by decide) (Nat.le_of_ble_eq_true rfl) (rcA_o (c := 7) rfl (vA_s (by decide)) rfl (by decide) rfl) (ok_Reader_nextU (d := d + 1) H) (fun h5 H => ?_)
      refine A_iconst 1 (by decide) d_Reader_one_48 ?_
      exact A_iret d_Reader_one_49 rfl rfl H
  · have H := H.2 z
    refine A_aload_n d_Reader_one_8 rfl ?_
    obtain ⟨c6, H⟩ := H
    refine A_get (v := .ref (rR TU h 25 2 - 1)) d_Reader_one_9 (fo_Reader_25_7 rfl) (vA_s (by decide)) rfl (vR_pos c6) ?_
    refine A_aload_n d_Reader_one_12 rfl ?_
    refine A_get (v := .int (h.1 25 6)) d_Reader_one_13 (fo_Reader_78_7 rfl) (vA_s (by decide)) rfl (by first | rfl | (show Value.int _ = Value.int _; simp [wI, wL, wR, wC, up])) ?_
    obtain ⟨c7, H⟩ := H
    obtain ⟨c8, H⟩ := H
    refine A_cV [.ref (rR TU h 25 2 - 1), .int (h.1 25 6)] [] (ct_Reader_59 rfl) d_Reader_one_16 rfl rfl (by decide) (Nat.le_of_ble_eq_true rfl) (rcA_o (c := 6) rfl c7 c8 (by decide) rfl) (ok_Law_addU (d := d + 8) H) (fun h9 H => ?_)
    refine A_aload_n d_Reader_one_19 rfl ?_
    refine A_cV [.ref 25] [] (ct_Reader_37 rfl) d_Reader_one_20 rfl rfl (by decide) (Nat.le_of_ble_eq_true rfl) (rcA_o (c := 7) rfl (vA_s (by decide)) rfl (by decide) rfl) (ok_Reader_nextU (d := d + 1) H) (fun h10 H => ?_)
    refine A_iconst 1 (by decide) d_Reader_one_23 ?_
    exact A_iret d_Reader_one_24 rfl rfl H
set_option maxRecDepth 20000 in
theorem ok_Reader_oneU {G : GG} {d : Nat} {Q : Int32 → AH → Prop} {P_Reader_either : (Int32 → AH → Prop) → Int32 → AH → Prop} {P_Reader_one : (Int32 → AH → Prop) → Int32 → AH → Prop} (hP_Reader_either : ∀ Q x1 h, P_Reader_either Q x1 h → WP G TU m_Reader_either (d + 8) [.ref 25, .int x1] h 0 0 (iQ Q)) (hP_Reader_one : ∀ Q x1 h, P_Reader_one Q x1 h → WP G TU m_Reader_one (d + 8) [.ref 25, .int x1] h 0 0 (iQ Q)) {x1 : Int32} {h : AH} (H : p_Reader_oneU Q P_Reader_either P_Reader_one x1 h) : WP G TU m_Reader_one (d + 9) [.ref 25, .int x1] h 0 0 (iQ Q) := by
  exact WP.enter 1 (by decide) rfl rfl (r_Reader_one_0U hP_Reader_either hP_Reader_one x1 h H)
theorem lawTU {t : Nat} (ht : t < 6) (h : AH) : vA TU h (33 + 3 * t) ∧ (rS TU h (33 + 3 * t)).1 = 6 ∧ rR TU h (33 + 3 * t) 0 = 34 + 3 * t + 1 ∧ rR TU h (33 + 3 * t) 1 = 35 + 3 * t + 1 ∧ vA TU h (34 + 3 * t) ∧ rS TU h (34 + 3 * t) = (100, 160) ∧ vA TU h (35 + 3 * t) ∧ rS TU h (35 + 3 * t) = (100, 4) := by
  have h6 : t = 0 ∨ t = 1 ∨ t = 2 ∨ t = 3 ∨ t = 4 ∨ t = 5 := by omega
  refine ⟨vA_s (show _ < 59 by omega), ?_, ?_, ?_, vA_s (show _ < 59 by omega), ?_, vA_s (show _ < 59 by omega), ?_⟩ <;> (rcases h6 with rfl | rfl | rfl | rfl | rfl | rfl <;> rfl)
theorem rR_2U {h h' : AH} {a k : Nat} (e : h'.2 = h.2) : rR TU h' a k = rR TU h a k := by unfold rR; rw [e]
def RBU (b : Nat → Int32) (L : Nat) (h : AH) : Prop := h.1 25 1 = nI L ∧ rR TU h 25 0 = 5 ∧ ∀ j, j < L → h.1 4 (nI j) = b j
theorem RBU.w {b : Nat → Int32} {L : Nat} {h : AH} {k x : Int32} (R : RBU b L h) (hk : ¬ (1 : Int32) = k) : RBU b L (wI h 25 k x) := ⟨by rw [wI_r, if_pos rfl, up_n hk]; exact R.1, R.2.1, R.2.2⟩
theorem RBU.at {b : Nat → Int32} {L p : Nat} {h : AH} (R : RBU b L h) (hL : L ≤ 160) (hp : p < L) : (0 < rR TU h 25 0 ∧ vA TU h (rR TU h 25 0 - 1) ∧ (rS TU h (rR TU h 25 0 - 1)).1 = 100 ∧ inb (nI p) (rS TU h (rR TU h 25 0 - 1)).2) ∧ h.1 (rR TU h 25 0 - 1) (nI p) = b p := by
  rw [R.2.1]
  exact ⟨⟨by decide, vA_s (show 4 < 59 by decide), rfl, inb_nI (n := 160) (by omega) (by omega)⟩, R.2.2 p hp⟩
theorem isWord_loopU {b : Nat → Int32} {L s e i : Nat} {Q : Int32 → AH → Prop} {h : AH} (R : RBU b L h) (hL : L ≤ 160) (hs : s ≤ e) (he : e ≤ L) (e3 : h.1 25 3 = nI e) (e4 : h.1 25 4 = nI s) (hi : i < 13) (hl : e - s = (strByt.getD i []).length) (HQ : Q (b01 (seg b s e = strByt.getD i [])) h) : ∀ (cnt j : Nat), s + j + cnt = e → (∀ j', j' < j → b (s + j') = (strByt.getD i []).getD j' 0) → p_Reader_isWord_23U Q (cnt + 1) (1000000 + i) (nI (s + j)) h := by
  intro cnt
  induction cnt with
  | zero =>
    intro j hj A
    simp only [p_Reader_isWord_23U]
    rw [e3, pT ((nI_leN (by omega) (by omega)).mpr (by omega))]
    rw [b01_t (seg_eq.mpr ⟨hl, fun j' hj' => A j' (by omega)⟩)] at HQ
    exact HQ
  | succ cnt ih =>
    intro j hj A
    obtain ⟨n', hn'⟩ : ∃ n', n' = cnt + 1 := ⟨_, rfl⟩
    rw [← hn']
    rw [← hn'] at ih
    obtain ⟨⟨q1, q2, q3, q4⟩, q5⟩ := R.at hL (p := s + j) (by omega)
    simp only [p_Reader_isWord_23U]
    rw [e3, e4, pF (fun z => by have := (nI_leN (by omega) (by omega)).mp z; omega), q5, nI_subN (by omega), Nat.add_sub_cancel_left, nI_1]
    refine ⟨q1, q2, q3, q4, i, rfl, hi, inb_nI (by rw [← strLB i hi]; omega) (by rw [← strLB i hi]; omega), ?_⟩
    have ec : chS i (nI j) = (strByt.getD i []).getD j 0 := by unfold chS; rw [nI_clamp (by omega)]
    rw [ec]
    by_cases c : b (s + j) = (strByt.getD i []).getD j 0
    · refine (pT c).mpr (ih (j + 1) (by omega) (fun j' hj' => ?_))
      by_cases e9 : j' = j
      · rw [e9]; exact c
      · exact A j' (by omega)
    · refine (pF c).mpr ?_
      rw [b01_f (fun z => c ((seg_eq.mp z).2 j (by omega)))] at HQ
      exact HQ
theorem isWord_specU {b : Nat → Int32} {L s e i : Nat} {Q : Int32 → AH → Prop} {h : AH} (R : RBU b L h) (hL : L ≤ 160) (hs : s ≤ e) (he : e ≤ L) (e3 : h.1 25 3 = nI e) (e4 : h.1 25 4 = nI s) (hi : i < 13) (HQ : Q (b01 (seg b s e = strByt.getD i [])) h) : p_Reader_isWordU Q (1000000 + i) h := by
  refine ⟨i, rfl, hi, ?_⟩
  have hl := strLB i hi
  have l100 : strLen.getD i 0 < 100 := (strB_ok i hi).2.1
  rw [e3, e4, nI_subN hs]
  by_cases c : e - s = strLen.getD i 0
  · refine (pT (by rw [c]; rfl)).mpr ⟨e - s + 1, ?_⟩
    have := isWord_loopU R hL hs he e3 e4 hi (by rw [hl]; exact c) HQ (e - s) 0 (by omega) (fun j' hj' => absurd hj' (by omega))
    rw [Nat.add_zero] at this
    rw [e4]; exact this
  · refine (pF (fun z => c ((nI_inj (by omega) (by omega)).mp z))).mpr ?_
    rw [b01_f (fun z => c (by have := (seg_eq.mp z).1; rw [hl] at this; exact this))] at HQ
    exact HQ
theorem word_39_specU {b : Nat → Int32} {L s e : Nat} {Q : AH → Prop} {h : AH} (R : RBU b L h) (hL : L ≤ 160) (hs : s ≤ e) (he : e ≤ L) (e3 : h.1 25 3 = nI e) (e4 : h.1 25 4 = nI s) (HQ : ∀ h', frm [25] h h' → (∀ k, ¬ k = 5 → ¬ k = 6 → h'.1 25 k = h.1 25 k) → h'.1 25 5 = wdK (wNo (seg b s e)) → (h'.1 25 5 = 3 → h'.1 25 6 = wdV (wNo (seg b s e))) → Q h') : p_Reader_word_39U Q h := by
  obtain ⟨ws, hws⟩ : ∃ ws, ws = seg b s e := ⟨_, rfl⟩
  rw [← hws] at HQ
  have W : ∀ (i k : Nat) (Q : Int32 → AH → Prop), i < 13 → k < 12 → wix k = i → Q (b01 (wNo ws = k)) h → p_Reader_isWordU Q (1000000 + i) h := fun i k Q hi hk e9 H => by
    refine isWord_specU R hL hs he e3 e4 hi ?_
    have e8 : (seg b s e = strByt.getD i []) ↔ wNo ws = k := by
      rw [← hws, ← e9]; exact wNo_is hk
    by_cases c : wNo ws = k
    · rw [b01_t c] at H; rw [b01_t (e8.mpr c)]; exact H
    · rw [b01_f c] at H; rw [b01_f (fun z => c (e8.mp z))]; exact H
  have D1 : ∀ x, (x = wdK (wNo ws)) → ¬ x = 3 → Q (wI h 25 5 x) := fun x hx h3 => by
    refine HQ _ (frm_w frm_rf (by decide)) (fun k k5 _ => ?_) ?_ (fun z => ?_)
    · rw [wI_r, if_pos rfl, up_n k5]
    · rw [wI_r, if_pos rfl, up_s, hx]
    · rw [wI_r, if_pos rfl, up_s] at z; exact absurd z h3
  have D2 : ∀ x y, (x = wdK (wNo ws)) → (x = 3 → y = wdV (wNo ws)) → Q (wI (wI h 25 6 y) 25 5 x) := fun x y hx h3 => by
    refine HQ _ (frm_w (frm_w frm_rf (by decide)) (by decide)) (fun k k5 k6 => ?_) ?_ (fun z => ?_)
    · rw [wI_r, if_pos rfl, up_n k5, wI_r, if_pos rfl, up_n k6]
    · rw [wI_r, if_pos rfl, up_s, hx]
    · rw [wI_r, if_pos rfl, up_s] at z
      rw [wI_r, if_pos rfl, up_n (by decide), wI_r, if_pos rfl, up_s]; exact h3 z
  have ne : ∀ i j : Nat, wNo ws = i → ¬ i = j → ¬ wNo ws = j := fun i j h1 h2 z => h2 (h1.symm.trans z)
  unfold p_Reader_word_39U
  refine W 1 0 _ (by decide) (by decide) rfl ?_
  by_cases c0 : wNo ws = 0
  · rw [b01_t c0]; exact (pF (by decide)).mpr (D1 7 (by rw [c0]; rfl) (by decide))
  rw [b01_f c0]; refine (pT rfl).mpr (W 2 1 _ (by decide) (by decide) rfl ?_)
  by_cases c1 : wNo ws = 1
  · rw [b01_t c1]; exact (pF (by decide)).mpr (D1 8 (by rw [c1]; rfl) (by decide))
  rw [b01_f c1]; refine (pT rfl).mpr (W 3 2 _ (by decide) (by decide) rfl ?_)
  by_cases c2 : wNo ws = 2
  · rw [b01_t c2]; exact (pF (by decide)).mpr (D1 9 (by rw [c2]; rfl) (by decide))
  rw [b01_f c2]; refine (pT rfl).mpr (W 4 9 _ (by decide) (by decide) rfl ?_)
  by_cases c9 : wNo ws = 9
  · rw [b01_t c9]; exact (pF (by decide)).mpr (D1 4 (by rw [c9]; rfl) (by decide))
  rw [b01_f c9]; refine (pT rfl).mpr (W 5 10 _ (by decide) (by decide) rfl ?_)
  by_cases c10 : wNo ws = 10
  · rw [b01_t c10]; exact (pF (by decide)).mpr (D1 5 (by rw [c10]; rfl) (by decide))
  rw [b01_f c10]; refine (pT rfl).mpr (W 6 11 _ (by decide) (by decide) rfl ?_)
  by_cases c11 : wNo ws = 11
  · rw [b01_t c11]; exact (pF (by decide)).mpr (D1 6 (by rw [c11]; rfl) (by decide))
  rw [b01_f c11]; refine (pT rfl).mpr ?_
  unfold p_Reader_nameReadU
  refine W 7 3 _ (by decide) (by decide) rfl ?_
  by_cases c3 : wNo ws = 3
  · rw [b01_t c3]; exact (pF (by decide)).mpr ((nF (by decide)).mpr (D2 3 0 (by rw [c3]; rfl) (fun _ => by rw [c3]; rfl)))
  rw [b01_f c3]; refine (pT rfl).mpr (W 8 4 _ (by decide) (by decide) rfl ?_)
  by_cases c4 : wNo ws = 4
  · rw [b01_t c4]; exact (pF (by decide)).mpr ((nF (by decide)).mpr (D2 3 1 (by rw [c4]; rfl) (fun _ => by rw [c4]; rfl)))
  rw [b01_f c4]; refine (pT rfl).mpr (W 9 5 _ (by decide) (by decide) rfl ?_)
  by_cases c5 : wNo ws = 5
  · rw [b01_t c5]; exact (pF (by decide)).mpr ((nF (by decide)).mpr (D2 3 2 (by rw [c5]; rfl) (fun _ => by rw [c5]; rfl)))
  rw [b01_f c5]; refine (pT rfl).mpr (W 10 6 _ (by decide) (by decide) rfl ?_)
  by_cases c6 : wNo ws = 6
  · rw [b01_t c6]; exact (pF (by decide)).mpr ((nF (by decide)).mpr (D2 3 3 (by rw [c6]; rfl) (fun _ => by rw [c6]; rfl)))
  rw [b01_f c6]; refine (pT rfl).mpr (W 11 7 _ (by decide) (by decide) rfl ?_)
  by_cases c7 : wNo ws = 7
  · rw [b01_t c7]; exact (pF (by decide)).mpr ((nF (by decide)).mpr (D2 3 4 (by rw [c7]; rfl) (fun _ => by rw [c7]; rfl)))
  rw [b01_f c7]; refine (pT rfl).mpr (W 12 8 _ (by decide) (by decide) rfl ?_)
  by_cases c8 : wNo ws = 8
  · rw [b01_t c8]; exact (pF (by decide)).mpr ((nF (by decide)).mpr (D2 3 5 (by rw [c8]; rfl) (fun _ => by rw [c8]; rfl)))
  rw [b01_f c8]
  have c12 : wNo ws = 12 := by
    rcases wNo_spec ws with ⟨h1, _⟩ | ⟨h1, _⟩
    · exact h1
    · omega
  exact (pT rfl).mpr ((nT rfl).mpr (D2 1 (-1) (by rw [c12]; rfl) (fun z => absurd z (by decide))))

theorem RBU.tr {b : Nat → Int32} {L : Nat} {h h' : AH} (R : RBU b L h) (f : frm [25] h h') (e : h'.1 25 1 = h.1 25 1) : RBU b L h' := ⟨e.trans R.1, by rw [rR_2U f.1]; exact R.2.1, by rw [f.2 4 (by decide)]; exact R.2.2⟩
theorem word_0_specU {b : Nat → Int32} {L : Nat} {Q : AH → Prop} (hL : L ≤ 160) : ∀ (n p : Nat) (h : AH), p + n = L → RBU b L h → h.1 25 3 = nI p → (∀ h', frm [25] h h' → (∀ k, ¬ k = 3 → h'.1 25 k = h.1 25 k) → h'.1 25 3 = nI (endW ltrB b n p) → p_Reader_word_39U Q h') → p_Reader_word_0U Q (n + 1) h := by
  intro n
  induction n with
  | zero =>
    intro p h hp R e3 HQ
    simp only [p_Reader_word_0U]
    rw [R.1, e3, pT ((nI_leN (by omega) (by omega)).mpr (by omega))]
    exact HQ h frm_rf (fun _ _ => rfl) e3
  | succ n ih =>
    intro p h hp R e3 HQ
    obtain ⟨n', hn'⟩ : ∃ n', n' = n + 1 := ⟨_, rfl⟩
    rw [← hn']
    rw [← hn'] at ih
    obtain ⟨⟨q1, q2, q3, q4⟩, q5⟩ := R.at hL (p := p) (by omega)
    simp only [p_Reader_word_0U]
    rw [R.1, e3, pF (fun z => by have := (nI_leN (by omega) (by omega)).mp z; omega), q5, isLetter_iff]
    refine ⟨q1, q2, q3, q4, ?_⟩
    by_cases c : ltrB (b p) = true
    · rw [b01_t (ltrB_t.mp c)]
      refine (pF (by decide)).mpr ?_
      rw [e3, nI_1]
      have ee : endW ltrB b (n + 1) p = endW ltrB b n (p + 1) := if_pos c
      rw [ee] at HQ
      refine ih (p + 1) _ (by omega) (R.w (by decide)) (by rw [wI_r, if_pos rfl, up_s]) (fun h' f k3 e3' => HQ h' (frm_tr (frm_w frm_rf (by decide)) f (fun _ z => z) (fun _ z => z)) (fun k hk => ?_) e3')
      rw [k3 k hk, wI_r, if_pos rfl, up_n hk]
    · rw [b01_f (fun z => c (ltrB_t.mpr z))]
      refine (pT rfl).mpr ?_
      have ee : endW ltrB b (n + 1) p = p := if_neg c
      rw [ee] at HQ
      exact HQ h frm_rf (fun _ _ => rfl) e3
theorem number_5_specU {b : Nat → Int32} {L : Nat} {Q : AH → Prop} (hL : L ≤ 160) : ∀ (n p : Nat) (v : Int32) (h : AH), p + n = L → RBU b L h → h.1 25 3 = nI p → h.1 25 6 = v → (∀ h', frm [25] h h' → (∀ k, ¬ k = 3 → ¬ k = 6 → h'.1 25 k = h.1 25 k) → h'.1 25 3 = nI (endW dgtB b n p) → h'.1 25 6 = numV b (endW dgtB b n p - p) p v → p_Reader_number_68 Q h') → p_Reader_number_5U Q (n + 1) h := by
  intro n
  induction n with
  | zero =>
    intro p v h hp R e3 e6 HQ
    simp only [p_Reader_number_5U]
    rw [R.1, e3, pT ((nI_leN (by omega) (by omega)).mpr (by omega))]
    exact HQ h frm_rf (fun _ _ _ => rfl) e3 (by rw [show endW dgtB b 0 p - p = 0 from Nat.sub_self p]; exact e6)
  | succ n ih =>
    intro p v h hp R e3 e6 HQ
    obtain ⟨n', hn'⟩ : ∃ n', n' = n + 1 := ⟨_, rfl⟩
    rw [← hn']
    rw [← hn'] at ih
    obtain ⟨⟨q1, q2, q3, q4⟩, q5⟩ := R.at hL (p := p) (by omega)
    simp only [p_Reader_number_5U]
    rw [R.1, e3, pF (fun z => by have := (nI_leN (by omega) (by omega)).mp z; omega), q5, isDigit_iff]
    refine ⟨q1, q2, q3, q4, ?_⟩
    by_cases c : dgtB (b p) = true
    · rw [b01_t (dgtB_t.mp c)]
      refine (pF (by decide)).mpr ?_
      rw [e3, e6, q5, nI_1]
      refine ⟨q1, q2, q3, q4, ?_⟩
      have ee : endW dgtB b (n + 1) p = endW dgtB b n (p + 1) := if_pos c
      have ge := (endW_in (P := dgtB) (b := b) n (p + 1)).1
      have en : numV b (endW dgtB b (n + 1) p - p) p v = numV b (endW dgtB b n (p + 1) - (p + 1)) (p + 1) (v * 10 + b p - 48) := by
        rw [ee, show endW dgtB b n (p + 1) - p = (endW dgtB b n (p + 1) - (p + 1)) + 1 by omega]; rfl
      rw [en, ee] at HQ
      refine ih (p + 1) (v * 10 + b p - 48) _ (by omega) ((R.w (by decide)).w (by decide)) (by rw [wI_r, if_pos rfl, up_s]) (by rw [wI_r, if_pos rfl, up_n (by decide), wI_r, if_pos rfl, up_s]) (fun h' f k3 e3' e6' => HQ h' (frm_tr (frm_w (frm_w frm_rf (by decide)) (by decide)) f (fun _ z => z) (fun _ z => z)) (fun k hk hk6 => ?_) e3' e6')
      rw [k3 k hk hk6, wI_r, if_pos rfl, up_n hk, wI_r, if_pos rfl, up_n hk6]
    · rw [b01_f (fun z => c (dgtB_t.mpr z))]
      refine (pT rfl).mpr ?_
      have ee : endW dgtB b (n + 1) p = p := if_neg c
      rw [ee, Nat.sub_self] at HQ
      exact HQ h frm_rf (fun _ _ _ => rfl) e3 e6
def TSU (b : Nat → Int32) (L p : Nat) (h : AH) : Prop := RBU b L h ∧ h.1 25 3 = nI (tkE b L p) ∧ h.1 25 4 = nI (tkS b L p) ∧ h.1 25 5 = tkK b L p ∧ (tkK b L p = 2 ∨ tkK b L p = 3 → h.1 25 6 = tkV b L p)
theorem next_52_specU {b : Nat → Int32} {L p : Nat} {Q : AH → Prop} {h : AH} (hL : L ≤ 160) (hp : p ≤ L) (R : RBU b L h) (e3 : h.1 25 3 = nI (tkS b L p)) (HQ : ∀ h', frm [25] h h' → TSU b L p h' → Q h') : p_Reader_next_52U Q h := by
  obtain ⟨s1, s2⟩ := tkS_in (b := b) hp
  obtain ⟨x1, x2, x3⟩ := tkE_in (b := b) hp
  obtain ⟨s, hs⟩ : ∃ s, s = tkS b L p := ⟨_, rfl⟩
  rw [← hs] at s1 s2 x1 x3 e3
  unfold p_Reader_next_52U
  rw [R.1, e3]
  have R1 : RBU b L (wI h 25 4 (nI s)) := R.w (by decide)
  have f1 : frm [25] h (wI h 25 4 (nI s)) := frm_w frm_rf (by decide)
  have e31 : (wI h 25 4 (nI s)).1 25 3 = nI s := by rw [wI_r, if_pos rfl, up_n (by decide)]; exact e3
  have e41 : (wI h 25 4 (nI s)).1 25 4 = nI s := by rw [wI_r, if_pos rfl, up_s]
  by_cases c : L ≤ s
  · refine (pF (fun z => by have := (nI_ltI (by omega) (by omega)).mp z; omega)).mpr ?_
    have eK : tkK b L p = 0 := by unfold tkK; rw [← hs]; exact if_pos c
    have eE : tkE b L p = s := by unfold tkE; rw [← hs]; exact if_pos c
    refine HQ _ (frm_w f1 (by decide)) ⟨R1.w (by decide), ?_, ?_, ?_, fun z => ?_⟩
    · rw [eE, wI_r, if_pos rfl, up_n (by decide)]; exact e31
    · rw [← hs, wI_r, if_pos rfl, up_n (by decide)]; exact e41
    · rw [eK, wI_r, if_pos rfl, up_s]
    · rw [eK] at z; exact absurd z (by decide)
  · obtain ⟨⟨q1, q2, q3, q4⟩, q5⟩ := R1.at hL (p := s) (by omega)
    have q4' : inb ((wI h 25 4 (nI s)).1 25 3) (rS TU (wI h 25 4 (nI s)) (rR TU (wI h 25 4 (nI s)) 25 0 - 1)).2 := by rw [e31]; exact q4
    refine (pT ((nI_ltI (by omega) (by omega)).mpr (by omega))).mpr ⟨q1, q2, q3, q4, ?_⟩
    have q5' : (wI h 25 4 (nI s)).1 (rR TU h 25 0 - 1) (nI s) = b s := q5
    rw [q5', isLetter_iff]
    by_cases c1 : ltrB (b s) = true
    · rw [b01_t (ltrB_t.mp c1)]
      refine (pF (by decide)).mpr ⟨L - s + 1, word_0_specU hL (L - s) s _ (by omega) R1 e31 (fun h2 f2 k3 e32 => ?_)⟩
      have eE : tkE b L p = endW ltrB b (L - s) s := by unfold tkE; rw [← hs, if_neg c, if_pos c1]
      have eK : tkK b L p = wdK (wNo (seg b s (tkE b L p))) := by unfold tkK; rw [← hs, if_neg c, if_pos c1]
      have eV : tkV b L p = wdV (wNo (seg b s (tkE b L p))) := by unfold tkV; rw [← hs, if_pos c1]
      rw [← eE] at e32
      have R2 : RBU b L h2 := R1.tr f2 (k3 1 (by decide))
      refine word_39_specU R2 hL x1 x2 e32 ((k3 4 (by decide)).trans e41) (fun h3 f3 k56 e53 e63 => ?_)
      refine HQ h3 (frm_tr f1 (frm_tr f2 f3 (fun _ z => z) (fun _ z => z)) (fun _ z => z) (fun _ z => z)) ⟨R2.tr f3 (k56 1 (by decide) (by decide)), ?_, ?_, ?_, fun z => ?_⟩
      · exact (k56 3 (by decide) (by decide)).trans e32
      · rw [← hs]; exact (k56 4 (by decide) (by decide)).trans ((k3 4 (by decide)).trans e41)
      · rw [eK]; exact e53
      · rw [eV]
        rw [eK] at z
        exact e63 (e53.trans (z.resolve_left (wdK_ne ⟨_, wNo_le _⟩)))
    · rw [b01_f (fun z => c1 (ltrB_t.mpr z))]
      refine (pT rfl).mpr ⟨q1, q2, q3, q4', ?_⟩
      have q5'' : (wI h 25 4 (nI s)).1 (rR TU (wI h 25 4 (nI s)) 25 0 - 1) ((wI h 25 4 (nI s)).1 25 3) = b s := by rw [e31]; exact q5
      rw [q5'', isDigit_iff]
      by_cases c2 : dgtB (b s) = true
      · rw [b01_t (dgtB_t.mp c2)]
        have R2 : RBU b L (wI (wI h 25 4 (nI s)) 25 6 0) := R1.w (by decide)
        refine (pF (by decide)).mpr ⟨L - s + 1, number_5_specU hL (L - s) s 0 _ (by omega) R2 (by rw [wI_r, if_pos rfl, up_n (by decide)]; exact e31) (by rw [wI_r, if_pos rfl, up_s]) (fun h2 f2 k36 e32 e62 => ?_)⟩
        have eE : tkE b L p = endW dgtB b (L - s) s := by unfold tkE; rw [← hs, if_neg c, if_neg c1, if_pos c2]
        have eK : tkK b L p = if tkE b L p - s ≤ 4 then 2 else 1 := by unfold tkK; rw [← hs, if_neg c, if_neg c1, if_pos c2]
        have eV : tkV b L p = numV b (tkE b L p - s) s 0 := by unfold tkV; rw [← hs, if_neg c1]
        rw [← eE] at e32 e62
        have R3 : RBU b L h2 := R2.tr f2 (k36 1 (by decide) (by decide))
        have e42 : h2.1 25 4 = nI s := by rw [k36 4 (by decide) (by decide), wI_r, if_pos rfl, up_n (by decide)]; exact e41
        have f3 : frm [25] h h2 := frm_tr (frm_w f1 (by decide)) f2 (fun _ z => z) (fun _ z => z)
        unfold p_Reader_number_68
        rw [e32, e42, nI_subN x1]
        have fin : ∀ x, x = tkK b L p → Q (wI h2 25 5 x) := fun x hx => by
          refine HQ _ (frm_w f3 (by decide)) ⟨R3.w (by decide), ?_, ?_, ?_, fun z => ?_⟩
          · rw [wI_r, if_pos rfl, up_n (by decide)]; exact e32
          · rw [← hs, wI_r, if_pos rfl, up_n (by decide)]; exact e42
          · rw [wI_r, if_pos rfl, up_s, hx]
          · rw [wI_r, if_pos rfl, up_n (by decide), eV]; exact e62
        by_cases c3 : tkE b L p - s ≤ 4
        · exact (pT ((nI_leN (b := 4) (by omega) (by decide)).mpr c3)).mpr (fin 2 (by rw [eK, if_pos c3]))
        · exact (pF (fun z => c3 ((nI_leN (b := 4) (by omega) (by decide)).mp z))).mpr (fin 1 (by rw [eK, if_neg c3]))
      · rw [b01_f (fun z => c2 (dgtB_t.mpr z))]
        refine (pT rfl).mpr ?_
        have eE : tkE b L p = s + 1 := by unfold tkE; rw [← hs, if_neg c, if_neg c1, if_neg c2]
        have eK : tkK b L p = if sgnB (b s) then b s else 1 := by unfold tkK; rw [← hs, if_neg c, if_neg c1, if_neg c2]
        unfold p_Reader_signU
        rw [e31, q5, nI_1]
        refine ⟨q1, q2, q3, q4, ?_⟩
        have nk : ¬ (tkK b L p = 2 ∨ tkK b L p = 3) := by
          rw [eK]
          by_cases c3 : sgnB (b s) = true
          · rw [if_pos c3]; exact sgn_ne c3
          · rw [if_neg c3]; decide
        have fin : ∀ x, x = tkK b L p → Q (wI (wI (wI h 25 4 (nI s)) 25 3 (nI (s + 1))) 25 5 x) := fun x hx => by
          refine HQ _ (frm_w (frm_w f1 (by decide)) (by decide)) ⟨(R1.w (by decide)).w (by decide), ?_, ?_, ?_, fun z => absurd z nk⟩
          · rw [eE, wI_r, if_pos rfl, up_n (by decide), wI_r, if_pos rfl, up_s]
          · rw [← hs, wI_r, if_pos rfl, up_n (by decide), wI_r, if_pos rfl, up_n (by decide)]; exact e41
          · rw [wI_r, if_pos rfl, up_s, hx]
        have yes : sgnB (b s) = true → p_Reader_sign_68 (fun h13 => Q h13) (b s) (wI (wI h 25 4 (nI s)) 25 3 (nI (s + 1))) := fun z => by
          unfold p_Reader_sign_68 p_Reader_sign_73
          exact (pF (by decide)).mpr (fin _ (by rw [eK, if_pos z]))
        by_cases d1 : b s = 40
        · exact (pT d1).mpr (yes (sgnB_t.mpr (by simp [d1])))
        refine (pF d1).mpr ?_
        by_cases d2 : b s = 41
        · exact (pT d2).mpr (yes (sgnB_t.mpr (by simp [d2])))
        refine (pF d2).mpr ?_
        by_cases d3 : b s = 59
        · exact (pT d3).mpr (yes (sgnB_t.mpr (by simp [d3])))
        refine (pF d3).mpr ?_
        by_cases d4 : b s = 43
        · exact (pT d4).mpr (yes (sgnB_t.mpr (by simp [d4])))
        refine (pF d4).mpr ?_
        by_cases d5 : b s = 45
        · exact (pT d5).mpr (yes (sgnB_t.mpr (by simp [d5])))
        refine (pF d5).mpr ?_
        by_cases d6 : b s = 42
        · exact (pT d6).mpr (yes (sgnB_t.mpr (by simp [d6])))
        refine (pF d6).mpr ?_
        by_cases d7 : b s = 60
        · exact (pT d7).mpr (yes (sgnB_t.mpr (by simp [d7])))
        refine (pF d7).mpr ?_
        by_cases d8 : b s = 61
        · exact (nT d8).mpr (yes (sgnB_t.mpr (by simp [d8])))
        refine (nF d8).mpr ?_
        unfold p_Reader_sign_73
        exact (pT rfl).mpr (fin _ (by rw [eK, if_neg (fun z => by rcases sgnB_t.mp z with z | z | z | z | z | z | z | z <;> contradiction)]))
theorem next_0_specU {b : Nat → Int32} {L : Nat} {Q : AH → Prop} (hL : L ≤ 160) : ∀ (n p : Nat) (h : AH), p + n = L → RBU b L h → h.1 25 3 = nI p → (∀ h', frm [25] h h' → RBU b L h' → h'.1 25 3 = nI (endW blkB b n p) → p_Reader_next_52U Q h') → p_Reader_next_0U Q (n + 1) h := by
  intro n
  induction n with
  | zero =>
    intro p h hp R e3 HQ
    simp only [p_Reader_next_0U]
    rw [R.1, e3, pT ((nI_leN (by omega) (by omega)).mpr (by omega))]
    exact HQ h frm_rf R e3
  | succ n ih =>
    intro p h hp R e3 HQ
    obtain ⟨n', hn'⟩ : ∃ n', n' = n + 1 := ⟨_, rfl⟩
    rw [← hn']
    rw [← hn'] at ih
    obtain ⟨⟨q1, q2, q3, q4⟩, q5⟩ := R.at hL (p := p) (by omega)
    simp only [p_Reader_next_0U]
    rw [R.1, e3, pF (fun z => by have := (nI_leN (by omega) (by omega)).mp z; omega), q5]
    refine ⟨q1, q2, q3, q4, ?_⟩
    have go : blkB (b p) = true → p_Reader_next_39 Q (p_Reader_next_0U Q n') h := fun c => by
      unfold p_Reader_next_39
      rw [e3, nI_1]
      have ee : endW blkB b (n + 1) p = endW blkB b n (p + 1) := if_pos c
      rw [ee] at HQ
      exact ih (p + 1) _ (by omega) (R.w (by decide)) (by rw [wI_r, if_pos rfl, up_s]) (fun h' f R' e3' => HQ h' (frm_tr (frm_w frm_rf (by decide)) f (fun _ z => z) (fun _ z => z)) R' e3')
    by_cases d1 : b p = 32
    · exact (pT d1).mpr (go (blkB_t.mpr (Or.inl d1)))
    refine (pF d1).mpr ?_
    by_cases d2 : b p = 10
    · exact (nT d2).mpr (go (blkB_t.mpr (Or.inr d2)))
    refine (nF d2).mpr ?_
    have ee : endW blkB b (n + 1) p = p := if_neg (fun z => by rcases blkB_t.mp z with z | z <;> contradiction)
    rw [ee] at HQ
    exact HQ h frm_rf R e3
theorem Reader_next_specU {b : Nat → Int32} {L p : Nat} {Q : AH → Prop} {h : AH} (hL : L ≤ 160) (hp : p ≤ L) (R : RBU b L h) (e3 : h.1 25 3 = nI p) (HQ : ∀ h', frm [25] h h' → TSU b L p h' → Q h') : p_Reader_nextU Q h :=
  ⟨L - p + 1, next_0_specU hL (L - p) p h (by omega) R e3 (fun h1 f1 R1 e31 => next_52_specU hL hp R1 e31 (fun h2 f2 T2 => HQ h2 (frm_tr f1 f2 (fun _ z => z) (fun _ z => z)) T2))⟩

def cdCU (b : Nat → Int32) (t : Nat) (o : List Int32) (h : AH) : Prop := rR TU h 25 2 = 33 + 3 * t + 1 ∧ h.1 (33 + 3 * t) 2 = nI o.length ∧ ∀ j, j < o.length → h.1 (34 + 3 * t) (nI j) = mapC (o.getD j 0)
def CSU (b : Nat → Int32) (L t p : Nat) (o : List Int32) (h : AH) : Prop := TSU b L p h ∧ cdCU b t o h
section CLSU
variable {b : Nat → Int32} {L t : Nat}
theorem cdC_f25U {o : List Int32} {h h' : AH} (C : cdCU b t o h) (f : frm [25] h h') : cdCU b t o h' :=
  ⟨by rw [rR_2U f.1]; exact C.1, by rw [f.2 (33 + 3 * t) (by simp; omega)]; exact C.2.1, by rw [f.2 (34 + 3 * t) (by simp; omega)]; exact C.2.2⟩
theorem CS_nextU {o : List Int32} {p : Nat} {h h0 : AH} {Q : AH → Prop} (hL : L ≤ 160) (hp : p ≤ L) (C : CSU b L t p o h) (f : frm (SCl t) h0 h) (HQ : ∀ h', CSU b L t (tkE b L p) o h' → frm (SCl t) h0 h' → Q h') : p_Reader_nextU Q h :=
  Reader_next_specU hL (tkE_in hp).2.1 C.1.1 C.1.2.1 (fun h' g T' => HQ h' ⟨T', cdC_f25U C.2 g⟩ (frm_25 f g))
theorem CS_lawU {o : List Int32} {p : Nat} {h : AH} (ht : t < 6) (C : CSU b L t p o h) : 0 < rR TU h 25 2 ∧ vA TU h (rR TU h 25 2 - 1) ∧ (rS TU h (rR TU h 25 2 - 1)).1 = 6 := by
  obtain ⟨l1, l2, l3, l4, l5, l6, l7, l8⟩ := lawTU ht h
  rw [C.2.1, Nat.add_sub_cancel]
  exact ⟨Nat.succ_pos _, l1, l2⟩
theorem RB_fU {h h' : AH} (ht : t < 6) (R : RBU b L h) (f : frm [33 + 3 * t, 34 + 3 * t] h h') : RBU b L h' :=
  ⟨by rw [f.2 25 (by simp; omega)]; exact R.1, by rw [rR_2U f.1]; exact R.2.1, by rw [f.2 4 (by simp; omega)]; exact R.2.2⟩
theorem CS_addU {o : List Int32} {p : Nat} {x c : Int32} {h h0 : AH} {Q : AH → Prop} (ht : t < 6) (C : CSU b L t p o h) (hb : o.length < 160) (hc : mapC c = x) (f : frm (SCl t) h0 h) (HQ : ∀ h', CSU b L t p (o ++ [c]) h' → frm (SCl t) h0 h' → Q h') : p_Law_addU Q (rR TU h 25 2 - 1) x h := by
  obtain ⟨l1, l2, l3, l4, l5, l6, l7, l8⟩ := lawTU ht h
  obtain ⟨T, c1, c2, c3⟩ := C
  rw [c1, Nat.add_sub_cancel]
  refine ⟨l1, l2, ?_⟩
  rw [c2, l3, Nat.add_sub_cancel, l6]
  refine (pT ((nI_ltI (b := 160) (by omega) (by omega)).mpr hb)).mpr ⟨Nat.succ_pos _, l5, rfl, inb_nI (n := 160) hb (by omega), ?_⟩
  have e2 : (wI h (34 + 3 * t) (nI o.length) x).1 (33 + 3 * t) 2 = nI o.length := by rw [wI_r, if_neg (by omega)]; exact c2
  rw [e2, nI_1]
  have g : frm [33 + 3 * t, 34 + 3 * t] h (wI (wI h (34 + 3 * t) (nI o.length) x) (33 + 3 * t) 2 (nI (o.length + 1))) := frm_w (frm_w frm_rf (by simp)) (by simp)
  refine HQ _ ⟨⟨RB_fU ht T.1 g, ?_, ?_, ?_, ?_⟩, ?_, ?_, fun j hj => ?_⟩ (frm_tr f g (fun _ z => z) (fun y z => by simp only [SCl, List.mem_cons, List.not_mem_nil, or_false] at z ⊢; omega))
  · rw [g.2 25 (by simp; omega)]; exact T.2.1
  · rw [g.2 25 (by simp; omega)]; exact T.2.2.1
  · rw [g.2 25 (by simp; omega)]; exact T.2.2.2.1
  · rw [g.2 25 (by simp; omega)]; exact T.2.2.2.2
  · exact c1
  · rw [wI_r, if_pos rfl, up_s]; simp
  · have hj' : j < o.length + 1 := by simpa using hj
    rw [wI_r, if_neg (show ¬ 34 + 3 * t = 33 + 3 * t by omega), wI_r, if_pos rfl, up_a]
    by_cases e : j = o.length
    · subst e
      rw [if_pos rfl, List.getD_eq_getElem?_getD, List.getElem?_append_right (Nat.le_refl _), Nat.sub_self, ← hc]; rfl
    · rw [if_neg (fun z => e ((nI_inj (by omega) (by omega)).mp z)), c3 j (by omega), List.getD_eq_getElem?_getD, List.getD_eq_getElem?_getD, List.getElem?_append_left (by omega)]
theorem CS_tokU {o : List Int32} {p : Nat} {h : AH} (C : CSU b L t p o h) : h.1 25 5 = tkK b L p ∧ h.1 25 4 = nI (tkS b L p) := ⟨C.1.2.2.2.1, C.1.2.2.1⟩
end CLSU
def PRdU : Nat → Nat → (Int32 → AH → Prop) → Int32 → AH → Prop
  | 0, _ => fun _ _ _ => False
  | k + 1, 0 => fun Q => p_Reader_eitherU Q (PRdU k 1)
  | k + 1, 1 => fun Q => p_Reader_bothU Q (PRdU k 2)
  | k + 1, 2 => fun Q => p_Reader_unlessU Q (PRdU k 3) (PRdU k 2)
  | k + 1, 3 => fun Q => p_Reader_comparedU Q (PRdU k 4)
  | k + 1, 4 => fun Q => p_Reader_sumU Q (PRdU k 5)
  | k + 1, 5 => fun Q => p_Reader_termU Q (PRdU k 6)
  | k + 1, _ + 6 => fun Q => p_Reader_oneU Q (PRdU k 0) (PRdU k 6)
theorem ok_PRdU {G : GG} {d : Nat} : ∀ (k : Nat), (∀ Q x1 h, PRdU k 0 Q x1 h → WP G TU m_Reader_either (d + 8 + k) [.ref 25, .int x1] h 0 0 (iQ Q)) ∧ (∀ Q x1 h, PRdU k 1 Q x1 h → WP G TU m_Reader_both (d + 8 + k) [.ref 25, .int x1] h 0 0 (iQ Q)) ∧ (∀ Q x1 h, PRdU k 2 Q x1 h → WP G TU m_Reader_unless (d + 8 + k) [.ref 25, .int x1] h 0 0 (iQ Q)) ∧ (∀ Q x1 h, PRdU k 3 Q x1 h → WP G TU m_Reader_compared (d + 8 + k) [.ref 25, .int x1] h 0 0 (iQ Q)) ∧ (∀ Q x1 h, PRdU k 4 Q x1 h → WP G TU m_Reader_sum (d + 8 + k) [.ref 25, .int x1] h 0 0 (iQ Q)) ∧ (∀ Q x1 h, PRdU k 5 Q x1 h → WP G TU m_Reader_term (d + 8 + k) [.ref 25, .int x1] h 0 0 (iQ Q)) ∧ (∀ Q x1 h, PRdU k 6 Q x1 h → WP G TU m_Reader_one (d + 8 + k) [.ref 25, .int x1] h 0 0 (iQ Q)) := by
  intro k
  induction k with
  | zero => exact ⟨fun _ _ _ z => z.elim, fun _ _ _ z => z.elim, fun _ _ _ z => z.elim, fun _ _ _ z => z.elim, fun _ _ _ z => z.elim, fun _ _ _ z => z.elim, fun _ _ _ z => z.elim⟩
  | succ k ih =>
    obtain ⟨i0, i1, i2, i3, i4, i5, i6⟩ := ih
    have e1 : d + 8 + (k + 1) = (d + 1 + k) + 8 := by omega
    have e2 : d + 8 + k = (d + 1 + k) + 7 := by omega
    have e3 : d + 8 + (k + 1) = (d + k) + 9 := by omega
    have e4 : d + 8 + k = (d + k) + 8 := by omega
    refine ⟨fun Q x1 h z => ?_, fun Q x1 h z => ?_, fun Q x1 h z => ?_, fun Q x1 h z => ?_, fun Q x1 h z => ?_, fun Q x1 h z => ?_, fun Q x1 h z => ?_⟩
    · rw [e1]; rw [e2] at i1; exact ok_Reader_eitherU i1 z
    · rw [e1]; rw [e2] at i2; exact ok_Reader_bothU i2 z
    · rw [e1]; rw [e2] at i2 i3; exact ok_Reader_unlessU i3 i2 z
    · rw [e1]; rw [e2] at i4; exact ok_Reader_comparedU i4 z
    · rw [e1]; rw [e2] at i5; exact ok_Reader_sumU i5 z
    · rw [e1]; rw [e2] at i6; exact ok_Reader_termU i6 z
    · rw [e3]; rw [e4] at i0 i6; exact ok_Reader_oneU i0 i6 z

section READU
variable {b : Nat → Int32} {L t : Nat}
theorem CS_w35U {p : Nat} {o : List Int32} {h : AH} {k x : Int32} (ht : t < 6) (C : CSU b L t p o h) : CSU b L t p o (wI h (35 + 3 * t) k x) := by
  have g : ∀ c, ¬ c = 35 + 3 * t → (wI h (35 + 3 * t) k x).1 c = h.1 c := fun c hc => by rw [wI_r, if_neg hc]
  obtain ⟨⟨T1', T2, T3, T4, T5⟩, c1, c2, c3⟩ := C
  refine ⟨⟨⟨?_, T1'.2.1, ?_⟩, ?_, ?_, ?_, ?_⟩, c1, ?_, ?_⟩
  · rw [g 25 (by omega)]; exact T1'.1
  · rw [g 4 (by omega)]; exact T1'.2.2
  · rw [g 25 (by omega)]; exact T2
  · rw [g 25 (by omega)]; exact T3
  · rw [g 25 (by omega)]; exact T4
  · rw [g 25 (by omega)]; exact T5
  · rw [g (33 + 3 * t) (by omega)]; exact c2
  · rw [g (34 + 3 * t) (by omega)]; exact c3
theorem CS_fromU {o : List Int32} {p : Nat} {h : AH} (ht : t < 6) (C : CSU b L t p o h) : 0 < rR TU h (rR TU h 25 2 - 1) 1 ∧ vA TU h (rR TU h (rR TU h 25 2 - 1) 1 - 1) ∧ (rS TU h (rR TU h (rR TU h 25 2 - 1) 1 - 1)).1 = 100 ∧ (rS TU h (rR TU h (rR TU h 25 2 - 1) 1 - 1)).2 = 4 ∧ rR TU h (rR TU h 25 2 - 1) 1 - 1 = 35 + 3 * t ∧ h.1 (rR TU h 25 2 - 1) 2 = nI o.length := by
  obtain ⟨l1, l2, l3, l4, l5, l6, l7, l8⟩ := lawTU ht h
  rw [C.2.1, Nat.add_sub_cancel, l4, Nat.add_sub_cancel, l8]
  exact ⟨Nat.succ_pos _, l7, rfl, rfl, rfl, C.2.2.1⟩
end READU
