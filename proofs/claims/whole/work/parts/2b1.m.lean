theorem d_Reader_sum_0 : decode prog_9_method_8_code 0 = .ok (.aload_n 0, 1) := by decide +kernel
theorem d_Reader_sum_1 : decode prog_9_method_8_code 1 = .ok (.iload_n 1, 1) := by decide +kernel
theorem d_Reader_sum_2 : decode prog_9_method_8_code 2 = .ok (.invokevirtual 72, 3) := by decide +kernel
theorem d_Reader_sum_5 : decode prog_9_method_8_code 5 = .ok (.ifCond .ne 5, 3) := by decide +kernel
theorem d_Reader_sum_8 : decode prog_9_method_8_code 8 = .ok (.iconst 0, 1) := by decide +kernel
theorem d_Reader_sum_9 : decode prog_9_method_8_code 9 = .ok (.ireturn, 1) := by decide +kernel
theorem d_Reader_sum_10 : decode prog_9_method_8_code 10 = .ok (.iconst 0, 1) := by decide +kernel
theorem d_Reader_sum_11 : decode prog_9_method_8_code 11 = .ok (.istore_n 2, 1) := by decide +kernel
theorem d_Reader_sum_12 : decode prog_9_method_8_code 12 = .ok (.iload_n 2, 1) := by decide +kernel
theorem d_Reader_sum_13 : decode prog_9_method_8_code 13 = .ok (.sipush 160, 3) := by decide +kernel
theorem d_Reader_sum_16 : decode prog_9_method_8_code 16 = .ok (.if_icmp .ge 66, 3) := by decide +kernel
theorem d_Reader_sum_19 : decode prog_9_method_8_code 19 = .ok (.aload_n 0, 1) := by decide +kernel
theorem d_Reader_sum_20 : decode prog_9_method_8_code 20 = .ok (.getfield 53, 3) := by decide +kernel
theorem d_Reader_sum_23 : decode prog_9_method_8_code 23 = .ok (.bipush 43, 2) := by decide +kernel
theorem d_Reader_sum_25 : decode prog_9_method_8_code 25 = .ok (.if_icmp .eq 12, 3) := by decide +kernel
theorem d_Reader_sum_28 : decode prog_9_method_8_code 28 = .ok (.aload_n 0, 1) := by decide +kernel
theorem d_Reader_sum_29 : decode prog_9_method_8_code 29 = .ok (.getfield 53, 3) := by decide +kernel
theorem d_Reader_sum_32 : decode prog_9_method_8_code 32 = .ok (.bipush 45, 2) := by decide +kernel
theorem d_Reader_sum_34 : decode prog_9_method_8_code 34 = .ok (.if_icmp .ne 48, 3) := by decide +kernel
theorem d_Reader_sum_37 : decode prog_9_method_8_code 37 = .ok (.aload_n 0, 1) := by decide +kernel
theorem d_Reader_sum_38 : decode prog_9_method_8_code 38 = .ok (.getfield 53, 3) := by decide +kernel
theorem d_Reader_sum_41 : decode prog_9_method_8_code 41 = .ok (.istore_n 3, 1) := by decide +kernel
theorem d_Reader_sum_42 : decode prog_9_method_8_code 42 = .ok (.aload_n 0, 1) := by decide +kernel
theorem d_Reader_sum_43 : decode prog_9_method_8_code 43 = .ok (.invokevirtual 37, 3) := by decide +kernel
theorem d_Reader_sum_46 : decode prog_9_method_8_code 46 = .ok (.aload_n 0, 1) := by decide +kernel
theorem d_Reader_sum_47 : decode prog_9_method_8_code 47 = .ok (.iload_n 1, 1) := by decide +kernel
theorem d_Reader_sum_48 : decode prog_9_method_8_code 48 = .ok (.invokevirtual 72, 3) := by decide +kernel
theorem d_Reader_sum_51 : decode prog_9_method_8_code 51 = .ok (.ifCond .ne 5, 3) := by decide +kernel
theorem d_Reader_sum_54 : decode prog_9_method_8_code 54 = .ok (.iconst 0, 1) := by decide +kernel
theorem d_Reader_sum_55 : decode prog_9_method_8_code 55 = .ok (.ireturn, 1) := by decide +kernel
theorem d_Reader_sum_56 : decode prog_9_method_8_code 56 = .ok (.aload_n 0, 1) := by decide +kernel
theorem d_Reader_sum_57 : decode prog_9_method_8_code 57 = .ok (.getfield 25, 3) := by decide +kernel
theorem d_Reader_sum_60 : decode prog_9_method_8_code 60 = .ok (.iload_n 3, 1) := by decide +kernel
theorem d_Reader_sum_61 : decode prog_9_method_8_code 61 = .ok (.bipush 43, 2) := by decide +kernel
theorem d_Reader_sum_63 : decode prog_9_method_8_code 63 = .ok (.if_icmp .ne 8, 3) := by decide +kernel
theorem d_Reader_sum_66 : decode prog_9_method_8_code 66 = .ok (.bipush (-24), 2) := by decide +kernel
theorem d_Reader_sum_68 : decode prog_9_method_8_code 68 = .ok (.goto 5, 3) := by decide +kernel
theorem d_Reader_sum_71 : decode prog_9_method_8_code 71 = .ok (.bipush (-25), 2) := by decide +kernel
theorem d_Reader_sum_73 : decode prog_9_method_8_code 73 = .ok (.invokevirtual 59, 3) := by decide +kernel
theorem d_Reader_sum_76 : decode prog_9_method_8_code 76 = .ok (.iinc 2 1, 3) := by decide +kernel
theorem d_Reader_sum_79 : decode prog_9_method_8_code 79 = .ok (.goto (-67), 3) := by decide +kernel
theorem d_Reader_sum_82 : decode prog_9_method_8_code 82 = .ok (.iconst 1, 1) := by decide +kernel
theorem d_Reader_sum_83 : decode prog_9_method_8_code 83 = .ok (.ireturn, 1) := by decide +kernel
def p_Reader_sum_73 (Q : Int32 → AH → Prop) (P_Reader_term : (Int32 → AH → Prop) → Int32 → AH → Prop) (K12 : Int32 → Int32 → AH → Prop) (x1 : Int32) (x2 : Int32) (s0 : Nat) (s1 : Int32) (h : AH) : Prop := vA T1 h s0 ∧ (rS T1 h s0).1 = 6 ∧ p_Law_add (fun h3 => K12 x1 (x2 + 1) h3) s0 s1 h
def p_Reader_sum_37 (Q : Int32 → AH → Prop) (P_Reader_term : (Int32 → AH → Prop) → Int32 → AH → Prop) (K12 : Int32 → Int32 → AH → Prop) (x1 : Int32) (x2 : Int32) (h : AH) : Prop := p_Reader_next (fun h1 => P_Reader_term (fun r3 h2 => ((¬ r3 = 0 → 0 < rR T1 h2 25 2 ∧ ((¬ (h.1 25 5) = 43 → p_Reader_sum_73 Q P_Reader_term K12 x1 x2 (rR T1 h2 25 2 - 1) (-25) h2) ∧ ((h.1 25 5) = 43 → p_Reader_sum_73 Q P_Reader_term K12 x1 x2 (rR T1 h2 25 2 - 1) (-24) h2))) ∧ (r3 = 0 → Q 0 h2))) x1 h1) h
def p_Reader_sum_12 (Q : Int32 → AH → Prop) (P_Reader_term : (Int32 → AH → Prop) → Int32 → AH → Prop) : Nat → Int32 → Int32 → AH → Prop
  | 0 => fun _ _ _ => False
  | n + 1 => fun x1 x2 h => let K12 := p_Reader_sum_12 Q P_Reader_term n; ((160 ≤ x2 → Q 1 h) ∧ (¬ 160 ≤ x2 → (((h.1 25 5) = 43 → p_Reader_sum_37 Q P_Reader_term K12 x1 x2 h) ∧ (¬ (h.1 25 5) = 43 → ((¬ (h.1 25 5) = 45 → Q 1 h) ∧ ((h.1 25 5) = 45 → p_Reader_sum_37 Q P_Reader_term K12 x1 x2 h))))))
def p_Reader_sum (Q : Int32 → AH → Prop) (P_Reader_term : (Int32 → AH → Prop) → Int32 → AH → Prop) (x1 : Int32) (h : AH) : Prop := P_Reader_term (fun r2 h1 => ((¬ r2 = 0 → ∃ n, p_Reader_sum_12 Q P_Reader_term  n x1 0 h1) ∧ (r2 = 0 → Q 0 h1))) x1 h
set_option maxRecDepth 20000 in
theorem r_Reader_sum_73 {G : GG} {d : Nat} {Q : Int32 → AH → Prop} {P_Reader_term : (Int32 → AH → Prop) → Int32 → AH → Prop} (hP_Reader_term : ∀ Q x1 h, P_Reader_term Q x1 h → WP G T1 m_Reader_term (d + 7) [.ref 25, .int x1] h 0 0 (iQ Q)) {K12 : Int32 → Int32 → AH → Prop} (k12 : ∀ x1 x2 h, K12 x1 x2 h → Att G T1 m_Reader_sum (d + 8) 12 [some (.ref 25), some (.int x1), some (.int x2), none] [] h 0 0 (iQ Q)) (x1 : Int32) (x2 : Int32) (s0 : Nat) (s1 : Int32) (h : AH) (H : p_Reader_sum_73 Q P_Reader_term K12 x1 x2 s0 s1 h) : Att G T1 m_Reader_sum (d + 8) 73 [some (.ref 25), some (.int x1), some (.int x2), none] [.int s1, .ref s0] h 0 0 (iQ Q) := by
  obtain ⟨c1, H⟩ := H
  obtain ⟨c2, H⟩ := H
  refine A_cV [.ref s0, .int s1] [] (ct_Reader_59 rfl) d_Reader_sum_73 rfl rfl (by decide) (Nat.le_of_ble_eq_true rfl) (rcA_o (c := 6) rfl c1 c2 (by decide) rfl) (ok_Law_add (d := d + 7) H) (fun h3 H => ?_)
  refine A_iinc 1 [some (.ref 25), some (.int x1), some (.int (x2 + 1)), none] d_Reader_sum_76 rfl (by decide) (by decide) rfl rfl ?_
  refine A_goto 12 d_Reader_sum_79 (by decide) ?_
  exact k12 _ _ _ H
set_option maxRecDepth 20000 in
theorem r_Reader_sum_37 {G : GG} {d : Nat} {Q : Int32 → AH → Prop} {P_Reader_term : (Int32 → AH → Prop) → Int32 → AH → Prop} (hP_Reader_term : ∀ Q x1 h, P_Reader_term Q x1 h → WP G T1 m_Reader_term (d + 7) [.ref 25, .int x1] h 0 0 (iQ Q)) {K12 : Int32 → Int32 → AH → Prop} (k12 : ∀ x1 x2 h, K12 x1 x2 h → Att G T1 m_Reader_sum (d + 8) 12 [some (.ref 25), some (.int x1), some (.int x2), none] [] h 0 0 (iQ Q)) (x1 : Int32) (x2 : Int32) (h : AH) (H : p_Reader_sum_37 Q P_Reader_term K12 x1 x2 h) : Att G T1 m_Reader_sum (d + 8) 37 [some (.ref 25), some (.int x1), some (.int x2), none] [] h 0 0 (iQ Q) := by
  refine A_aload_n d_Reader_sum_37 rfl ?_
  refine A_get (v := .int (h.1 25 5)) d_Reader_sum_38 (fo_Reader_53_7 rfl) (vA_s (by decide)) rfl rfl ?_
  refine A_istore_n [some (.ref 25), some (.int x1), some (.int x2), some (.int (h.1 25 5))] d_Reader_sum_41 (by decide) rfl rfl ?_
  refine A_aload_n d_Reader_sum_42 rfl ?_
  refine A_cV [.ref 25] [] (ct_Reader_37 rfl) d_Reader_sum_43 rfl rfl (by decide) (Nat.le_of_ble_eq_true rfl) (rcA_o (c := 7) rfl (vA_s (by decide)) rfl (by decide) rfl) (ok_Reader_next (d := d) H) (fun h1 H => ?_)
  refine A_aload_n d_Reader_sum_46 rfl ?_
  refine A_iload_n d_Reader_sum_47 rfl ?_
  refine A_cI [.ref 25, .int x1] [] (ct_Reader_72 rfl) d_Reader_sum_48 rfl rfl (by decide) (Nat.le_of_ble_eq_true rfl) (rcA_o (c := 7) rfl (vA_s (by decide)) rfl (by decide) rfl) (hP_Reader_term _ _ _ H) (fun r3 h2 H => ?_)
  refine A_if_ne 56 d_Reader_sum_51 (by decide) (fun z => ?_) (fun z => ?_)
  · have H := H.1 z
    refine A_aload_n d_Reader_sum_56 rfl ?_
    obtain ⟨c4, H⟩ := H
    refine A_get (v := .ref (rR T1 h2 25 2 - 1)) d_Reader_sum_57 (fo_Reader_25_7 rfl) (vA_s (by decide)) rfl (vR_pos c4) ?_
    refine A_iload_n d_Reader_sum_60 rfl ?_
    refine A_bipush 43 (by decide) d_Reader_sum_61 ?_
    refine A_icmp_ne 71 d_Reader_sum_63 (by decide) (fun z => ?_) (fun z => ?_)
    · have H := H.1 z
      refine A_bipush (-25) (by decide) d_Reader_sum_71 ?_
      refine A_sub (L' := [some (.ref 25), some (.int x1), some (.int x2), none]) ⟨rfl, rfl, rfl, trivial⟩ ?_
      exact r_Reader_sum_73 hP_Reader_term k12 _ _ _ _ _ H
    · have H := H.2 z
      refine A_bipush (-24) (by decide) d_Reader_sum_66 ?_
      refine A_goto 73 d_Reader_sum_68 (by decide) ?_
      refine A_sub (L' := [some (.ref 25), some (.int x1), some (.int x2), none]) ⟨rfl, rfl, rfl, trivial⟩ ?_
      exact r_Reader_sum_73 hP_Reader_term k12 _ _ _ _ _ H
  · have H := H.2 z
    refine A_iconst 0 (by decide) d_Reader_sum_54 ?_
    exact A_iret d_Reader_sum_55 rfl rfl H
set_option maxRecDepth 20000 in
theorem r_Reader_sum_12 {G : GG} {d : Nat} {Q : Int32 → AH → Prop} {P_Reader_term : (Int32 → AH → Prop) → Int32 → AH → Prop} (hP_Reader_term : ∀ Q x1 h, P_Reader_term Q x1 h → WP G T1 m_Reader_term (d + 7) [.ref 25, .int x1] h 0 0 (iQ Q)) : ∀ (n : Nat) (x1 : Int32) (x2 : Int32) (h : AH), p_Reader_sum_12 Q P_Reader_term n x1 x2 h → Att G T1 m_Reader_sum (d + 8) 12 [some (.ref 25), some (.int x1), some (.int x2), none] [] h 0 0 (iQ Q) := by
  intro n
  induction n with
  | zero => intro x1 x2 h H; exact H.elim
  | succ n k12 =>
    intro x1 x2 h H
    refine A_iload_n d_Reader_sum_12 rfl ?_
    refine A_sipush 160 (by decide) d_Reader_sum_13 ?_
    refine A_icmp_ge 82 d_Reader_sum_16 (by decide) (fun z => ?_) (fun z => ?_)
    · have H := H.1 z
      refine A_iconst 1 (by decide) d_Reader_sum_82 ?_
      exact A_iret d_Reader_sum_83 rfl rfl H
    · have H := H.2 z
      refine A_aload_n d_Reader_sum_19 rfl ?_
      refine A_get (v := .int (h.1 25 5)) d_Reader_sum_20 (fo_Reader_53_7 rfl) (vA_s (by decide)) rfl rfl ?_
      refine A_bipush 43 (by decide) d_Reader_sum_23 ?_
      refine A_icmp_eq 37 d_Reader_sum_25 (by decide) (fun z => ?_) (fun z => ?_)
      · have H := H.1 z
        exact r_Reader_sum_37 hP_Reader_term k12 _ _ _ H
      · have H := H.2 z
        refine A_aload_n d_Reader_sum_28 rfl ?_
        refine A_get (v := .int (h.1 25 5)) d_Reader_sum_29 (fo_Reader_53_7 rfl) (vA_s (by decide)) rfl rfl ?_
        refine A_bipush 45 (by decide) d_Reader_sum_32 ?_
        refine A_icmp_ne 82 d_Reader_sum_34 (by decide) (fun z => ?_) (fun z => ?_)
        · have H := H.1 z
          refine A_iconst 1 (by decide) d_Reader_sum_82 ?_
          exact A_iret d_Reader_sum_83 rfl rfl H
        · have H := H.2 z
          exact r_Reader_sum_37 hP_Reader_term k12 _ _ _ H
set_option maxRecDepth 20000 in
theorem r_Reader_sum_0 {G : GG} {d : Nat} {Q : Int32 → AH → Prop} {P_Reader_term : (Int32 → AH → Prop) → Int32 → AH → Prop} (hP_Reader_term : ∀ Q x1 h, P_Reader_term Q x1 h → WP G T1 m_Reader_term (d + 7) [.ref 25, .int x1] h 0 0 (iQ Q)) (x1 : Int32) (h : AH) (H : p_Reader_sum Q P_Reader_term x1 h) : Att G T1 m_Reader_sum (d + 8) 0 [some (.ref 25), some (.int x1), none, none] [] h 0 0 (iQ Q) := by
  refine A_aload_n d_Reader_sum_0 rfl ?_
  refine A_iload_n d_Reader_sum_1 rfl ?_
  refine A_cI [.ref 25, .int x1] [] (ct_Reader_72 rfl) d_Reader_sum_2 rfl rfl (by decide) (Nat.le_of_ble_eq_true rfl) (rcA_o (c := 7) rfl (vA_s (by decide)) rfl (by decide) rfl) (hP_Reader_term _ _ _ H) (fun r2 h1 H => ?_)
  refine A_if_ne 10 d_Reader_sum_5 (by decide) (fun z => ?_) (fun z => ?_)
  · have H := H.1 z
    refine A_iconst 0 (by decide) d_Reader_sum_10 ?_
    refine A_istore_n [some (.ref 25), some (.int x1), some (.int 0), none] d_Reader_sum_11 (by decide) rfl rfl ?_
    obtain ⟨n9, H⟩ := H
    exact r_Reader_sum_12 hP_Reader_term  n9 _ _ _ H
  · have H := H.2 z
    refine A_iconst 0 (by decide) d_Reader_sum_8 ?_
    exact A_iret d_Reader_sum_9 rfl rfl H
set_option maxRecDepth 20000 in
theorem ok_Reader_sum {G : GG} {d : Nat} {Q : Int32 → AH → Prop} {P_Reader_term : (Int32 → AH → Prop) → Int32 → AH → Prop} (hP_Reader_term : ∀ Q x1 h, P_Reader_term Q x1 h → WP G T1 m_Reader_term (d + 7) [.ref 25, .int x1] h 0 0 (iQ Q)) {x1 : Int32} {h : AH} (H : p_Reader_sum Q P_Reader_term x1 h) : WP G T1 m_Reader_sum (d + 8) [.ref 25, .int x1] h 0 0 (iQ Q) := by
  exact WP.enter 2 (by decide) rfl rfl (r_Reader_sum_0 hP_Reader_term x1 h H)
theorem d_Reader_term_0 : decode prog_9_method_9_code 0 = .ok (.aload_n 0, 1) := by decide +kernel
theorem d_Reader_term_1 : decode prog_9_method_9_code 1 = .ok (.iload_n 1, 1) := by decide +kernel
theorem d_Reader_term_2 : decode prog_9_method_9_code 2 = .ok (.invokevirtual 75, 3) := by decide +kernel
theorem d_Reader_term_5 : decode prog_9_method_9_code 5 = .ok (.ifCond .ne 5, 3) := by decide +kernel
theorem d_Reader_term_8 : decode prog_9_method_9_code 8 = .ok (.iconst 0, 1) := by decide +kernel
theorem d_Reader_term_9 : decode prog_9_method_9_code 9 = .ok (.ireturn, 1) := by decide +kernel
theorem d_Reader_term_10 : decode prog_9_method_9_code 10 = .ok (.iconst 0, 1) := by decide +kernel
theorem d_Reader_term_11 : decode prog_9_method_9_code 11 = .ok (.istore_n 2, 1) := by decide +kernel
theorem d_Reader_term_12 : decode prog_9_method_9_code 12 = .ok (.iload_n 2, 1) := by decide +kernel
theorem d_Reader_term_13 : decode prog_9_method_9_code 13 = .ok (.sipush 160, 3) := by decide +kernel
theorem d_Reader_term_16 : decode prog_9_method_9_code 16 = .ok (.if_icmp .ge 41, 3) := by decide +kernel
theorem d_Reader_term_19 : decode prog_9_method_9_code 19 = .ok (.aload_n 0, 1) := by decide +kernel
theorem d_Reader_term_20 : decode prog_9_method_9_code 20 = .ok (.getfield 53, 3) := by decide +kernel
theorem d_Reader_term_23 : decode prog_9_method_9_code 23 = .ok (.bipush 42, 2) := by decide +kernel
theorem d_Reader_term_25 : decode prog_9_method_9_code 25 = .ok (.if_icmp .ne 32, 3) := by decide +kernel
theorem d_Reader_term_28 : decode prog_9_method_9_code 28 = .ok (.aload_n 0, 1) := by decide +kernel
theorem d_Reader_term_29 : decode prog_9_method_9_code 29 = .ok (.invokevirtual 37, 3) := by decide +kernel
theorem d_Reader_term_32 : decode prog_9_method_9_code 32 = .ok (.aload_n 0, 1) := by decide +kernel
theorem d_Reader_term_33 : decode prog_9_method_9_code 33 = .ok (.iload_n 1, 1) := by decide +kernel
theorem d_Reader_term_34 : decode prog_9_method_9_code 34 = .ok (.invokevirtual 75, 3) := by decide +kernel
theorem d_Reader_term_37 : decode prog_9_method_9_code 37 = .ok (.ifCond .ne 5, 3) := by decide +kernel
theorem d_Reader_term_40 : decode prog_9_method_9_code 40 = .ok (.iconst 0, 1) := by decide +kernel
theorem d_Reader_term_41 : decode prog_9_method_9_code 41 = .ok (.ireturn, 1) := by decide +kernel
theorem d_Reader_term_42 : decode prog_9_method_9_code 42 = .ok (.aload_n 0, 1) := by decide +kernel
theorem d_Reader_term_43 : decode prog_9_method_9_code 43 = .ok (.getfield 25, 3) := by decide +kernel
theorem d_Reader_term_46 : decode prog_9_method_9_code 46 = .ok (.bipush (-26), 2) := by decide +kernel
theorem d_Reader_term_48 : decode prog_9_method_9_code 48 = .ok (.invokevirtual 59, 3) := by decide +kernel
theorem d_Reader_term_51 : decode prog_9_method_9_code 51 = .ok (.iinc 2 1, 3) := by decide +kernel
theorem d_Reader_term_54 : decode prog_9_method_9_code 54 = .ok (.goto (-42), 3) := by decide +kernel
theorem d_Reader_term_57 : decode prog_9_method_9_code 57 = .ok (.iconst 1, 1) := by decide +kernel
theorem d_Reader_term_58 : decode prog_9_method_9_code 58 = .ok (.ireturn, 1) := by decide +kernel
def p_Reader_term_12 (Q : Int32 → AH → Prop) (P_Reader_one : (Int32 → AH → Prop) → Int32 → AH → Prop) : Nat → Int32 → Int32 → AH → Prop
  | 0 => fun _ _ _ => False
  | n + 1 => fun x1 x2 h => let K12 := p_Reader_term_12 Q P_Reader_one n; ((160 ≤ x2 → Q 1 h) ∧ (¬ 160 ≤ x2 → ((¬ (h.1 25 5) = 42 → Q 1 h) ∧ ((h.1 25 5) = 42 → p_Reader_next (fun h1 => P_Reader_one (fun r3 h2 => ((¬ r3 = 0 → 0 < rR T1 h2 25 2 ∧ vA T1 h2 (rR T1 h2 25 2 - 1) ∧ (rS T1 h2 (rR T1 h2 25 2 - 1)).1 = 6 ∧ p_Law_add (fun h7 => K12 x1 (x2 + 1) h7) (rR T1 h2 25 2 - 1) (-26) h2) ∧ (r3 = 0 → Q 0 h2))) x1 h1) h))))
def p_Reader_term (Q : Int32 → AH → Prop) (P_Reader_one : (Int32 → AH → Prop) → Int32 → AH → Prop) (x1 : Int32) (h : AH) : Prop := P_Reader_one (fun r2 h1 => ((¬ r2 = 0 → ∃ n, p_Reader_term_12 Q P_Reader_one  n x1 0 h1) ∧ (r2 = 0 → Q 0 h1))) x1 h
set_option maxRecDepth 20000 in
theorem r_Reader_term_12 {G : GG} {d : Nat} {Q : Int32 → AH → Prop} {P_Reader_one : (Int32 → AH → Prop) → Int32 → AH → Prop} (hP_Reader_one : ∀ Q x1 h, P_Reader_one Q x1 h → WP G T1 m_Reader_one (d + 7) [.ref 25, .int x1] h 0 0 (iQ Q)) : ∀ (n : Nat) (x1 : Int32) (x2 : Int32) (h : AH), p_Reader_term_12 Q P_Reader_one n x1 x2 h → Att G T1 m_Reader_term (d + 8) 12 [some (.ref 25), some (.int x1), some (.int x2)] [] h 0 0 (iQ Q) := by
  intro n
  induction n with
  | zero => intro x1 x2 h H; exact H.elim
  | succ n k12 =>
    intro x1 x2 h H
    refine A_iload_n d_Reader_term_12 rfl ?_
    refine A_sipush 160 (by decide) d_Reader_term_13 ?_
    refine A_icmp_ge 57 d_Reader_term_16 (by decide) (fun z => ?_) (fun z => ?_)
    · have H := H.1 z
      refine A_iconst 1 (by decide) d_Reader_term_57 ?_
      exact A_iret d_Reader_term_58 rfl rfl H
    · have H := H.2 z
      refine A_aload_n d_Reader_term_19 rfl ?_
      refine A_get (v := .int (h.1 25 5)) d_Reader_term_20 (fo_Reader_53_7 rfl) (vA_s (by decide)) rfl rfl ?_
      refine A_bipush 42 (by decide) d_Reader_term_23 ?_
      refine A_icmp_ne 57 d_Reader_term_25 (by decide) (fun z => ?_) (fun z => ?_)
      · have H := H.1 z
        refine A_iconst 1 (by decide) d_Reader_term_57 ?_
        exact A_iret d_Reader_term_58 rfl rfl H
      · have H := H.2 z
        refine A_aload_n d_Reader_term_28 rfl ?_
        refine A_cV [.ref 25] [] (ct_Reader_37 rfl) d_Reader_term_29 rfl rfl (by decide) (Nat.le_of_ble_eq_true rfl) (rcA_o (c := 7) rfl (vA_s (by decide)) rfl (by decide) rfl) (ok_Reader_next (d := d) H) (fun h1 H => ?_)
        refine A_aload_n d_Reader_term_32 rfl ?_
        refine A_iload_n d_Reader_term_33 rfl ?_
        refine A_cI [.ref 25, .int x1] [] (ct_Reader_75 rfl) d_Reader_term_34 rfl rfl (by decide) (Nat.le_of_ble_eq_true rfl) (rcA_o (c := 7) rfl (vA_s (by decide)) rfl (by decide) rfl) (hP_Reader_one _ _ _ H) (fun r3 h2 H => ?_)
        refine A_if_ne 42 d_Reader_term_37 (by decide) (fun z => ?_) (fun z => ?_)
        · have H := H.1 z
          refine A_aload_n d_Reader_term_42 rfl ?_
          obtain ⟨c4, H⟩ := H
          refine A_get (v := .ref (rR T1 h2 25 2 - 1)) d_Reader_term_43 (fo_Reader_25_7 rfl) (vA_s (by decide)) rfl (vR_pos c4) ?_
          refine A_bipush (-26) (by decide) d_Reader_term_46 ?_
          obtain ⟨c5, H⟩ := H
          obtain ⟨c6, H⟩ := H
          refine A_cV [.ref (rR T1 h2 25 2 - 1), .int (-26)] [] (ct_Reader_59 rfl) d_Reader_term_48 rfl rfl (by decide) (Nat.le_of_ble_eq_true rfl) (rcA_o (c := 6) rfl c5 c6 (by decide) rfl) (ok_Law_add (d := d + 7) H) (fun h7 H => ?_)
          refine A_iinc 1 [some (.ref 25), some (.int x1), some (.int (x2 + 1))] d_Reader_term_51 rfl (by decide) (by decide) rfl rfl ?_
          refine A_goto 12 d_Reader_term_54 (by decide) ?_
          exact k12 _ _ _ H
        · have H := H.2 z
          refine A_iconst 0 (by decide) d_Reader_term_40 ?_
          exact A_iret d_Reader_term_41 rfl rfl H
set_option maxRecDepth 20000 in
theorem r_Reader_term_0 {G : GG} {d : Nat} {Q : Int32 → AH → Prop} {P_Reader_one : (Int32 → AH → Prop) → Int32 → AH → Prop} (hP_Reader_one : ∀ Q x1 h, P_Reader_one Q x1 h → WP G T1 m_Reader_one (d + 7) [.ref 25, .int x1] h 0 0 (iQ Q)) (x1 : Int32) (h : AH) (H : p_Reader_term Q P_Reader_one x1 h) : Att G T1 m_Reader_term (d + 8) 0 [some (.ref 25), some (.int x1), none] [] h 0 0 (iQ Q) := by
  refine A_aload_n d_Reader_term_0 rfl ?_
  refine A_iload_n d_Reader_term_1 rfl ?_
  refine A_cI [.ref 25, .int x1] [] (ct_Reader_75 rfl) d_Reader_term_2 rfl rfl (by decide) (Nat.le_of_ble_eq_true rfl) (rcA_o (c := 7) rfl (vA_s (by decide)) rfl (by decide) rfl) (hP_Reader_one _ _ _ H) (fun r2 h1 H => ?_)
  refine A_if_ne 10 d_Reader_term_5 (by decide) (fun z => ?_) (fun z => ?_)
  · have H := H.1 z
    refine A_iconst 0 (by decide) d_Reader_term_10 ?_
    refine A_istore_n [some (.ref 25), some (.int x1), some (.int 0)] d_Reader_term_11 (by decide) rfl rfl ?_
    obtain ⟨n9, H⟩ := H
    exact r_Reader_term_12 hP_Reader_one  n9 _ _ _ H
  · have H := H.2 z
    refine A_iconst 0 (by decide) d_Reader_term_8 ?_
    exact A_iret d_Reader_term_9 rfl rfl H
set_option maxRecDepth 20000 in
theorem ok_Reader_term {G : GG} {d : Nat} {Q : Int32 → AH → Prop} {P_Reader_one : (Int32 → AH → Prop) → Int32 → AH → Prop} (hP_Reader_one : ∀ Q x1 h, P_Reader_one Q x1 h → WP G T1 m_Reader_one (d + 7) [.ref 25, .int x1] h 0 0 (iQ Q)) {x1 : Int32} {h : AH} (H : p_Reader_term Q P_Reader_one x1 h) : WP G T1 m_Reader_term (d + 8) [.ref 25, .int x1] h 0 0 (iQ Q) := by
  exact WP.enter 1 (by decide) rfl rfl (r_Reader_term_0 hP_Reader_one x1 h H)
theorem d_MO_of_0 : decode prog_14_method_45_code 0 = .ok (.iload_n 1, 1) := by decide +kernel
theorem d_MO_of_1 : decode prog_14_method_45_code 1 = .ok (.invokestatic 185, 3) := by decide +kernel
theorem d_MO_of_4 : decode prog_14_method_45_code 4 = .ok (.ifCond .eq 11, 3) := by decide +kernel
theorem d_MO_of_7 : decode prog_14_method_45_code 7 = .ok (.aload_n 0, 1) := by decide +kernel
theorem d_MO_of_8 : decode prog_14_method_45_code 8 = .ok (.iload_n 2, 1) := by decide +kernel
theorem d_MO_of_9 : decode prog_14_method_45_code 9 = .ok (.invokevirtual 182, 3) := by decide +kernel
theorem d_MO_of_12 : decode prog_14_method_45_code 12 = .ok (.ifCond .ne 6, 3) := by decide +kernel
theorem d_MO_of_15 : decode prog_14_method_45_code 15 = .ok (.bipush (-5), 2) := by decide +kernel
theorem d_MO_of_17 : decode prog_14_method_45_code 17 = .ok (.ireturn, 1) := by decide +kernel
theorem d_MO_of_18 : decode prog_14_method_45_code 18 = .ok (.iload_n 3, 1) := by decide +kernel
theorem d_MO_of_19 : decode prog_14_method_45_code 19 = .ok (.iconst 0, 1) := by decide +kernel
theorem d_MO_of_20 : decode prog_14_method_45_code 20 = .ok (.iconst 4, 1) := by decide +kernel
theorem d_MO_of_21 : decode prog_14_method_45_code 21 = .ok (.invokestatic 93, 3) := by decide +kernel
theorem d_MO_of_24 : decode prog_14_method_45_code 24 = .ok (.ifCond .ne 6, 3) := by decide +kernel
theorem d_MO_of_27 : decode prog_14_method_45_code 27 = .ok (.bipush (-7), 2) := by decide +kernel
theorem d_MO_of_29 : decode prog_14_method_45_code 29 = .ok (.ireturn, 1) := by decide +kernel
theorem d_MO_of_30 : decode prog_14_method_45_code 30 = .ok (.aload_n 0, 1) := by decide +kernel
theorem d_MO_of_31 : decode prog_14_method_45_code 31 = .ok (.iload_n 1, 1) := by decide +kernel
theorem d_MO_of_32 : decode prog_14_method_45_code 32 = .ok (.invokevirtual 241, 3) := by decide +kernel
theorem d_MO_of_35 : decode prog_14_method_45_code 35 = .ok (.iload_n 3, 1) := by decide +kernel
theorem d_MO_of_36 : decode prog_14_method_45_code 36 = .ok (.tableswitch 60 0 3 #[32, 39, 46, 53], 32) := by decide +kernel
theorem d_MO_of_68 : decode prog_14_method_45_code 68 = .ok (.aload_n 0, 1) := by decide +kernel
theorem d_MO_of_69 : decode prog_14_method_45_code 69 = .ok (.getfield 64, 3) := by decide +kernel
theorem d_MO_of_72 : decode prog_14_method_45_code 72 = .ok (.iload_n 2, 1) := by decide +kernel
theorem d_MO_of_73 : decode prog_14_method_45_code 73 = .ok (.iaload, 1) := by decide +kernel
theorem d_MO_of_74 : decode prog_14_method_45_code 74 = .ok (.ireturn, 1) := by decide +kernel
theorem d_MO_of_75 : decode prog_14_method_45_code 75 = .ok (.aload_n 0, 1) := by decide +kernel
theorem d_MO_of_76 : decode prog_14_method_45_code 76 = .ok (.getfield 67, 3) := by decide +kernel
theorem d_MO_of_79 : decode prog_14_method_45_code 79 = .ok (.iload_n 2, 1) := by decide +kernel
theorem d_MO_of_80 : decode prog_14_method_45_code 80 = .ok (.iaload, 1) := by decide +kernel
theorem d_MO_of_81 : decode prog_14_method_45_code 81 = .ok (.ireturn, 1) := by decide +kernel
theorem d_MO_of_82 : decode prog_14_method_45_code 82 = .ok (.aload_n 0, 1) := by decide +kernel
theorem d_MO_of_83 : decode prog_14_method_45_code 83 = .ok (.getfield 73, 3) := by decide +kernel
theorem d_MO_of_86 : decode prog_14_method_45_code 86 = .ok (.iload_n 2, 1) := by decide +kernel
theorem d_MO_of_87 : decode prog_14_method_45_code 87 = .ok (.iaload, 1) := by decide +kernel
theorem d_MO_of_88 : decode prog_14_method_45_code 88 = .ok (.ireturn, 1) := by decide +kernel
theorem d_MO_of_89 : decode prog_14_method_45_code 89 = .ok (.aload_n 0, 1) := by decide +kernel
theorem d_MO_of_90 : decode prog_14_method_45_code 90 = .ok (.getfield 76, 3) := by decide +kernel
theorem d_MO_of_93 : decode prog_14_method_45_code 93 = .ok (.iload_n 2, 1) := by decide +kernel
theorem d_MO_of_94 : decode prog_14_method_45_code 94 = .ok (.iaload, 1) := by decide +kernel
theorem d_MO_of_95 : decode prog_14_method_45_code 95 = .ok (.ireturn, 1) := by decide +kernel
theorem d_MO_of_96 : decode prog_14_method_45_code 96 = .ok (.aload_n 0, 1) := by decide +kernel
theorem d_MO_of_97 : decode prog_14_method_45_code 97 = .ok (.iload_n 2, 1) := by decide +kernel
theorem d_MO_of_98 : decode prog_14_method_45_code 98 = .ok (.iload_n 1, 1) := by decide +kernel
theorem d_MO_of_99 : decode prog_14_method_45_code 99 = .ok (.invokevirtual 203, 3) := by decide +kernel
theorem d_MO_of_102 : decode prog_14_method_45_code 102 = .ok (.ireturn, 1) := by decide +kernel
def p_MO_of (Q : Int32 → AH → Prop) (x1 : Int32) (x2 : Int32) (x3 : Int32) (h : AH) : Prop := p_MO_isMany (fun r2 h1 => ((r2 = 0 → Q (-5) h1) ∧ (¬ r2 = 0 → p_MO_isHouse (fun r4 h3 => ((¬ r4 = 0 → p_MO_in (fun r6 h5 => ((¬ r6 = 0 → p_MO_lives (fun h7 => ((x3 = 0 → inb x2 7 ∧ Q (h7.1 78 x2) h7) ∧ (x3 = 1 → inb x2 7 ∧ Q (h7.1 79 x2) h7) ∧ (x3 = 2 → inb x2 7 ∧ Q (h7.1 81 x2) h7) ∧ (x3 = 3 → inb x2 7 ∧ Q (h7.1 82 x2) h7) ∧ (¬ x3 = 0 → ¬ x3 = 1 → ¬ x3 = 2 → ¬ x3 = 3 → p_MO_weighs (fun r13 h12 => Q r13 h12) x2 x1 h7))) x1 h5) ∧ (r6 = 0 → Q (-7) h5))) x3 0 4 h3) ∧ (r4 = 0 → Q (-5) h3))) x2 h1))) x1 h
set_option maxRecDepth 20000 in
theorem r_MO_of_0 {G : GG} {d : Nat} {Q : Int32 → AH → Prop} (x1 : Int32) (x2 : Int32) (x3 : Int32) (h : AH) (H : p_MO_of Q x1 x2 x3 h) : Att G T1 m_MO_of (d + 8) 0 [some (.ref 59), some (.int x1), some (.int x2), some (.int x3)] [] h 0 0 (iQ Q) := by
  refine A_iload_n d_MO_of_0 rfl ?_
  refine A_cI [.int x1] [] (ct_MO_185 rfl) d_MO_of_1 rfl rfl (by decide) (Nat.le_of_ble_eq_true rfl) trivial (ok_MO_isMany (d := d + 6) H) (fun r2 h1 H => ?_)
  refine A_if_eq 15 d_MO_of_4 (by decide) (fun z => ?_) (fun z => ?_)
  · have H := H.1 z
    refine A_bipush (-5) (by decide) d_MO_of_15 ?_
    exact A_iret d_MO_of_17 rfl rfl H
  · have H := H.2 z
    refine A_aload_n d_MO_of_7 rfl ?_
    refine A_iload_n d_MO_of_8 rfl ?_
    refine A_cI [.ref 59, .int x2] [] (ct_MO_182 rfl) d_MO_of_9 rfl rfl (by decide) (Nat.le_of_ble_eq_true rfl) (rcA_o (c := 12) rfl (vA_s (by decide)) rfl (by decide) rfl) (ok_MO_isHouse (d := d + 6) H) (fun r4 h3 H => ?_)
    refine A_if_ne 18 d_MO_of_12 (by decide) (fun z => ?_) (fun z => ?_)
    · have H := H.1 z
      refine A_iload_n d_MO_of_18 rfl ?_
      refine A_iconst 0 (by decide) d_MO_of_19 ?_
      refine A_iconst 4 (by decide) d_MO_of_20 ?_
      refine A_cI [.int x3, .int 0, .int 4] [] (ct_MO_93 rfl) d_MO_of_21 rfl rfl (by decide) (Nat.le_of_ble_eq_true rfl) trivial (ok_MO_in (d := d + 7) H) (fun r6 h5 H => ?_)
      refine A_if_ne 30 d_MO_of_24 (by decide) (fun z => ?_) (fun z => ?_)
      · have H := H.1 z
        refine A_aload_n d_MO_of_30 rfl ?_
        refine A_iload_n d_MO_of_31 rfl ?_
        refine A_cV [.ref 59, .int x1] [] (ct_MO_241 rfl) d_MO_of_32 rfl rfl (by decide) (Nat.le_of_ble_eq_true rfl) (rcA_o (c := 12) rfl (vA_s (by decide)) rfl (by decide) rfl) (ok_MO_lives (d := d) H) (fun h7 H => ?_)
        refine A_iload_n d_MO_of_35 rfl ?_
        by_cases z0 : x3 = 0
        · have H := H.1 z0
          refine A_tsI 68 d_MO_of_36 (by rw [z0]; decide) (by rw [z0]; decide) (by rw [z0]; rfl) (by decide) ?_
          refine A_aload_n d_MO_of_68 rfl ?_
          refine A_get (v := .ref 78) d_MO_of_69 (fo_MO_64_12 rfl) (vA_s (by decide)) rfl rfl ?_
          refine A_iload_n d_MO_of_72 rfl ?_
          obtain ⟨c8, H⟩ := H
          refine A_iald (n := 7) d_MO_of_73 (vA_s (by decide)) rfl c8 ?_
          exact A_iret d_MO_of_74 rfl rfl H
        · have H := H.2
          by_cases z1 : x3 = 1
          · have H := H.1 z1
            refine A_tsI 75 d_MO_of_36 (by rw [z1]; decide) (by rw [z1]; decide) (by rw [z1]; rfl) (by decide) ?_
            refine A_aload_n d_MO_of_75 rfl ?_
            refine A_get (v := .ref 79) d_MO_of_76 (fo_MO_67_12 rfl) (vA_s (by decide)) rfl rfl ?_
            refine A_iload_n d_MO_of_79 rfl ?_
            obtain ⟨c9, H⟩ := H
            refine A_iald (n := 7) d_MO_of_80 (vA_s (by decide)) rfl c9 ?_
            exact A_iret d_MO_of_81 rfl rfl H
          · have H := H.2
            by_cases z2 : x3 = 2
            · have H := H.1 z2
              refine A_tsI 82 d_MO_of_36 (by rw [z2]; decide) (by rw [z2]; decide) (by rw [z2]; rfl) (by decide) ?_
              refine A_aload_n d_MO_of_82 rfl ?_
              refine A_get (v := .ref 81) d_MO_of_83 (fo_MO_73_12 rfl) (vA_s (by decide)) rfl rfl ?_
              refine A_iload_n d_MO_of_86 rfl ?_
              obtain ⟨c10, H⟩ := H
              refine A_iald (n := 7) d_MO_of_87 (vA_s (by decide)) rfl c10 ?_
              exact A_iret d_MO_of_88 rfl rfl H
            · have H := H.2
              by_cases z3 : x3 = 3
              · have H := H.1 z3
                refine A_tsI 89 d_MO_of_36 (by rw [z3]; decide) (by rw [z3]; decide) (by rw [z3]; rfl) (by decide) ?_
                refine A_aload_n d_MO_of_89 rfl ?_
                refine A_get (v := .ref 82) d_MO_of_90 (fo_MO_76_12 rfl) (vA_s (by decide)) rfl rfl ?_
                refine A_iload_n d_MO_of_93 rfl ?_
                obtain ⟨c11, H⟩ := H
                refine A_iald (n := 7) d_MO_of_94 (vA_s (by decide)) rfl c11 ?_
                exact A_iret d_MO_of_95 rfl rfl H
              · have H := H.2
                have H := H z0 z1 z2 z3
                refine A_tsO 96 d_MO_of_36 (by have t0 := lv_neT z0 (a := 0) (by decide); have t1 := lv_neT z1 (a := 1) (by decide); have t2 := lv_neT z2 (a := 2) (by decide); have t3 := lv_neT z3 (a := 3) (by decide); omega) (by decide) ?_
                refine A_aload_n d_MO_of_96 rfl ?_
                refine A_iload_n d_MO_of_97 rfl ?_
                refine A_iload_n d_MO_of_98 rfl ?_
                refine A_cI [.ref 59, .int x2, .int x1] [] (ct_MO_203 rfl) d_MO_of_99 rfl rfl (by decide) (Nat.le_of_ble_eq_true rfl) (rcA_o (c := 12) rfl (vA_s (by decide)) rfl (by decide) rfl) (ok_MO_weighs (d := d + 4) H) (fun r13 h12 H => ?_)
                exact A_iret d_MO_of_102 rfl rfl H
      · have H := H.2 z
        refine A_bipush (-7) (by decide) d_MO_of_27 ?_
        exact A_iret d_MO_of_29 rfl rfl H
    · have H := H.2 z
      refine A_bipush (-5) (by decide) d_MO_of_15 ?_
      exact A_iret d_MO_of_17 rfl rfl H
set_option maxRecDepth 20000 in
theorem ok_MO_of {G : GG} {d : Nat} {Q : Int32 → AH → Prop} {x1 : Int32} {x2 : Int32} {x3 : Int32} {h : AH} (H : p_MO_of Q x1 x2 x3 h) : WP G T1 m_MO_of (d + 8) [.ref 59, .int x1, .int x2, .int x3] h 0 0 (iQ Q) := by
  exact WP.enter 0 (by decide) rfl rfl (r_MO_of_0 x1 x2 x3 h H)
theorem d_MO_all_0 : decode prog_14_method_47_code 0 = .ok (.iload_n 1, 1) := by decide +kernel
theorem d_MO_all_1 : decode prog_14_method_47_code 1 = .ok (.invokestatic 185, 3) := by decide +kernel
theorem d_MO_all_4 : decode prog_14_method_47_code 4 = .ok (.ifCond .ne 6, 3) := by decide +kernel
theorem d_MO_all_7 : decode prog_14_method_47_code 7 = .ok (.bipush (-5), 2) := by decide +kernel
theorem d_MO_all_9 : decode prog_14_method_47_code 9 = .ok (.ireturn, 1) := by decide +kernel
theorem d_MO_all_10 : decode prog_14_method_47_code 10 = .ok (.iload_n 2, 1) := by decide +kernel
theorem d_MO_all_11 : decode prog_14_method_47_code 11 = .ok (.iconst 0, 1) := by decide +kernel
theorem d_MO_all_12 : decode prog_14_method_47_code 12 = .ok (.iconst 3, 1) := by decide +kernel
theorem d_MO_all_13 : decode prog_14_method_47_code 13 = .ok (.invokestatic 93, 3) := by decide +kernel
theorem d_MO_all_16 : decode prog_14_method_47_code 16 = .ok (.ifCond .ne 6, 3) := by decide +kernel
theorem d_MO_all_19 : decode prog_14_method_47_code 19 = .ok (.bipush (-7), 2) := by decide +kernel
theorem d_MO_all_21 : decode prog_14_method_47_code 21 = .ok (.ireturn, 1) := by decide +kernel
theorem d_MO_all_22 : decode prog_14_method_47_code 22 = .ok (.aload_n 0, 1) := by decide +kernel
theorem d_MO_all_23 : decode prog_14_method_47_code 23 = .ok (.iload_n 1, 1) := by decide +kernel
theorem d_MO_all_24 : decode prog_14_method_47_code 24 = .ok (.invokevirtual 241, 3) := by decide +kernel
theorem d_MO_all_27 : decode prog_14_method_47_code 27 = .ok (.aload_n 0, 1) := by decide +kernel
theorem d_MO_all_28 : decode prog_14_method_47_code 28 = .ok (.iload_n 2, 1) := by decide +kernel
theorem d_MO_all_29 : decode prog_14_method_47_code 29 = .ok (.invokevirtual 244, 3) := by decide +kernel
theorem d_MO_all_32 : decode prog_14_method_47_code 32 = .ok (.ireturn, 1) := by decide +kernel
def p_MO_all (Q : Int32 → AH → Prop) (x1 : Int32) (x2 : Int32) (h : AH) : Prop := p_MO_isMany (fun r2 h1 => ((¬ r2 = 0 → p_MO_in (fun r4 h3 => ((¬ r4 = 0 → p_MO_lives (fun h5 => p_MO_sumOf (fun r7 h6 => Q r7 h6) x2 h5) x1 h3) ∧ (r4 = 0 → Q (-7) h3))) x2 0 3 h1) ∧ (r2 = 0 → Q (-5) h1))) x1 h
set_option maxRecDepth 20000 in
theorem r_MO_all_0 {G : GG} {d : Nat} {Q : Int32 → AH → Prop} (x1 : Int32) (x2 : Int32) (h : AH) (H : p_MO_all Q x1 x2 h) : Att G T1 m_MO_all (d + 8) 0 [some (.ref 59), some (.int x1), some (.int x2)] [] h 0 0 (iQ Q) := by
  refine A_iload_n d_MO_all_0 rfl ?_
  refine A_cI [.int x1] [] (ct_MO_185 rfl) d_MO_all_1 rfl rfl (by decide) (Nat.le_of_ble_eq_true rfl) trivial (ok_MO_isMany (d := d + 6) H) (fun r2 h1 H => ?_)
  refine A_if_ne 10 d_MO_all_4 (by decide) (fun z => ?_) (fun z => ?_)
  · have H := H.1 z
    refine A_iload_n d_MO_all_10 rfl ?_
    refine A_iconst 0 (by decide) d_MO_all_11 ?_
    refine A_iconst 3 (by decide) d_MO_all_12 ?_
    refine A_cI [.int x2, .int 0, .int 3] [] (ct_MO_93 rfl) d_MO_all_13 rfl rfl (by decide) (Nat.le_of_ble_eq_true rfl) trivial (ok_MO_in (d := d + 7) H) (fun r4 h3 H => ?_)
    refine A_if_ne 22 d_MO_all_16 (by decide) (fun z => ?_) (fun z => ?_)
    · have H := H.1 z
      refine A_aload_n d_MO_all_22 rfl ?_
      refine A_iload_n d_MO_all_23 rfl ?_
      refine A_cV [.ref 59, .int x1] [] (ct_MO_241 rfl) d_MO_all_24 rfl rfl (by decide) (Nat.le_of_ble_eq_true rfl) (rcA_o (c := 12) rfl (vA_s (by decide)) rfl (by decide) rfl) (ok_MO_lives (d := d) H) (fun h5 H => ?_)
      refine A_aload_n d_MO_all_27 rfl ?_
      refine A_iload_n d_MO_all_28 rfl ?_
      refine A_cI [.ref 59, .int x2] [] (ct_MO_244 rfl) d_MO_all_29 rfl rfl (by decide) (Nat.le_of_ble_eq_true rfl) (rcA_o (c := 12) rfl (vA_s (by decide)) rfl (by decide) rfl) (ok_MO_sumOf (d := d + 7) H) (fun r7 h6 H => ?_)
      exact A_iret d_MO_all_32 rfl rfl H
    · have H := H.2 z
      refine A_bipush (-7) (by decide) d_MO_all_19 ?_
      exact A_iret d_MO_all_21 rfl rfl H
  · have H := H.2 z
    refine A_bipush (-5) (by decide) d_MO_all_7 ?_
    exact A_iret d_MO_all_9 rfl rfl H
set_option maxRecDepth 20000 in
theorem ok_MO_all {G : GG} {d : Nat} {Q : Int32 → AH → Prop} {x1 : Int32} {x2 : Int32} {h : AH} (H : p_MO_all Q x1 x2 h) : WP G T1 m_MO_all (d + 8) [.ref 59, .int x1, .int x2] h 0 0 (iQ Q) := by
  exact WP.enter 0 (by decide) rfl rfl (r_MO_all_0 x1 x2 h H)
theorem d_MO_whenOf_0 : decode prog_14_method_48_code 0 = .ok (.iconst 0, 1) := by decide +kernel
theorem d_MO_whenOf_1 : decode prog_14_method_48_code 1 = .ok (.istore_n 2, 1) := by decide +kernel
theorem d_MO_whenOf_2 : decode prog_14_method_48_code 2 = .ok (.iload_n 2, 1) := by decide +kernel
theorem d_MO_whenOf_3 : decode prog_14_method_48_code 3 = .ok (.bipush 24, 2) := by decide +kernel
theorem d_MO_whenOf_5 : decode prog_14_method_48_code 5 = .ok (.if_icmp .gt 25, 3) := by decide +kernel
theorem d_MO_whenOf_8 : decode prog_14_method_48_code 8 = .ok (.aload_n 0, 1) := by decide +kernel
theorem d_MO_whenOf_9 : decode prog_14_method_48_code 9 = .ok (.iload_n 2, 1) := by decide +kernel
theorem d_MO_whenOf_10 : decode prog_14_method_48_code 10 = .ok (.invokevirtual 241, 3) := by decide +kernel
theorem d_MO_whenOf_13 : decode prog_14_method_48_code 13 = .ok (.aload_n 0, 1) := by decide +kernel
theorem d_MO_whenOf_14 : decode prog_14_method_48_code 14 = .ok (.getfield 64, 3) := by decide +kernel
theorem d_MO_whenOf_17 : decode prog_14_method_48_code 17 = .ok (.iload_n 1, 1) := by decide +kernel
theorem d_MO_whenOf_18 : decode prog_14_method_48_code 18 = .ok (.iaload, 1) := by decide +kernel
theorem d_MO_whenOf_19 : decode prog_14_method_48_code 19 = .ok (.ifCond .ne 5, 3) := by decide +kernel
theorem d_MO_whenOf_22 : decode prog_14_method_48_code 22 = .ok (.iload_n 2, 1) := by decide +kernel
theorem d_MO_whenOf_23 : decode prog_14_method_48_code 23 = .ok (.ireturn, 1) := by decide +kernel
theorem d_MO_whenOf_24 : decode prog_14_method_48_code 24 = .ok (.iinc 2 1, 3) := by decide +kernel
theorem d_MO_whenOf_27 : decode prog_14_method_48_code 27 = .ok (.goto (-25), 3) := by decide +kernel
theorem d_MO_whenOf_30 : decode prog_14_method_48_code 30 = .ok (.iconst (-1), 1) := by decide +kernel
theorem d_MO_whenOf_31 : decode prog_14_method_48_code 31 = .ok (.ireturn, 1) := by decide +kernel
def p_MO_whenOf_2 (Q : Int32 → AH → Prop) : Nat → Int32 → Int32 → AH → Prop
  | 0 => fun _ _ _ => False
  | n + 1 => fun x1 x2 h => let K2 := p_MO_whenOf_2 Q n; ((24 < x2 → Q (-1) h) ∧ (¬ 24 < x2 → p_MO_lives (fun h1 => inb x1 7 ∧ ((¬ (h1.1 78 x1) = 0 → K2 x1 (x2 + 1) h1) ∧ ((h1.1 78 x1) = 0 → Q x2 h1))) x2 h))
def p_MO_whenOf (Q : Int32 → AH → Prop) (x1 : Int32) (h : AH) : Prop := ∃ n, p_MO_whenOf_2 Q   n x1 0 h
set_option maxRecDepth 20000 in
theorem r_MO_whenOf_2 {G : GG} {d : Nat} {Q : Int32 → AH → Prop} : ∀ (n : Nat) (x1 : Int32) (x2 : Int32) (h : AH), p_MO_whenOf_2 Q n x1 x2 h → Att G T1 m_MO_whenOf (d + 8) 2 [some (.ref 59), some (.int x1), some (.int x2)] [] h 0 0 (iQ Q) := by
  intro n
  induction n with
  | zero => intro x1 x2 h H; exact H.elim
  | succ n k2 =>
    intro x1 x2 h H
    refine A_iload_n d_MO_whenOf_2 rfl ?_
    refine A_bipush 24 (by decide) d_MO_whenOf_3 ?_
    refine A_icmp_gt 30 d_MO_whenOf_5 (by decide) (fun z => ?_) (fun z => ?_)
    · have H := H.1 z
      refine A_iconst (-1) (by decide) d_MO_whenOf_30 ?_
      exact A_iret d_MO_whenOf_31 rfl rfl H
    · have H := H.2 z
      refine A_aload_n d_MO_whenOf_8 rfl ?_
      refine A_iload_n d_MO_whenOf_9 rfl ?_
      refine A_cV [.ref 59, .int x2] [] (ct_MO_241 rfl) d_MO_whenOf_10 rfl rfl (by decide) (Nat.le_of_ble_eq_true rfl) (rcA_o (c := 12) rfl (vA_s (by decide)) rfl (by decide) rfl) (ok_MO_lives (d := d) H) (fun h1 H => ?_)
      refine A_aload_n d_MO_whenOf_13 rfl ?_
      refine A_get (v := .ref 78) d_MO_whenOf_14 (fo_MO_64_12 rfl) (vA_s (by decide)) rfl rfl ?_
      refine A_iload_n d_MO_whenOf_17 rfl ?_
      obtain ⟨c2, H⟩ := H
      refine A_iald (n := 7) d_MO_whenOf_18 (vA_s (by decide)) rfl c2 ?_
      refine A_if_ne 24 d_MO_whenOf_19 (by decide) (fun z => ?_) (fun z => ?_)
      · have H := H.1 z
        refine A_iinc 1 [some (.ref 59), some (.int x1), some (.int (x2 + 1))] d_MO_whenOf_24 rfl (by decide) (by decide) rfl rfl ?_
        refine A_goto 2 d_MO_whenOf_27 (by decide) ?_
        exact k2 _ _ _ H
      · have H := H.2 z
        refine A_iload_n d_MO_whenOf_22 rfl ?_
        exact A_iret d_MO_whenOf_23 rfl rfl H
set_option maxRecDepth 20000 in
theorem r_MO_whenOf_0 {G : GG} {d : Nat} {Q : Int32 → AH → Prop} (x1 : Int32) (h : AH) (H : p_MO_whenOf Q x1 h) : Att G T1 m_MO_whenOf (d + 8) 0 [some (.ref 59), some (.int x1), none] [] h 0 0 (iQ Q) := by
  refine A_iconst 0 (by decide) d_MO_whenOf_0 ?_
  refine A_istore_n [some (.ref 59), some (.int x1), some (.int 0)] d_MO_whenOf_1 (by decide) rfl rfl ?_
  obtain ⟨n9, H⟩ := H
  exact r_MO_whenOf_2   n9 _ _ _ H
set_option maxRecDepth 20000 in
theorem ok_MO_whenOf {G : GG} {d : Nat} {Q : Int32 → AH → Prop} {x1 : Int32} {h : AH} (H : p_MO_whenOf Q x1 h) : WP G T1 m_MO_whenOf (d + 8) [.ref 59, .int x1] h 0 0 (iQ Q) := by
  exact WP.enter 1 (by decide) rfl rfl (r_MO_whenOf_0 x1 h H)
theorem d_MO_bring_0 : decode prog_14_method_53_code 0 = .ok (.aload_n 0, 1) := by decide +kernel
theorem d_MO_bring_1 : decode prog_14_method_53_code 1 = .ok (.iload_n 1, 1) := by decide +kernel
theorem d_MO_bring_2 : decode prog_14_method_53_code 2 = .ok (.invokevirtual 182, 3) := by decide +kernel
theorem d_MO_bring_5 : decode prog_14_method_53_code 5 = .ok (.ifCond .ne 6, 3) := by decide +kernel
theorem d_MO_bring_8 : decode prog_14_method_53_code 8 = .ok (.bipush (-5), 2) := by decide +kernel
theorem d_MO_bring_10 : decode prog_14_method_53_code 10 = .ok (.ireturn, 1) := by decide +kernel
theorem d_MO_bring_11 : decode prog_14_method_53_code 11 = .ok (.iload_n 2, 1) := by decide +kernel
theorem d_MO_bring_12 : decode prog_14_method_53_code 12 = .ok (.invokestatic 185, 3) := by decide +kernel
theorem d_MO_bring_15 : decode prog_14_method_53_code 15 = .ok (.ifCond .ne 6, 3) := by decide +kernel
theorem d_MO_bring_18 : decode prog_14_method_53_code 18 = .ok (.bipush (-7), 2) := by decide +kernel
theorem d_MO_bring_20 : decode prog_14_method_53_code 20 = .ok (.ireturn, 1) := by decide +kernel
theorem d_MO_bring_21 : decode prog_14_method_53_code 21 = .ok (.aload_n 0, 1) := by decide +kernel
theorem d_MO_bring_22 : decode prog_14_method_53_code 22 = .ok (.getfield 22, 3) := by decide +kernel
theorem d_MO_bring_25 : decode prog_14_method_53_code 25 = .ok (.iload_n 1, 1) := by decide +kernel
theorem d_MO_bring_26 : decode prog_14_method_53_code 26 = .ok (.iaload, 1) := by decide +kernel
theorem d_MO_bring_27 : decode prog_14_method_53_code 27 = .ok (.istore_n 3, 1) := by decide +kernel
theorem d_MO_bring_28 : decode prog_14_method_53_code 28 = .ok (.iconst (-1), 1) := by decide +kernel
theorem d_MO_bring_29 : decode prog_14_method_53_code 29 = .ok (.istore 4, 2) := by decide +kernel
theorem d_MO_bring_31 : decode prog_14_method_53_code 31 = .ok (.iconst 0, 1) := by decide +kernel
theorem d_MO_bring_32 : decode prog_14_method_53_code 32 = .ok (.istore 5, 2) := by decide +kernel
theorem d_MO_bring_34 : decode prog_14_method_53_code 34 = .ok (.iload 5, 2) := by decide +kernel
theorem d_MO_bring_36 : decode prog_14_method_53_code 36 = .ok (.bipush 20, 2) := by decide +kernel
theorem d_MO_bring_38 : decode prog_14_method_53_code 38 = .ok (.if_icmp .gt 47, 3) := by decide +kernel
theorem d_MO_bring_41 : decode prog_14_method_53_code 41 = .ok (.iload 4, 2) := by decide +kernel
theorem d_MO_bring_43 : decode prog_14_method_53_code 43 = .ok (.iconst (-1), 1) := by decide +kernel
theorem d_MO_bring_44 : decode prog_14_method_53_code 44 = .ok (.if_icmp .ne 41, 3) := by decide +kernel
theorem d_MO_bring_47 : decode prog_14_method_53_code 47 = .ok (.aload_n 0, 1) := by decide +kernel
theorem d_MO_bring_48 : decode prog_14_method_53_code 48 = .ok (.getfield 22, 3) := by decide +kernel
theorem d_MO_bring_51 : decode prog_14_method_53_code 51 = .ok (.iload_n 1, 1) := by decide +kernel
theorem d_MO_bring_52 : decode prog_14_method_53_code 52 = .ok (.iload_n 3, 1) := by decide +kernel
theorem d_MO_bring_53 : decode prog_14_method_53_code 53 = .ok (.iload 5, 2) := by decide +kernel
theorem d_MO_bring_55 : decode prog_14_method_53_code 55 = .ok (.iadd, 1) := by decide +kernel
theorem d_MO_bring_56 : decode prog_14_method_53_code 56 = .ok (.iastore, 1) := by decide +kernel
theorem d_MO_bring_57 : decode prog_14_method_53_code 57 = .ok (.aload_n 0, 1) := by decide +kernel
theorem d_MO_bring_58 : decode prog_14_method_53_code 58 = .ok (.iload_n 2, 1) := by decide +kernel
theorem d_MO_bring_59 : decode prog_14_method_53_code 59 = .ok (.invokevirtual 241, 3) := by decide +kernel
theorem d_MO_bring_62 : decode prog_14_method_53_code 62 = .ok (.aload_n 0, 1) := by decide +kernel
theorem d_MO_bring_63 : decode prog_14_method_53_code 63 = .ok (.getfield 64, 3) := by decide +kernel
theorem d_MO_bring_66 : decode prog_14_method_53_code 66 = .ok (.iload_n 1, 1) := by decide +kernel
theorem d_MO_bring_67 : decode prog_14_method_53_code 67 = .ok (.iaload, 1) := by decide +kernel
theorem d_MO_bring_68 : decode prog_14_method_53_code 68 = .ok (.ifCond .ne 8, 3) := by decide +kernel
theorem d_MO_bring_71 : decode prog_14_method_53_code 71 = .ok (.iload 5, 2) := by decide +kernel
theorem d_MO_bring_73 : decode prog_14_method_53_code 73 = .ok (.goto 4, 3) := by decide +kernel
theorem d_MO_bring_76 : decode prog_14_method_53_code 76 = .ok (.iconst (-1), 1) := by decide +kernel
theorem d_MO_bring_77 : decode prog_14_method_53_code 77 = .ok (.istore 4, 2) := by decide +kernel
theorem d_MO_bring_79 : decode prog_14_method_53_code 79 = .ok (.iinc 5 1, 3) := by decide +kernel
theorem d_MO_bring_82 : decode prog_14_method_53_code 82 = .ok (.goto (-48), 3) := by decide +kernel
theorem d_MO_bring_85 : decode prog_14_method_53_code 85 = .ok (.aload_n 0, 1) := by decide +kernel
theorem d_MO_bring_86 : decode prog_14_method_53_code 86 = .ok (.getfield 22, 3) := by decide +kernel
theorem d_MO_bring_89 : decode prog_14_method_53_code 89 = .ok (.iload_n 1, 1) := by decide +kernel
theorem d_MO_bring_90 : decode prog_14_method_53_code 90 = .ok (.iload_n 3, 1) := by decide +kernel
theorem d_MO_bring_91 : decode prog_14_method_53_code 91 = .ok (.iastore, 1) := by decide +kernel
theorem d_MO_bring_92 : decode prog_14_method_53_code 92 = .ok (.iload 4, 2) := by decide +kernel
theorem d_MO_bring_94 : decode prog_14_method_53_code 94 = .ok (.ireturn, 1) := by decide +kernel
def p_MO_bring_77 (Q : Int32 → AH → Prop) (K34 : Int32 → Int32 → Int32 → Int32 → Int32 → AH → Prop) (x1 : Int32) (x2 : Int32) (x3 : Int32) (x5 : Int32) (s0 : Int32) (h : AH) : Prop := K34 x1 x2 x3 s0 (x5 + 1) h
def p_MO_bring_34 (Q : Int32 → AH → Prop) : Nat → Int32 → Int32 → Int32 → Int32 → Int32 → AH → Prop
  | 0 => fun _ _ _ _ _ _ => False
  | n + 1 => fun x1 x2 x3 x4 x5 h => let K34 := p_MO_bring_34 Q n; ((20 < x5 → inb x1 7 ∧ Q x4 (wI h 64 x1 x3)) ∧ (¬ 20 < x5 → ((¬ x4 = (-1) → inb x1 7 ∧ Q x4 (wI h 64 x1 x3)) ∧ (x4 = (-1) → inb x1 7 ∧ p_MO_lives (fun h4 => inb x1 7 ∧ ((¬ (h4.1 78 x1) = 0 → p_MO_bring_77 Q  K34 x1 x2 x3 x5 (-1) h4) ∧ ((h4.1 78 x1) = 0 → p_MO_bring_77 Q  K34 x1 x2 x3 x5 x5 h4))) x2 (wI h 64 x1 (x3 + x5))))))
def p_MO_bring (Q : Int32 → AH → Prop) (x1 : Int32) (x2 : Int32) (h : AH) : Prop := p_MO_isHouse (fun r2 h1 => ((¬ r2 = 0 → p_MO_isMany (fun r4 h3 => ((¬ r4 = 0 → inb x1 7 ∧ ∃ n, p_MO_bring_34 Q   n x1 x2 (h3.1 64 x1) (-1) 0 h3) ∧ (r4 = 0 → Q (-7) h3))) x2 h1) ∧ (r2 = 0 → Q (-5) h1))) x1 h
set_option maxRecDepth 20000 in
theorem r_MO_bring_77 {G : GG} {d : Nat} {Q : Int32 → AH → Prop} {K34 : Int32 → Int32 → Int32 → Int32 → Int32 → AH → Prop} (k34 : ∀ x1 x2 x3 x4 x5 h, K34 x1 x2 x3 x4 x5 h → Att G T1 m_MO_bring (d + 8) 34 [some (.ref 59), some (.int x1), some (.int x2), some (.int x3), some (.int x4), some (.int x5)] [] h 0 0 (iQ Q)) (x1 : Int32) (x2 : Int32) (x3 : Int32) (x5 : Int32) (s0 : Int32) (h : AH) (H : p_MO_bring_77 Q K34 x1 x2 x3 x5 s0 h) : Att G T1 m_MO_bring (d + 8) 77 [some (.ref 59), some (.int x1), some (.int x2), some (.int x3), none, some (.int x5)] [.int s0] h 0 0 (iQ Q) := by
  refine A_istore [some (.ref 59), some (.int x1), some (.int x2), some (.int x3), some (.int s0), some (.int x5)] d_MO_bring_77 (by decide) rfl rfl ?_
  refine A_iinc 1 [some (.ref 59), some (.int x1), some (.int x2), some (.int x3), some (.int s0), some (.int (x5 + 1))] d_MO_bring_79 rfl (by decide) (by decide) rfl rfl ?_
  refine A_goto 34 d_MO_bring_82 (by decide) ?_
  exact k34 _ _ _ _ _ _ H
set_option maxRecDepth 20000 in
theorem r_MO_bring_34 {G : GG} {d : Nat} {Q : Int32 → AH → Prop} : ∀ (n : Nat) (x1 : Int32) (x2 : Int32) (x3 : Int32) (x4 : Int32) (x5 : Int32) (h : AH), p_MO_bring_34 Q n x1 x2 x3 x4 x5 h → Att G T1 m_MO_bring (d + 8) 34 [some (.ref 59), some (.int x1), some (.int x2), some (.int x3), some (.int x4), some (.int x5)] [] h 0 0 (iQ Q) := by
  intro n
  induction n with
  | zero => intro x1 x2 x3 x4 x5 h H; exact H.elim
  | succ n k34 =>
    intro x1 x2 x3 x4 x5 h H
    refine A_iload d_MO_bring_34 rfl ?_
    refine A_bipush 20 (by decide) d_MO_bring_36 ?_
    refine A_icmp_gt 85 d_MO_bring_38 (by decide) (fun z => ?_) (fun z => ?_)
    · have H := H.1 z
      refine A_aload_n d_MO_bring_85 rfl ?_
      refine A_get (v := .ref 64) d_MO_bring_86 (fo_MO_22_12 rfl) (vA_s (by decide)) rfl rfl ?_
      refine A_iload_n d_MO_bring_89 rfl ?_
      refine A_iload_n d_MO_bring_90 rfl ?_
      obtain ⟨c1, H⟩ := H
      refine A_iast (n := 7) d_MO_bring_91 (vA_s (by decide)) rfl c1 ?_
      refine A_iload d_MO_bring_92 rfl ?_
      exact A_iret d_MO_bring_94 rfl rfl H
    · have H := H.2 z
      refine A_iload d_MO_bring_41 rfl ?_
      refine A_iconst (-1) (by decide) d_MO_bring_43 ?_
      refine A_icmp_ne 85 d_MO_bring_44 (by decide) (fun z => ?_) (fun z => ?_)
      · have H := H.1 z
        refine A_aload_n d_MO_bring_85 rfl ?_
        refine A_get (v := .ref 64) d_MO_bring_86 (fo_MO_22_12 rfl) (vA_s (by decide)) rfl rfl ?_
        refine A_iload_n d_MO_bring_89 rfl ?_
        refine A_iload_n d_MO_bring_90 rfl ?_
        obtain ⟨c2, H⟩ := H
        refine A_iast (n := 7) d_MO_bring_91 (vA_s (by decide)) rfl c2 ?_
        refine A_iload d_MO_bring_92 rfl ?_
        exact A_iret d_MO_bring_94 rfl rfl H
      · have H := H.2 z
        refine A_aload_n d_MO_bring_47 rfl ?_
        refine A_get (v := .ref 64) d_MO_bring_48 (fo_MO_22_12 rfl) (vA_s (by decide)) rfl rfl ?_
        refine A_iload_n d_MO_bring_51 rfl ?_
        refine A_iload_n d_MO_bring_52 rfl ?_
        refine A_iload d_MO_bring_53 rfl ?_
        refine A_iadd d_MO_bring_55 ?_
        obtain ⟨c3, H⟩ := H
        refine A_iast (n := 7) d_MO_bring_56 (vA_s (by decide)) rfl c3 ?_
        refine A_aload_n d_MO_bring_57 rfl ?_
        refine A_iload_n d_MO_bring_58 rfl ?_
        refine A_cV [.ref 59, .int x2] [] (ct_MO_241 rfl) d_MO_bring_59 rfl rfl (by decide) (Nat.le_of_ble_eq_true rfl) (rcA_o (c := 12) rfl (vA_s (by decide)) rfl (by decide) rfl) (ok_MO_lives (d := d) H) (fun h4 H => ?_)
        refine A_aload_n d_MO_bring_62 rfl ?_
        refine A_get (v := .ref 78) d_MO_bring_63 (fo_MO_64_12 rfl) (vA_s (by decide)) rfl rfl ?_
        refine A_iload_n d_MO_bring_66 rfl ?_
        obtain ⟨c5, H⟩ := H
        refine A_iald (n := 7) d_MO_bring_67 (vA_s (by decide)) rfl c5 ?_
        refine A_if_ne 76 d_MO_bring_68 (by decide) (fun z => ?_) (fun z => ?_)
        · have H := H.1 z
          refine A_iconst (-1) (by decide) d_MO_bring_76 ?_
          refine A_sub (L' := [some (.ref 59), some (.int x1), some (.int x2), some (.int x3), none, some (.int x5)]) ⟨rfl, rfl, rfl, rfl, rfl, trivial⟩ ?_
          exact r_MO_bring_77  k34 _ _ _ _ _ _ H
        · have H := H.2 z
          refine A_iload d_MO_bring_71 rfl ?_
          refine A_goto 77 d_MO_bring_73 (by decide) ?_
          refine A_sub (L' := [some (.ref 59), some (.int x1), some (.int x2), some (.int x3), none, some (.int x5)]) ⟨rfl, rfl, rfl, rfl, rfl, trivial⟩ ?_
          exact r_MO_bring_77  k34 _ _ _ _ _ _ H
set_option maxRecDepth 20000 in
theorem r_MO_bring_0 {G : GG} {d : Nat} {Q : Int32 → AH → Prop} (x1 : Int32) (x2 : Int32) (h : AH) (H : p_MO_bring Q x1 x2 h) : Att G T1 m_MO_bring (d + 8) 0 [some (.ref 59), some (.int x1), some (.int x2), none, none, none] [] h 0 0 (iQ Q) := by
  refine A_aload_n d_MO_bring_0 rfl ?_
  refine A_iload_n d_MO_bring_1 rfl ?_
  refine A_cI [.ref 59, .int x1] [] (ct_MO_182 rfl) d_MO_bring_2 rfl rfl (by decide) (Nat.le_of_ble_eq_true rfl) (rcA_o (c := 12) rfl (vA_s (by decide)) rfl (by decide) rfl) (ok_MO_isHouse (d := d + 6) H) (fun r2 h1 H => ?_)
  refine A_if_ne 11 d_MO_bring_5 (by decide) (fun z => ?_) (fun z => ?_)
  · have H := H.1 z
    refine A_iload_n d_MO_bring_11 rfl ?_
    refine A_cI [.int x2] [] (ct_MO_185 rfl) d_MO_bring_12 rfl rfl (by decide) (Nat.le_of_ble_eq_true rfl) trivial (ok_MO_isMany (d := d + 6) H) (fun r4 h3 H => ?_)
    refine A_if_ne 21 d_MO_bring_15 (by decide) (fun z => ?_) (fun z => ?_)
    · have H := H.1 z
      refine A_aload_n d_MO_bring_21 rfl ?_
      refine A_get (v := .ref 64) d_MO_bring_22 (fo_MO_22_12 rfl) (vA_s (by decide)) rfl rfl ?_
      refine A_iload_n d_MO_bring_25 rfl ?_
      obtain ⟨c5, H⟩ := H
      refine A_iald (n := 7) d_MO_bring_26 (vA_s (by decide)) rfl c5 ?_
      refine A_istore_n [some (.ref 59), some (.int x1), some (.int x2), some (.int (h3.1 64 x1)), none, none] d_MO_bring_27 (by decide) rfl rfl ?_
      refine A_iconst (-1) (by decide) d_MO_bring_28 ?_
      refine A_istore [some (.ref 59), some (.int x1), some (.int x2), some (.int (h3.1 64 x1)), some (.int (-1)), none] d_MO_bring_29 (by decide) rfl rfl ?_
      refine A_iconst 0 (by decide) d_MO_bring_31 ?_
      refine A_istore [some (.ref 59), some (.int x1), some (.int x2), some (.int (h3.1 64 x1)), some (.int (-1)), some (.int 0)] d_MO_bring_32 (by decide) rfl rfl ?_
      obtain ⟨n9, H⟩ := H
      exact r_MO_bring_34   n9 _ _ _ _ _ _ H
    · have H := H.2 z
      refine A_bipush (-7) (by decide) d_MO_bring_18 ?_
      exact A_iret d_MO_bring_20 rfl rfl H
  · have H := H.2 z
    refine A_bipush (-5) (by decide) d_MO_bring_8 ?_
    exact A_iret d_MO_bring_10 rfl rfl H
set_option maxRecDepth 20000 in
theorem ok_MO_bring {G : GG} {d : Nat} {Q : Int32 → AH → Prop} {x1 : Int32} {x2 : Int32} {h : AH} (H : p_MO_bring Q x1 x2 h) : WP G T1 m_MO_bring (d + 8) [.ref 59, .int x1, .int x2] h 0 0 (iQ Q) := by
  exact WP.enter 3 (by decide) rfl rfl (r_MO_bring_0 x1 x2 h H)
theorem d_MO_downs_0 : decode prog_14_method_51_code 0 = .ok (.aload_n 0, 1) := by decide +kernel
theorem d_MO_downs_1 : decode prog_14_method_51_code 1 = .ok (.iload_n 1, 1) := by decide +kernel
theorem d_MO_downs_2 : decode prog_14_method_51_code 2 = .ok (.invokevirtual 241, 3) := by decide +kernel
theorem d_MO_downs_5 : decode prog_14_method_51_code 5 = .ok (.aload_n 0, 1) := by decide +kernel
theorem d_MO_downs_6 : decode prog_14_method_51_code 6 = .ok (.invokevirtual 250, 3) := by decide +kernel
theorem d_MO_downs_9 : decode prog_14_method_51_code 9 = .ok (.ireturn, 1) := by decide +kernel
def p_MO_downs (Q : Int32 → AH → Prop) (x1 : Int32) (h : AH) : Prop := p_MO_lives (fun h1 => p_MO_downNow (fun r3 h2 => Q r3 h2) h1) x1 h
set_option maxRecDepth 20000 in
theorem r_MO_downs_0 {G : GG} {d : Nat} {Q : Int32 → AH → Prop} (x1 : Int32) (h : AH) (H : p_MO_downs Q x1 h) : Att G T1 m_MO_downs (d + 8) 0 [some (.ref 59), some (.int x1)] [] h 0 0 (iQ Q) := by
  refine A_aload_n d_MO_downs_0 rfl ?_
  refine A_iload_n d_MO_downs_1 rfl ?_
  refine A_cV [.ref 59, .int x1] [] (ct_MO_241 rfl) d_MO_downs_2 rfl rfl (by decide) (Nat.le_of_ble_eq_true rfl) (rcA_o (c := 12) rfl (vA_s (by decide)) rfl (by decide) rfl) (ok_MO_lives (d := d) H) (fun h1 H => ?_)
  refine A_aload_n d_MO_downs_5 rfl ?_
  refine A_cI [.ref 59] [] (ct_MO_250 rfl) d_MO_downs_6 rfl rfl (by decide) (Nat.le_of_ble_eq_true rfl) (rcA_o (c := 12) rfl (vA_s (by decide)) rfl (by decide) rfl) (ok_MO_downNow (d := d + 7) H) (fun r3 h2 H => ?_)
  exact A_iret d_MO_downs_9 rfl rfl H
set_option maxRecDepth 20000 in
theorem ok_MO_downs {G : GG} {d : Nat} {Q : Int32 → AH → Prop} {x1 : Int32} {h : AH} (H : p_MO_downs Q x1 h) : WP G T1 m_MO_downs (d + 8) [.ref 59, .int x1] h 0 0 (iQ Q) := by
  exact WP.enter 0 (by decide) rfl rfl (r_MO_downs_0 x1 h H)
theorem d_MO_frees_0 : decode prog_14_method_59_code 0 = .ok (.aload_n 0, 1) := by decide +kernel
theorem d_MO_frees_1 : decode prog_14_method_59_code 1 = .ok (.iload_n 1, 1) := by decide +kernel
theorem d_MO_frees_2 : decode prog_14_method_59_code 2 = .ok (.invokevirtual 182, 3) := by decide +kernel
theorem d_MO_frees_5 : decode prog_14_method_59_code 5 = .ok (.ifCond .ne 6, 3) := by decide +kernel
theorem d_MO_frees_8 : decode prog_14_method_59_code 8 = .ok (.bipush (-5), 2) := by decide +kernel
theorem d_MO_frees_10 : decode prog_14_method_59_code 10 = .ok (.ireturn, 1) := by decide +kernel
theorem d_MO_frees_11 : decode prog_14_method_59_code 11 = .ok (.iload_n 2, 1) := by decide +kernel
theorem d_MO_frees_12 : decode prog_14_method_59_code 12 = .ok (.invokestatic 185, 3) := by decide +kernel
theorem d_MO_frees_15 : decode prog_14_method_59_code 15 = .ok (.ifCond .eq 12, 3) := by decide +kernel
theorem d_MO_frees_18 : decode prog_14_method_59_code 18 = .ok (.iload_n 3, 1) := by decide +kernel
theorem d_MO_frees_19 : decode prog_14_method_59_code 19 = .ok (.iconst 0, 1) := by decide +kernel
theorem d_MO_frees_20 : decode prog_14_method_59_code 20 = .ok (.iconst 1, 1) := by decide +kernel
theorem d_MO_frees_21 : decode prog_14_method_59_code 21 = .ok (.invokestatic 93, 3) := by decide +kernel
theorem d_MO_frees_24 : decode prog_14_method_59_code 24 = .ok (.ifCond .ne 6, 3) := by decide +kernel
theorem d_MO_frees_27 : decode prog_14_method_59_code 27 = .ok (.bipush (-7), 2) := by decide +kernel
theorem d_MO_frees_29 : decode prog_14_method_59_code 29 = .ok (.ireturn, 1) := by decide +kernel
theorem d_MO_frees_30 : decode prog_14_method_59_code 30 = .ok (.aload_n 0, 1) := by decide +kernel
theorem d_MO_frees_31 : decode prog_14_method_59_code 31 = .ok (.iload_n 2, 1) := by decide +kernel
theorem d_MO_frees_32 : decode prog_14_method_59_code 32 = .ok (.invokevirtual 241, 3) := by decide +kernel
theorem d_MO_frees_35 : decode prog_14_method_59_code 35 = .ok (.aload_n 0, 1) := by decide +kernel
theorem d_MO_frees_36 : decode prog_14_method_59_code 36 = .ok (.getfield 64, 3) := by decide +kernel
theorem d_MO_frees_39 : decode prog_14_method_59_code 39 = .ok (.iload_n 1, 1) := by decide +kernel
theorem d_MO_frees_40 : decode prog_14_method_59_code 40 = .ok (.iaload, 1) := by decide +kernel
theorem d_MO_frees_41 : decode prog_14_method_59_code 41 = .ok (.ifCond .ne 7, 3) := by decide +kernel
theorem d_MO_frees_44 : decode prog_14_method_59_code 44 = .ok (.iconst 1, 1) := by decide +kernel
theorem d_MO_frees_45 : decode prog_14_method_59_code 45 = .ok (.goto 4, 3) := by decide +kernel
theorem d_MO_frees_48 : decode prog_14_method_59_code 48 = .ok (.iconst 0, 1) := by decide +kernel
theorem d_MO_frees_49 : decode prog_14_method_59_code 49 = .ok (.istore 4, 2) := by decide +kernel
theorem d_MO_frees_51 : decode prog_14_method_59_code 51 = .ok (.iconst (-1), 1) := by decide +kernel
theorem d_MO_frees_52 : decode prog_14_method_59_code 52 = .ok (.istore 5, 2) := by decide +kernel
theorem d_MO_frees_54 : decode prog_14_method_59_code 54 = .ok (.iconst 0, 1) := by decide +kernel
theorem d_MO_frees_55 : decode prog_14_method_59_code 55 = .ok (.istore 6, 2) := by decide +kernel
theorem d_MO_frees_57 : decode prog_14_method_59_code 57 = .ok (.aload_n 0, 1) := by decide +kernel
theorem d_MO_frees_58 : decode prog_14_method_59_code 58 = .ok (.invokevirtual 256, 3) := by decide +kernel
theorem d_MO_frees_61 : decode prog_14_method_59_code 61 = .ok (.iconst 0, 1) := by decide +kernel
theorem d_MO_frees_62 : decode prog_14_method_59_code 62 = .ok (.istore 7, 2) := by decide +kernel
theorem d_MO_frees_64 : decode prog_14_method_59_code 64 = .ok (.iload 7, 2) := by decide +kernel
theorem d_MO_frees_66 : decode prog_14_method_59_code 66 = .ok (.aload_n 0, 1) := by decide +kernel
theorem d_MO_frees_67 : decode prog_14_method_59_code 67 = .ok (.getfield 90, 3) := by decide +kernel
theorem d_MO_frees_70 : decode prog_14_method_59_code 70 = .ok (.if_icmp .ge 96, 3) := by decide +kernel
theorem d_MO_frees_73 : decode prog_14_method_59_code 73 = .ok (.iload 4, 2) := by decide +kernel
theorem d_MO_frees_75 : decode prog_14_method_59_code 75 = .ok (.ifCond .ne 91, 3) := by decide +kernel
theorem d_MO_frees_78 : decode prog_14_method_59_code 78 = .ok (.aload_n 0, 1) := by decide +kernel
theorem d_MO_frees_79 : decode prog_14_method_59_code 79 = .ok (.iload 7, 2) := by decide +kernel
theorem d_MO_frees_81 : decode prog_14_method_59_code 81 = .ok (.invokevirtual 97, 3) := by decide +kernel
theorem d_MO_frees_84 : decode prog_14_method_59_code 84 = .ok (.ifCond .eq 76, 3) := by decide +kernel
theorem d_MO_frees_87 : decode prog_14_method_59_code 87 = .ok (.aload_n 0, 1) := by decide +kernel
theorem d_MO_frees_88 : decode prog_14_method_59_code 88 = .ok (.getfield 25, 3) := by decide +kernel
theorem d_MO_frees_91 : decode prog_14_method_59_code 91 = .ok (.iload 7, 2) := by decide +kernel
theorem d_MO_frees_93 : decode prog_14_method_59_code 93 = .ok (.iaload, 1) := by decide +kernel
theorem d_MO_frees_94 : decode prog_14_method_59_code 94 = .ok (.istore 8, 2) := by decide +kernel
theorem d_MO_frees_96 : decode prog_14_method_59_code 96 = .ok (.aload_n 0, 1) := by decide +kernel
theorem d_MO_frees_97 : decode prog_14_method_59_code 97 = .ok (.iload 7, 2) := by decide +kernel
theorem d_MO_frees_99 : decode prog_14_method_59_code 99 = .ok (.invokevirtual 192, 3) := by decide +kernel
theorem d_MO_frees_102 : decode prog_14_method_59_code 102 = .ok (.aload_n 0, 1) := by decide +kernel
theorem d_MO_frees_103 : decode prog_14_method_59_code 103 = .ok (.iload_n 2, 1) := by decide +kernel
theorem d_MO_frees_104 : decode prog_14_method_59_code 104 = .ok (.invokevirtual 241, 3) := by decide +kernel
theorem d_MO_frees_107 : decode prog_14_method_59_code 107 = .ok (.aload_n 0, 1) := by decide +kernel
theorem d_MO_frees_108 : decode prog_14_method_59_code 108 = .ok (.invokevirtual 259, 3) := by decide +kernel
theorem d_MO_frees_111 : decode prog_14_method_59_code 111 = .ok (.aload_n 0, 1) := by decide +kernel
theorem d_MO_frees_112 : decode prog_14_method_59_code 112 = .ok (.getfield 64, 3) := by decide +kernel
theorem d_MO_frees_115 : decode prog_14_method_59_code 115 = .ok (.iload_n 1, 1) := by decide +kernel
theorem d_MO_frees_116 : decode prog_14_method_59_code 116 = .ok (.iaload, 1) := by decide +kernel
theorem d_MO_frees_117 : decode prog_14_method_59_code 117 = .ok (.ifCond .ne 20, 3) := by decide +kernel
theorem d_MO_frees_120 : decode prog_14_method_59_code 120 = .ok (.iload 5, 2) := by decide +kernel
theorem d_MO_frees_122 : decode prog_14_method_59_code 122 = .ok (.iconst (-1), 1) := by decide +kernel
theorem d_MO_frees_123 : decode prog_14_method_59_code 123 = .ok (.if_icmp .ne 14, 3) := by decide +kernel
theorem d_MO_frees_126 : decode prog_14_method_59_code 126 = .ok (.bipush 10, 2) := by decide +kernel
theorem d_MO_frees_128 : decode prog_14_method_59_code 128 = .ok (.iload 7, 2) := by decide +kernel
theorem d_MO_frees_130 : decode prog_14_method_59_code 130 = .ok (.imul, 1) := by decide +kernel
theorem d_MO_frees_131 : decode prog_14_method_59_code 131 = .ok (.iload 8, 2) := by decide +kernel
theorem d_MO_frees_133 : decode prog_14_method_59_code 133 = .ok (.iadd, 1) := by decide +kernel
theorem d_MO_frees_134 : decode prog_14_method_59_code 134 = .ok (.goto 5, 3) := by decide +kernel
theorem d_MO_frees_137 : decode prog_14_method_59_code 137 = .ok (.iload 5, 2) := by decide +kernel
theorem d_MO_frees_139 : decode prog_14_method_59_code 139 = .ok (.istore 5, 2) := by decide +kernel
theorem d_MO_frees_141 : decode prog_14_method_59_code 141 = .ok (.iload 6, 2) := by decide +kernel
theorem d_MO_frees_143 : decode prog_14_method_59_code 143 = .ok (.aload_n 0, 1) := by decide +kernel
theorem d_MO_frees_144 : decode prog_14_method_59_code 144 = .ok (.getfield 64, 3) := by decide +kernel
theorem d_MO_frees_147 : decode prog_14_method_59_code 147 = .ok (.iload_n 1, 1) := by decide +kernel
theorem d_MO_frees_148 : decode prog_14_method_59_code 148 = .ok (.iaload, 1) := by decide +kernel
theorem d_MO_frees_149 : decode prog_14_method_59_code 149 = .ok (.ifCond .ne 7, 3) := by decide +kernel
theorem d_MO_frees_152 : decode prog_14_method_59_code 152 = .ok (.iconst 1, 1) := by decide +kernel
theorem d_MO_frees_153 : decode prog_14_method_59_code 153 = .ok (.goto 4, 3) := by decide +kernel
theorem d_MO_frees_156 : decode prog_14_method_59_code 156 = .ok (.iconst 0, 1) := by decide +kernel
theorem d_MO_frees_157 : decode prog_14_method_59_code 157 = .ok (.iadd, 1) := by decide +kernel
theorem d_MO_frees_158 : decode prog_14_method_59_code 158 = .ok (.istore 6, 2) := by decide +kernel
theorem d_MO_frees_160 : decode prog_14_method_59_code 160 = .ok (.iinc 7 1, 3) := by decide +kernel
theorem d_MO_frees_163 : decode prog_14_method_59_code 163 = .ok (.goto (-99), 3) := by decide +kernel
theorem d_MO_frees_166 : decode prog_14_method_59_code 166 = .ok (.iload_n 3, 1) := by decide +kernel
theorem d_MO_frees_167 : decode prog_14_method_59_code 167 = .ok (.ifCond .ne 8, 3) := by decide +kernel
theorem d_MO_frees_170 : decode prog_14_method_59_code 170 = .ok (.iload 5, 2) := by decide +kernel
theorem d_MO_frees_172 : decode prog_14_method_59_code 172 = .ok (.goto 5, 3) := by decide +kernel
theorem d_MO_frees_175 : decode prog_14_method_59_code 175 = .ok (.iload 6, 2) := by decide +kernel
theorem d_MO_frees_177 : decode prog_14_method_59_code 177 = .ok (.ireturn, 1) := by decide +kernel
def p_MO_frees_166 (Q : Int32 → AH → Prop) (x3 : Int32) (x5 : Int32) (x6 : Int32) (h : AH) : Prop := ((¬ x3 = 0 → Q x6 h) ∧ (x3 = 0 → Q x5 h))
def p_MO_frees_160 (Q : Int32 → AH → Prop) (K64 : Int32 → Int32 → Int32 → Int32 → Int32 → Int32 → Int32 → AH → Prop) (x1 : Int32) (x2 : Int32) (x3 : Int32) (x4 : Int32) (x5 : Int32) (x6 : Int32) (x7 : Int32) (h : AH) : Prop := K64 x1 x2 x3 x4 x5 x6 (x7 + 1) h
def p_MO_frees_157 (Q : Int32 → AH → Prop) (K64 : Int32 → Int32 → Int32 → Int32 → Int32 → Int32 → Int32 → AH → Prop) (x1 : Int32) (x2 : Int32) (x3 : Int32) (x4 : Int32) (x5 : Int32) (x7 : Int32) (s0 : Int32) (s1 : Int32) (h : AH) : Prop := p_MO_frees_160 Q  K64 x1 x2 x3 x4 x5 (s0 + s1) x7 h
def p_MO_frees_139 (Q : Int32 → AH → Prop) (K64 : Int32 → Int32 → Int32 → Int32 → Int32 → Int32 → Int32 → AH → Prop) (x1 : Int32) (x2 : Int32) (x3 : Int32) (x4 : Int32) (x6 : Int32) (x7 : Int32) (s0 : Int32) (h : AH) : Prop := inb x1 7 ∧ ((¬ (h.1 78 x1) = 0 → p_MO_frees_157 Q  K64 x1 x2 x3 x4 s0 x7 x6 0 h) ∧ ((h.1 78 x1) = 0 → p_MO_frees_157 Q  K64 x1 x2 x3 x4 s0 x7 x6 1 h))
def p_MO_frees_137 (Q : Int32 → AH → Prop) (K64 : Int32 → Int32 → Int32 → Int32 → Int32 → Int32 → Int32 → AH → Prop) (x1 : Int32) (x2 : Int32) (x3 : Int32) (x4 : Int32) (x5 : Int32) (x6 : Int32) (x7 : Int32) (h : AH) : Prop := p_MO_frees_139 Q  K64 x1 x2 x3 x4 x6 x7 x5 h
def p_MO_frees_64 (Q : Int32 → AH → Prop) : Nat → Int32 → Int32 → Int32 → Int32 → Int32 → Int32 → Int32 → AH → Prop
  | 0 => fun _ _ _ _ _ _ _ _ => False
  | n + 1 => fun x1 x2 x3 x4 x5 x6 x7 h => let K64 := p_MO_frees_64 Q n; (((h.1 59 0) ≤ x7 → p_MO_frees_166 Q   x3 x5 x6 h) ∧ (¬ (h.1 59 0) ≤ x7 → ((¬ x4 = 0 → p_MO_frees_166 Q   x3 x5 x6 h) ∧ (x4 = 0 → p_MO_isLesser (fun r2 h1 => ((r2 = 0 → p_MO_frees_160 Q  K64 x1 x2 x3 x4 x5 x6 x7 h1) ∧ (¬ r2 = 0 → inb x7 7 ∧ p_MO_comesFree (fun h4 => p_MO_lives (fun h5 => p_MO_laysBack (fun h6 => inb x1 7 ∧ ((¬ (h6.1 78 x1) = 0 → p_MO_frees_137 Q  K64 x1 x2 x3 x4 x5 x6 x7 h6) ∧ ((h6.1 78 x1) = 0 → ((¬ x5 = (-1) → p_MO_frees_137 Q  K64 x1 x2 x3 x4 x5 x6 x7 h6) ∧ (x5 = (-1) → p_MO_frees_139 Q  K64 x1 x2 x3 x4 x6 x7 ((10 * x7) + (h1.1 65 x7)) h6))))) h5) x2 h4) x7 h1))) x7 h))))
def p_MO_frees_49 (Q : Int32 → AH → Prop) (x1 : Int32) (x2 : Int32) (x3 : Int32) (s0 : Int32) (h : AH) : Prop := p_MO_keeps (fun h1 => ∃ n, p_MO_frees_64 Q   n x1 x2 x3 s0 (-1) 0 0 h1) h
def p_MO_frees (Q : Int32 → AH → Prop) (x1 : Int32) (x2 : Int32) (x3 : Int32) (h : AH) : Prop := p_MO_isHouse (fun r2 h1 => ((¬ r2 = 0 → p_MO_isMany (fun r4 h3 => ((r4 = 0 → Q (-7) h3) ∧ (¬ r4 = 0 → p_MO_in (fun r6 h5 => ((¬ r6 = 0 → p_MO_lives (fun h7 => inb x1 7 ∧ ((¬ (h7.1 78 x1) = 0 → p_MO_frees_49 Q   x1 x2 x3 0 h7) ∧ ((h7.1 78 x1) = 0 → p_MO_frees_49 Q   x1 x2 x3 1 h7))) x2 h5) ∧ (r6 = 0 → Q (-7) h5))) x3 0 1 h3))) x2 h1) ∧ (r2 = 0 → Q (-5) h1))) x1 h
set_option maxRecDepth 20000 in
theorem r_MO_frees_166 {G : GG} {d : Nat} {Q : Int32 → AH → Prop} (x3 : Int32) (x5 : Int32) (x6 : Int32) (h : AH) (H : p_MO_frees_166 Q x3 x5 x6 h) : Att G T1 m_MO_frees (d + 8) 166 [none, none, none, some (.int x3), none, some (.int x5), some (.int x6), none, none] [] h 0 0 (iQ Q) := by
  refine A_iload_n d_MO_frees_166 rfl ?_
  refine A_if_ne 175 d_MO_frees_167 (by decide) (fun z => ?_) (fun z => ?_)
  · have H := H.1 z
    refine A_iload d_MO_frees_175 rfl ?_
    exact A_iret d_MO_frees_177 rfl rfl H
  · have H := H.2 z
    refine A_iload d_MO_frees_170 rfl ?_
    refine A_goto 177 d_MO_frees_172 (by decide) ?_
    exact A_iret d_MO_frees_177 rfl rfl H
set_option maxRecDepth 20000 in
theorem r_MO_frees_160 {G : GG} {d : Nat} {Q : Int32 → AH → Prop} {K64 : Int32 → Int32 → Int32 → Int32 → Int32 → Int32 → Int32 → AH → Prop} (k64 : ∀ x1 x2 x3 x4 x5 x6 x7 h, K64 x1 x2 x3 x4 x5 x6 x7 h → Att G T1 m_MO_frees (d + 8) 64 [some (.ref 59), some (.int x1), some (.int x2), some (.int x3), some (.int x4), some (.int x5), some (.int x6), some (.int x7), none] [] h 0 0 (iQ Q)) (x1 : Int32) (x2 : Int32) (x3 : Int32) (x4 : Int32) (x5 : Int32) (x6 : Int32) (x7 : Int32) (h : AH) (H : p_MO_frees_160 Q K64 x1 x2 x3 x4 x5 x6 x7 h) : Att G T1 m_MO_frees (d + 8) 160 [some (.ref 59), some (.int x1), some (.int x2), some (.int x3), some (.int x4), some (.int x5), some (.int x6), some (.int x7), none] [] h 0 0 (iQ Q) := by
  refine A_iinc 1 [some (.ref 59), some (.int x1), some (.int x2), some (.int x3), some (.int x4), some (.int x5), some (.int x6), some (.int (x7 + 1)), none] d_MO_frees_160 rfl (by decide) (by decide) rfl rfl ?_
  refine A_goto 64 d_MO_frees_163 (by decide) ?_
  exact k64 _ _ _ _ _ _ _ _ H
set_option maxRecDepth 20000 in
theorem r_MO_frees_157 {G : GG} {d : Nat} {Q : Int32 → AH → Prop} {K64 : Int32 → Int32 → Int32 → Int32 → Int32 → Int32 → Int32 → AH → Prop} (k64 : ∀ x1 x2 x3 x4 x5 x6 x7 h, K64 x1 x2 x3 x4 x5 x6 x7 h → Att G T1 m_MO_frees (d + 8) 64 [some (.ref 59), some (.int x1), some (.int x2), some (.int x3), some (.int x4), some (.int x5), some (.int x6), some (.int x7), none] [] h 0 0 (iQ Q)) (x1 : Int32) (x2 : Int32) (x3 : Int32) (x4 : Int32) (x5 : Int32) (x7 : Int32) (s0 : Int32) (s1 : Int32) (h : AH) (H : p_MO_frees_157 Q K64 x1 x2 x3 x4 x5 x7 s0 s1 h) : Att G T1 m_MO_frees (d + 8) 157 [some (.ref 59), some (.int x1), some (.int x2), some (.int x3), some (.int x4), some (.int x5), none, some (.int x7), none] [.int s1, .int s0] h 0 0 (iQ Q) := by
  refine A_iadd d_MO_frees_157 ?_
  refine A_istore [some (.ref 59), some (.int x1), some (.int x2), some (.int x3), some (.int x4), some (.int x5), some (.int (s0 + s1)), some (.int x7), none] d_MO_frees_158 (by decide) rfl rfl ?_
  exact r_MO_frees_160  k64 _ _ _ _ _ _ _ _ H
set_option maxRecDepth 20000 in
theorem r_MO_frees_139 {G : GG} {d : Nat} {Q : Int32 → AH → Prop} {K64 : Int32 → Int32 → Int32 → Int32 → Int32 → Int32 → Int32 → AH → Prop} (k64 : ∀ x1 x2 x3 x4 x5 x6 x7 h, K64 x1 x2 x3 x4 x5 x6 x7 h → Att G T1 m_MO_frees (d + 8) 64 [some (.ref 59), some (.int x1), some (.int x2), some (.int x3), some (.int x4), some (.int x5), some (.int x6), some (.int x7), none] [] h 0 0 (iQ Q)) (x1 : Int32) (x2 : Int32) (x3 : Int32) (x4 : Int32) (x6 : Int32) (x7 : Int32) (s0 : Int32) (h : AH) (H : p_MO_frees_139 Q K64 x1 x2 x3 x4 x6 x7 s0 h) : Att G T1 m_MO_frees (d + 8) 139 [some (.ref 59), some (.int x1), some (.int x2), some (.int x3), some (.int x4), none, some (.int x6), some (.int x7), none] [.int s0] h 0 0 (iQ Q) := by
  refine A_istore [some (.ref 59), some (.int x1), some (.int x2), some (.int x3), some (.int x4), some (.int s0), some (.int x6), some (.int x7), none] d_MO_frees_139 (by decide) rfl rfl ?_
  refine A_iload d_MO_frees_141 rfl ?_
  refine A_aload_n d_MO_frees_143 rfl ?_
  refine A_get (v := .ref 78) d_MO_frees_144 (fo_MO_64_12 rfl) (vA_s (by decide)) rfl rfl ?_
  refine A_iload_n d_MO_frees_147 rfl ?_
  obtain ⟨c1, H⟩ := H
  refine A_iald (n := 7) d_MO_frees_148 (vA_s (by decide)) rfl c1 ?_
  refine A_if_ne 156 d_MO_frees_149 (by decide) (fun z => ?_) (fun z => ?_)
  · have H := H.1 z
    refine A_iconst 0 (by decide) d_MO_frees_156 ?_
    refine A_sub (L' := [some (.ref 59), some (.int x1), some (.int x2), some (.int x3), some (.int x4), some (.int s0), none, some (.int x7), none]) ⟨rfl, rfl, rfl, rfl, rfl, rfl, rfl, trivial⟩ ?_
    exact r_MO_frees_157  k64 _ _ _ _ _ _ _ _ _ H
  · have H := H.2 z
    refine A_iconst 1 (by decide) d_MO_frees_152 ?_
    refine A_goto 157 d_MO_frees_153 (by decide) ?_
    refine A_sub (L' := [some (.ref 59), some (.int x1), some (.int x2), some (.int x3), some (.int x4), some (.int s0), none, some (.int x7), none]) ⟨rfl, rfl, rfl, rfl, rfl, rfl, rfl, trivial⟩ ?_
    exact r_MO_frees_157  k64 _ _ _ _ _ _ _ _ _ H
set_option maxRecDepth 20000 in
theorem r_MO_frees_137 {G : GG} {d : Nat} {Q : Int32 → AH → Prop} {K64 : Int32 → Int32 → Int32 → Int32 → Int32 → Int32 → Int32 → AH → Prop} (k64 : ∀ x1 x2 x3 x4 x5 x6 x7 h, K64 x1 x2 x3 x4 x5 x6 x7 h → Att G T1 m_MO_frees (d + 8) 64 [some (.ref 59), some (.int x1), some (.int x2), some (.int x3), some (.int x4), some (.int x5), some (.int x6), some (.int x7), none] [] h 0 0 (iQ Q)) (x1 : Int32) (x2 : Int32) (x3 : Int32) (x4 : Int32) (x5 : Int32) (x6 : Int32) (x7 : Int32) (h : AH) (H : p_MO_frees_137 Q K64 x1 x2 x3 x4 x5 x6 x7 h) : Att G T1 m_MO_frees (d + 8) 137 [some (.ref 59), some (.int x1), some (.int x2), some (.int x3), some (.int x4), some (.int x5), some (.int x6), some (.int x7), none] [] h 0 0 (iQ Q) := by
  refine A_iload d_MO_frees_137 rfl ?_
  refine A_sub (L' := [some (.ref 59), some (.int x1), some (.int x2), some (.int x3), some (.int x4), none, some (.int x6), some (.int x7), none]) ⟨rfl, rfl, rfl, rfl, rfl, rfl, rfl, trivial⟩ ?_
  exact r_MO_frees_139  k64 _ _ _ _ _ _ _ _ H
set_option maxRecDepth 20000 in
theorem r_MO_frees_64 {G : GG} {d : Nat} {Q : Int32 → AH → Prop} : ∀ (n : Nat) (x1 : Int32) (x2 : Int32) (x3 : Int32) (x4 : Int32) (x5 : Int32) (x6 : Int32) (x7 : Int32) (h : AH), p_MO_frees_64 Q n x1 x2 x3 x4 x5 x6 x7 h → Att G T1 m_MO_frees (d + 8) 64 [some (.ref 59), some (.int x1), some (.int x2), some (.int x3), some (.int x4), some (.int x5), some (.int x6), some (.int x7), none] [] h 0 0 (iQ Q) := by
  intro n
  induction n with
  | zero => intro x1 x2 x3 x4 x5 x6 x7 h H; exact H.elim
  | succ n k64 =>
    intro x1 x2 x3 x4 x5 x6 x7 h H
    refine A_iload d_MO_frees_64 rfl ?_
    refine A_aload_n d_MO_frees_66 rfl ?_
    refine A_get (v := .int (h.1 59 0)) d_MO_frees_67 (fo_MO_90_12 rfl) (vA_s (by decide)) rfl rfl ?_
    refine A_icmp_ge 166 d_MO_frees_70 (by decide) (fun z => ?_) (fun z => ?_)
    · have H := H.1 z
      refine A_sub (L' := [none, none, none, some (.int x3), none, some (.int x5), some (.int x6), none, none]) ⟨rfl, rfl, rfl, trivial⟩ ?_
      exact r_MO_frees_166   _ _ _ _ H
    · have H := H.2 z
      refine A_iload d_MO_frees_73 rfl ?_
      refine A_if_ne 166 d_MO_frees_75 (by decide) (fun z => ?_) (fun z => ?_)
      · have H := H.1 z
        refine A_sub (L' := [none, none, none, some (.int x3), none, some (.int x5), some (.int x6), none, none]) ⟨rfl, rfl, rfl, trivial⟩ ?_
        exact r_MO_frees_166   _ _ _ _ H
      · have H := H.2 z
        refine A_aload_n d_MO_frees_78 rfl ?_
        refine A_iload d_MO_frees_79 rfl ?_
        refine A_cI [.ref 59, .int x7] [] (ct_MO_97 rfl) d_MO_frees_81 rfl rfl (by decide) (Nat.le_of_ble_eq_true rfl) (rcA_o (c := 12) rfl (vA_s (by decide)) rfl (by decide) rfl) (ok_MO_isLesser (d := d + 7) H) (fun r2 h1 H => ?_)
        refine A_if_eq 160 d_MO_frees_84 (by decide) (fun z => ?_) (fun z => ?_)
        · have H := H.1 z
          exact r_MO_frees_160  k64 _ _ _ _ _ _ _ _ H
        · have H := H.2 z
          refine A_aload_n d_MO_frees_87 rfl ?_
          refine A_get (v := .ref 65) d_MO_frees_88 (fo_MO_25_12 rfl) (vA_s (by decide)) rfl rfl ?_
          refine A_iload d_MO_frees_91 rfl ?_
          obtain ⟨c3, H⟩ := H
          refine A_iald (n := 7) d_MO_frees_93 (vA_s (by decide)) rfl c3 ?_
          refine A_istore [some (.ref 59), some (.int x1), some (.int x2), some (.int x3), some (.int x4), some (.int x5), some (.int x6), some (.int x7), some (.int (h1.1 65 x7))] d_MO_frees_94 (by decide) rfl rfl ?_
          refine A_aload_n d_MO_frees_96 rfl ?_
          refine A_iload d_MO_frees_97 rfl ?_
          refine A_cV [.ref 59, .int x7] [] (ct_MO_192 rfl) d_MO_frees_99 rfl rfl (by decide) (Nat.le_of_ble_eq_true rfl) (rcA_o (c := 12) rfl (vA_s (by decide)) rfl (by decide) rfl) (ok_MO_comesFree (d := d + 7) H) (fun h4 H => ?_)
          refine A_aload_n d_MO_frees_102 rfl ?_
          refine A_iload_n d_MO_frees_103 rfl ?_
          refine A_cV [.ref 59, .int x2] [] (ct_MO_241 rfl) d_MO_frees_104 rfl rfl (by decide) (Nat.le_of_ble_eq_true rfl) (rcA_o (c := 12) rfl (vA_s (by decide)) rfl (by decide) rfl) (ok_MO_lives (d := d) H) (fun h5 H => ?_)
          refine A_aload_n d_MO_frees_107 rfl ?_
          refine A_cV [.ref 59] [] (ct_MO_259 rfl) d_MO_frees_108 rfl rfl (by decide) (Nat.le_of_ble_eq_true rfl) (rcA_o (c := 12) rfl (vA_s (by decide)) rfl (by decide) rfl) (ok_MO_laysBack (d := d + 7) H) (fun h6 H => ?_)
          refine A_aload_n d_MO_frees_111 rfl ?_
          refine A_get (v := .ref 78) d_MO_frees_112 (fo_MO_64_12 rfl) (vA_s (by decide)) rfl rfl ?_
          refine A_iload_n d_MO_frees_115 rfl ?_
          obtain ⟨c7, H⟩ := H
          refine A_iald (n := 7) d_MO_frees_116 (vA_s (by decide)) rfl c7 ?_
          refine A_if_ne 137 d_MO_frees_117 (by decide) (fun z => ?_) (fun z => ?_)
          · have H := H.1 z
            refine A_sub (L' := [some (.ref 59), some (.int x1), some (.int x2), some (.int x3), some (.int x4), some (.int x5), some (.int x6), some (.int x7), none]) ⟨rfl, rfl, rfl, rfl, rfl, rfl, rfl, rfl, trivial⟩ ?_
            exact r_MO_frees_137  k64 _ _ _ _ _ _ _ _ H
          · have H := H.2 z
            refine A_iload d_MO_frees_120 rfl ?_
            refine A_iconst (-1) (by decide) d_MO_frees_122 ?_
            refine A_icmp_ne 137 d_MO_frees_123 (by decide) (fun z => ?_) (fun z => ?_)
            · have H := H.1 z
              refine A_sub (L' := [some (.ref 59), some (.int x1), some (.int x2), some (.int x3), some (.int x4), some (.int x5), some (.int x6), some (.int x7), none]) ⟨rfl, rfl, rfl, rfl, rfl, rfl, rfl, rfl, trivial⟩ ?_
              exact r_MO_frees_137  k64 _ _ _ _ _ _ _ _ H
            · have H := H.2 z
              refine A_bipush 10 (by decide) d_MO_frees_126 ?_
              refine A_iload d_MO_frees_128 rfl ?_
              refine A_imul d_MO_frees_130 ?_
              refine A_iload d_MO_frees_131 rfl ?_
              refine A_iadd d_MO_frees_133 ?_
              refine A_goto 139 d_MO_frees_134 (by decide) ?_
              refine A_sub (L' := [some (.ref 59), some (.int x1), some (.int x2), some (.int x3), some (.int x4), none, some (.int x6), some (.int x7), none]) ⟨rfl, rfl, rfl, rfl, rfl, rfl, rfl, trivial⟩ ?_
              exact r_MO_frees_139  k64 _ _ _ _ _ _ _ _ H
set_option maxRecDepth 20000 in
theorem r_MO_frees_49 {G : GG} {d : Nat} {Q : Int32 → AH → Prop} (x1 : Int32) (x2 : Int32) (x3 : Int32) (s0 : Int32) (h : AH) (H : p_MO_frees_49 Q x1 x2 x3 s0 h) : Att G T1 m_MO_frees (d + 8) 49 [some (.ref 59), some (.int x1), some (.int x2), some (.int x3), none, none, none, none, none] [.int s0] h 0 0 (iQ Q) := by
  refine A_istore [some (.ref 59), some (.int x1), some (.int x2), some (.int x3), some (.int s0), none, none, none, none] d_MO_frees_49 (by decide) rfl rfl ?_
  refine A_iconst (-1) (by decide) d_MO_frees_51 ?_
  refine A_istore [some (.ref 59), some (.int x1), some (.int x2), some (.int x3), some (.int s0), some (.int (-1)), none, none, none] d_MO_frees_52 (by decide) rfl rfl ?_
  refine A_iconst 0 (by decide) d_MO_frees_54 ?_
  refine A_istore [some (.ref 59), some (.int x1), some (.int x2), some (.int x3), some (.int s0), some (.int (-1)), some (.int 0), none, none] d_MO_frees_55 (by decide) rfl rfl ?_
  refine A_aload_n d_MO_frees_57 rfl ?_
  refine A_cV [.ref 59] [] (ct_MO_256 rfl) d_MO_frees_58 rfl rfl (by decide) (Nat.le_of_ble_eq_true rfl) (rcA_o (c := 12) rfl (vA_s (by decide)) rfl (by decide) rfl) (ok_MO_keeps (d := d + 7) H) (fun h1 H => ?_)
  refine A_iconst 0 (by decide) d_MO_frees_61 ?_
  refine A_istore [some (.ref 59), some (.int x1), some (.int x2), some (.int x3), some (.int s0), some (.int (-1)), some (.int 0), some (.int 0), none] d_MO_frees_62 (by decide) rfl rfl ?_
  obtain ⟨n9, H⟩ := H
  exact r_MO_frees_64   n9 _ _ _ _ _ _ _ _ H
set_option maxRecDepth 20000 in
theorem r_MO_frees_0 {G : GG} {d : Nat} {Q : Int32 → AH → Prop} (x1 : Int32) (x2 : Int32) (x3 : Int32) (h : AH) (H : p_MO_frees Q x1 x2 x3 h) : Att G T1 m_MO_frees (d + 8) 0 [some (.ref 59), some (.int x1), some (.int x2), some (.int x3), none, none, none, none, none] [] h 0 0 (iQ Q) := by
  refine A_aload_n d_MO_frees_0 rfl ?_
  refine A_iload_n d_MO_frees_1 rfl ?_
  refine A_cI [.ref 59, .int x1] [] (ct_MO_182 rfl) d_MO_frees_2 rfl rfl (by decide) (Nat.le_of_ble_eq_true rfl) (rcA_o (c := 12) rfl (vA_s (by decide)) rfl (by decide) rfl) (ok_MO_isHouse (d := d + 6) H) (fun r2 h1 H => ?_)
  refine A_if_ne 11 d_MO_frees_5 (by decide) (fun z => ?_) (fun z => ?_)
  · have H := H.1 z
    refine A_iload_n d_MO_frees_11 rfl ?_
    refine A_cI [.int x2] [] (ct_MO_185 rfl) d_MO_frees_12 rfl rfl (by decide) (Nat.le_of_ble_eq_true rfl) trivial (ok_MO_isMany (d := d + 6) H) (fun r4 h3 H => ?_)
    refine A_if_eq 27 d_MO_frees_15 (by decide) (fun z => ?_) (fun z => ?_)
    · have H := H.1 z
      refine A_bipush (-7) (by decide) d_MO_frees_27 ?_
      exact A_iret d_MO_frees_29 rfl rfl H
    · have H := H.2 z
      refine A_iload_n d_MO_frees_18 rfl ?_
      refine A_iconst 0 (by decide) d_MO_frees_19 ?_
      refine A_iconst 1 (by decide) d_MO_frees_20 ?_
      refine A_cI [.int x3, .int 0, .int 1] [] (ct_MO_93 rfl) d_MO_frees_21 rfl rfl (by decide) (Nat.le_of_ble_eq_true rfl) trivial (ok_MO_in (d := d + 7) H) (fun r6 h5 H => ?_)
      refine A_if_ne 30 d_MO_frees_24 (by decide) (fun z => ?_) (fun z => ?_)
      · have H := H.1 z
        refine A_aload_n d_MO_frees_30 rfl ?_
        refine A_iload_n d_MO_frees_31 rfl ?_
        refine A_cV [.ref 59, .int x2] [] (ct_MO_241 rfl) d_MO_frees_32 rfl rfl (by decide) (Nat.le_of_ble_eq_true rfl) (rcA_o (c := 12) rfl (vA_s (by decide)) rfl (by decide) rfl) (ok_MO_lives (d := d) H) (fun h7 H => ?_)
        refine A_aload_n d_MO_frees_35 rfl ?_
        refine A_get (v := .ref 78) d_MO_frees_36 (fo_MO_64_12 rfl) (vA_s (by decide)) rfl rfl ?_
        refine A_iload_n d_MO_frees_39 rfl ?_
        obtain ⟨c8, H⟩ := H
        refine A_iald (n := 7) d_MO_frees_40 (vA_s (by decide)) rfl c8 ?_
        refine A_if_ne 48 d_MO_frees_41 (by decide) (fun z => ?_) (fun z => ?_)
        · have H := H.1 z
          refine A_iconst 0 (by decide) d_MO_frees_48 ?_
          exact r_MO_frees_49   _ _ _ _ _ H
        · have H := H.2 z
          refine A_iconst 1 (by decide) d_MO_frees_44 ?_
          refine A_goto 49 d_MO_frees_45 (by decide) ?_
          exact r_MO_frees_49   _ _ _ _ _ H
      · have H := H.2 z
        refine A_bipush (-7) (by decide) d_MO_frees_27 ?_
        exact A_iret d_MO_frees_29 rfl rfl H
  · have H := H.2 z
    refine A_bipush (-5) (by decide) d_MO_frees_8 ?_
    exact A_iret d_MO_frees_10 rfl rfl H
set_option maxRecDepth 20000 in
theorem ok_MO_frees {G : GG} {d : Nat} {Q : Int32 → AH → Prop} {x1 : Int32} {x2 : Int32} {x3 : Int32} {h : AH} (H : p_MO_frees Q x1 x2 x3 h) : WP G T1 m_MO_frees (d + 8) [.ref 59, .int x1, .int x2, .int x3] h 0 0 (iQ Q) := by
  exact WP.enter 5 (by decide) rfl rfl (r_MO_frees_0 x1 x2 x3 h H)
theorem d_MO_night_0 : decode prog_14_method_61_code 0 = .ok (.iload_n 1, 1) := by decide +kernel
theorem d_MO_night_1 : decode prog_14_method_61_code 1 = .ok (.invokestatic 185, 3) := by decide +kernel
theorem d_MO_night_4 : decode prog_14_method_61_code 4 = .ok (.ifCond .ne 6, 3) := by decide +kernel
theorem d_MO_night_7 : decode prog_14_method_61_code 7 = .ok (.bipush (-2), 2) := by decide +kernel
theorem d_MO_night_9 : decode prog_14_method_61_code 9 = .ok (.ireturn, 1) := by decide +kernel
theorem d_MO_night_10 : decode prog_14_method_61_code 10 = .ok (.aload_n 0, 1) := by decide +kernel
theorem d_MO_night_11 : decode prog_14_method_61_code 11 = .ok (.iload_n 1, 1) := by decide +kernel
theorem d_MO_night_12 : decode prog_14_method_61_code 12 = .ok (.invokevirtual 241, 3) := by decide +kernel
theorem d_MO_night_15 : decode prog_14_method_61_code 15 = .ok (.iconst 0, 1) := by decide +kernel
theorem d_MO_night_16 : decode prog_14_method_61_code 16 = .ok (.istore_n 2, 1) := by decide +kernel
theorem d_MO_night_17 : decode prog_14_method_61_code 17 = .ok (.iload_n 2, 1) := by decide +kernel
theorem d_MO_night_18 : decode prog_14_method_61_code 18 = .ok (.aload_n 0, 1) := by decide +kernel
theorem d_MO_night_19 : decode prog_14_method_61_code 19 = .ok (.getfield 90, 3) := by decide +kernel
theorem d_MO_night_22 : decode prog_14_method_61_code 22 = .ok (.if_icmp .ge 21, 3) := by decide +kernel
theorem d_MO_night_25 : decode prog_14_method_61_code 25 = .ok (.aload_n 0, 1) := by decide +kernel
theorem d_MO_night_26 : decode prog_14_method_61_code 26 = .ok (.getfield 19, 3) := by decide +kernel
theorem d_MO_night_29 : decode prog_14_method_61_code 29 = .ok (.iload_n 2, 1) := by decide +kernel
theorem d_MO_night_30 : decode prog_14_method_61_code 30 = .ok (.aload_n 0, 1) := by decide +kernel
theorem d_MO_night_31 : decode prog_14_method_61_code 31 = .ok (.getfield 64, 3) := by decide +kernel
theorem d_MO_night_34 : decode prog_14_method_61_code 34 = .ok (.iload_n 2, 1) := by decide +kernel
theorem d_MO_night_35 : decode prog_14_method_61_code 35 = .ok (.iaload, 1) := by decide +kernel
theorem d_MO_night_36 : decode prog_14_method_61_code 36 = .ok (.iastore, 1) := by decide +kernel
theorem d_MO_night_37 : decode prog_14_method_61_code 37 = .ok (.iinc 2 1, 3) := by decide +kernel
theorem d_MO_night_40 : decode prog_14_method_61_code 40 = .ok (.goto (-23), 3) := by decide +kernel
theorem d_MO_night_43 : decode prog_14_method_61_code 43 = .ok (.aload_n 0, 1) := by decide +kernel
theorem d_MO_night_44 : decode prog_14_method_61_code 44 = .ok (.invokevirtual 250, 3) := by decide +kernel
theorem d_MO_night_47 : decode prog_14_method_61_code 47 = .ok (.ireturn, 1) := by decide +kernel
def p_MO_night_17 (Q : Int32 → AH → Prop) : Nat → Int32 → AH → Prop
  | 0 => fun _ _ => False
  | n + 1 => fun x2 h => let K17 := p_MO_night_17 Q n; (((h.1 59 0) ≤ x2 → p_MO_downNow (fun r2 h1 => Q r2 h1) h) ∧ (¬ (h.1 59 0) ≤ x2 → inb x2 7 ∧ K17 (x2 + 1) (wI h 63 x2 (h.1 78 x2))))
def p_MO_night (Q : Int32 → AH → Prop) (x1 : Int32) (h : AH) : Prop := p_MO_isMany (fun r2 h1 => ((¬ r2 = 0 → p_MO_lives (fun h3 => ∃ n, p_MO_night_17 Q   n 0 h3) x1 h1) ∧ (r2 = 0 → Q (-2) h1))) x1 h
set_option maxRecDepth 20000 in
theorem r_MO_night_17 {G : GG} {d : Nat} {Q : Int32 → AH → Prop} : ∀ (n : Nat) (x2 : Int32) (h : AH), p_MO_night_17 Q n x2 h → Att G T1 m_MO_night (d + 8) 17 [some (.ref 59), none, some (.int x2)] [] h 0 0 (iQ Q) := by
  intro n
  induction n with
  | zero => intro x2 h H; exact H.elim
  | succ n k17 =>
    intro x2 h H
    refine A_iload_n d_MO_night_17 rfl ?_
    refine A_aload_n d_MO_night_18 rfl ?_
    refine A_get (v := .int (h.1 59 0)) d_MO_night_19 (fo_MO_90_12 rfl) (vA_s (by decide)) rfl rfl ?_
    refine A_icmp_ge 43 d_MO_night_22 (by decide) (fun z => ?_) (fun z => ?_)
    · have H := H.1 z
      refine A_aload_n d_MO_night_43 rfl ?_
      refine A_cI [.ref 59] [] (ct_MO_250 rfl) d_MO_night_44 rfl rfl (by decide) (Nat.le_of_ble_eq_true rfl) (rcA_o (c := 12) rfl (vA_s (by decide)) rfl (by decide) rfl) (ok_MO_downNow (d := d + 7) H) (fun r2 h1 H => ?_)
      exact A_iret d_MO_night_47 rfl rfl H
    · have H := H.2 z
      refine A_aload_n d_MO_night_25 rfl ?_
      refine A_get (v := .ref 63) d_MO_night_26 (fo_MO_19_12 rfl) (vA_s (by decide)) rfl rfl ?_
      refine A_iload_n d_MO_night_29 rfl ?_
      refine A_aload_n d_MO_night_30 rfl ?_
      refine A_get (v := .ref 78) d_MO_night_31 (fo_MO_64_12 rfl) (vA_s (by decide)) rfl rfl ?_
      refine A_iload_n d_MO_night_34 rfl ?_
      obtain ⟨c3, H⟩ := H
      refine A_iald (n := 7) d_MO_night_35 (vA_s (by decide)) rfl c3 ?_
      refine A_iast (n := 7) d_MO_night_36 (vA_s (by decide)) rfl c3 ?_
      refine A_iinc 1 [some (.ref 59), none, some (.int (x2 + 1))] d_MO_night_37 rfl (by decide) (by decide) rfl rfl ?_
      refine A_goto 17 d_MO_night_40 (by decide) ?_
      exact k17 _ _ H
set_option maxRecDepth 20000 in
theorem r_MO_night_0 {G : GG} {d : Nat} {Q : Int32 → AH → Prop} (x1 : Int32) (h : AH) (H : p_MO_night Q x1 h) : Att G T1 m_MO_night (d + 8) 0 [some (.ref 59), some (.int x1), none] [] h 0 0 (iQ Q) := by
  refine A_iload_n d_MO_night_0 rfl ?_
  refine A_cI [.int x1] [] (ct_MO_185 rfl) d_MO_night_1 rfl rfl (by decide) (Nat.le_of_ble_eq_true rfl) trivial (ok_MO_isMany (d := d + 6) H) (fun r2 h1 H => ?_)
  refine A_if_ne 10 d_MO_night_4 (by decide) (fun z => ?_) (fun z => ?_)
  · have H := H.1 z
    refine A_aload_n d_MO_night_10 rfl ?_
    refine A_iload_n d_MO_night_11 rfl ?_
    refine A_cV [.ref 59, .int x1] [] (ct_MO_241 rfl) d_MO_night_12 rfl rfl (by decide) (Nat.le_of_ble_eq_true rfl) (rcA_o (c := 12) rfl (vA_s (by decide)) rfl (by decide) rfl) (ok_MO_lives (d := d) H) (fun h3 H => ?_)
    refine A_iconst 0 (by decide) d_MO_night_15 ?_
    refine A_istore_n [some (.ref 59), some (.int x1), some (.int 0)] d_MO_night_16 (by decide) rfl rfl ?_
    refine A_sub (L' := [some (.ref 59), none, some (.int 0)]) ⟨rfl, rfl, trivial⟩ ?_
    obtain ⟨n9, H⟩ := H
    exact r_MO_night_17   n9 _ _ H
  · have H := H.2 z
    refine A_bipush (-2) (by decide) d_MO_night_7 ?_
    exact A_iret d_MO_night_9 rfl rfl H
set_option maxRecDepth 20000 in
theorem ok_MO_night {G : GG} {d : Nat} {Q : Int32 → AH → Prop} {x1 : Int32} {h : AH} (H : p_MO_night Q x1 h) : WP G T1 m_MO_night (d + 8) [.ref 59, .int x1] h 0 0 (iQ Q) := by
  exact WP.enter 1 (by decide) rfl rfl (r_MO_night_0 x1 h H)
theorem d_MO_unlike_0 : decode prog_14_method_65_code 0 = .ok (.aload_n 0, 1) := by decide +kernel
theorem d_MO_unlike_1 : decode prog_14_method_65_code 1 = .ok (.iload_n 2, 1) := by decide +kernel
theorem d_MO_unlike_2 : decode prog_14_method_65_code 2 = .ok (.invokevirtual 241, 3) := by decide +kernel
theorem d_MO_unlike_5 : decode prog_14_method_65_code 5 = .ok (.iconst 0, 1) := by decide +kernel
theorem d_MO_unlike_6 : decode prog_14_method_65_code 6 = .ok (.istore_n 3, 1) := by decide +kernel
theorem d_MO_unlike_7 : decode prog_14_method_65_code 7 = .ok (.iload_n 3, 1) := by decide +kernel
theorem d_MO_unlike_8 : decode prog_14_method_65_code 8 = .ok (.aload_n 0, 1) := by decide +kernel
theorem d_MO_unlike_9 : decode prog_14_method_65_code 9 = .ok (.getfield 90, 3) := by decide +kernel
theorem d_MO_unlike_12 : decode prog_14_method_65_code 12 = .ok (.if_icmp .ge 31, 3) := by decide +kernel
theorem d_MO_unlike_15 : decode prog_14_method_65_code 15 = .ok (.aload_n 0, 1) := by decide +kernel
theorem d_MO_unlike_16 : decode prog_14_method_65_code 16 = .ok (.getfield 46, 3) := by decide +kernel
theorem d_MO_unlike_19 : decode prog_14_method_65_code 19 = .ok (.bipush 40, 2) := by decide +kernel
theorem d_MO_unlike_21 : decode prog_14_method_65_code 21 = .ok (.iload_n 1, 1) := by decide +kernel
theorem d_MO_unlike_22 : decode prog_14_method_65_code 22 = .ok (.imul, 1) := by decide +kernel
theorem d_MO_unlike_23 : decode prog_14_method_65_code 23 = .ok (.iload_n 3, 1) := by decide +kernel
theorem d_MO_unlike_24 : decode prog_14_method_65_code 24 = .ok (.iadd, 1) := by decide +kernel
theorem d_MO_unlike_25 : decode prog_14_method_65_code 25 = .ok (.iaload, 1) := by decide +kernel
theorem d_MO_unlike_26 : decode prog_14_method_65_code 26 = .ok (.aload_n 0, 1) := by decide +kernel
theorem d_MO_unlike_27 : decode prog_14_method_65_code 27 = .ok (.getfield 64, 3) := by decide +kernel
theorem d_MO_unlike_30 : decode prog_14_method_65_code 30 = .ok (.iload_n 3, 1) := by decide +kernel
theorem d_MO_unlike_31 : decode prog_14_method_65_code 31 = .ok (.iaload, 1) := by decide +kernel
theorem d_MO_unlike_32 : decode prog_14_method_65_code 32 = .ok (.if_icmp .eq 5, 3) := by decide +kernel
theorem d_MO_unlike_35 : decode prog_14_method_65_code 35 = .ok (.iload_n 3, 1) := by decide +kernel
theorem d_MO_unlike_36 : decode prog_14_method_65_code 36 = .ok (.ireturn, 1) := by decide +kernel
theorem d_MO_unlike_37 : decode prog_14_method_65_code 37 = .ok (.iinc 3 1, 3) := by decide +kernel
theorem d_MO_unlike_40 : decode prog_14_method_65_code 40 = .ok (.goto (-33), 3) := by decide +kernel
theorem d_MO_unlike_43 : decode prog_14_method_65_code 43 = .ok (.iconst (-1), 1) := by decide +kernel
theorem d_MO_unlike_44 : decode prog_14_method_65_code 44 = .ok (.ireturn, 1) := by decide +kernel
def p_MO_unlike_7 (Q : Int32 → AH → Prop) : Nat → Int32 → Int32 → AH → Prop
  | 0 => fun _ _ _ => False
  | n + 1 => fun x1 x3 h => let K7 := p_MO_unlike_7 Q n; (((h.1 59 0) ≤ x3 → Q (-1) h) ∧ (¬ (h.1 59 0) ≤ x3 → inb ((40 * x1) + x3) 160 ∧ inb x3 7 ∧ (((h.1 72 ((40 * x1) + x3)) = (h.1 78 x3) → K7 x1 (x3 + 1) h) ∧ (¬ (h.1 72 ((40 * x1) + x3)) = (h.1 78 x3) → Q x3 h))))
def p_MO_unlike (Q : Int32 → AH → Prop) (x1 : Int32) (x2 : Int32) (h : AH) : Prop := p_MO_lives (fun h1 => ∃ n, p_MO_unlike_7 Q   n x1 0 h1) x2 h
set_option maxRecDepth 20000 in
theorem r_MO_unlike_7 {G : GG} {d : Nat} {Q : Int32 → AH → Prop} : ∀ (n : Nat) (x1 : Int32) (x3 : Int32) (h : AH), p_MO_unlike_7 Q n x1 x3 h → Att G T1 m_MO_unlike (d + 8) 7 [some (.ref 59), some (.int x1), none, some (.int x3)] [] h 0 0 (iQ Q) := by
  intro n
  induction n with
  | zero => intro x1 x3 h H; exact H.elim
  | succ n k7 =>
    intro x1 x3 h H
    refine A_iload_n d_MO_unlike_7 rfl ?_
    refine A_aload_n d_MO_unlike_8 rfl ?_
    refine A_get (v := .int (h.1 59 0)) d_MO_unlike_9 (fo_MO_90_12 rfl) (vA_s (by decide)) rfl rfl ?_
    refine A_icmp_ge 43 d_MO_unlike_12 (by decide) (fun z => ?_) (fun z => ?_)
    · have H := H.1 z
      refine A_iconst (-1) (by decide) d_MO_unlike_43 ?_
      exact A_iret d_MO_unlike_44 rfl rfl H
    · have H := H.2 z
      refine A_aload_n d_MO_unlike_15 rfl ?_
      refine A_get (v := .ref 72) d_MO_unlike_16 (fo_MO_46_12 rfl) (vA_s (by decide)) rfl rfl ?_
      refine A_bipush 40 (by decide) d_MO_unlike_19 ?_
      refine A_iload_n d_MO_unlike_21 rfl ?_
      refine A_imul d_MO_unlike_22 ?_
      refine A_iload_n d_MO_unlike_23 rfl ?_
      refine A_iadd d_MO_unlike_24 ?_
      obtain ⟨c1, H⟩ := H
      refine A_iald (n := 160) d_MO_unlike_25 (vA_s (by decide)) rfl c1 ?_
      refine A_aload_n d_MO_unlike_26 rfl ?_
      refine A_get (v := .ref 78) d_MO_unlike_27 (fo_MO_64_12 rfl) (vA_s (by decide)) rfl rfl ?_
      refine A_iload_n d_MO_unlike_30 rfl ?_
      obtain ⟨c2, H⟩ := H
      refine A_iald (n := 7) d_MO_unlike_31 (vA_s (by decide)) rfl c2 ?_
      refine A_icmp_eq 37 d_MO_unlike_32 (by decide) (fun z => ?_) (fun z => ?_)
      · have H := H.1 z
        refine A_iinc 1 [some (.ref 59), some (.int x1), none, some (.int (x3 + 1))] d_MO_unlike_37 rfl (by decide) (by decide) rfl rfl ?_
        refine A_goto 7 d_MO_unlike_40 (by decide) ?_
        exact k7 _ _ _ H
      · have H := H.2 z
        refine A_iload_n d_MO_unlike_35 rfl ?_
        exact A_iret d_MO_unlike_36 rfl rfl H
set_option maxRecDepth 20000 in
theorem r_MO_unlike_0 {G : GG} {d : Nat} {Q : Int32 → AH → Prop} (x1 : Int32) (x2 : Int32) (h : AH) (H : p_MO_unlike Q x1 x2 h) : Att G T1 m_MO_unlike (d + 8) 0 [some (.ref 59), some (.int x1), some (.int x2), none] [] h 0 0 (iQ Q) := by
  refine A_aload_n d_MO_unlike_0 rfl ?_
  refine A_iload_n d_MO_unlike_1 rfl ?_
  refine A_cV [.ref 59, .int x2] [] (ct_MO_241 rfl) d_MO_unlike_2 rfl rfl (by decide) (Nat.le_of_ble_eq_true rfl) (rcA_o (c := 12) rfl (vA_s (by decide)) rfl (by decide) rfl) (ok_MO_lives (d := d) H) (fun h1 H => ?_)
  refine A_iconst 0 (by decide) d_MO_unlike_5 ?_
  refine A_istore_n [some (.ref 59), some (.int x1), some (.int x2), some (.int 0)] d_MO_unlike_6 (by decide) rfl rfl ?_
  refine A_sub (L' := [some (.ref 59), some (.int x1), none, some (.int 0)]) ⟨rfl, rfl, rfl, trivial⟩ ?_
  obtain ⟨n9, H⟩ := H
  exact r_MO_unlike_7   n9 _ _ _ H
set_option maxRecDepth 20000 in
theorem ok_MO_unlike {G : GG} {d : Nat} {Q : Int32 → AH → Prop} {x1 : Int32} {x2 : Int32} {h : AH} (H : p_MO_unlike Q x1 x2 h) : WP G T1 m_MO_unlike (d + 8) [.ref 59, .int x1, .int x2] h 0 0 (iQ Q) := by
  exact WP.enter 1 (by decide) rfl rfl (r_MO_unlike_0 x1 x2 h H)
theorem d_MO_film_0 : decode prog_14_method_70_code 0 = .ok (.iload_n 1, 1) := by decide +kernel
theorem d_MO_film_1 : decode prog_14_method_70_code 1 = .ok (.iconst 0, 1) := by decide +kernel
theorem d_MO_film_2 : decode prog_14_method_70_code 2 = .ok (.iconst 3, 1) := by decide +kernel
theorem d_MO_film_3 : decode prog_14_method_70_code 3 = .ok (.invokestatic 93, 3) := by decide +kernel
theorem d_MO_film_6 : decode prog_14_method_70_code 6 = .ok (.ifCond .ne 6, 3) := by decide +kernel
theorem d_MO_film_9 : decode prog_14_method_70_code 9 = .ok (.bipush (-2), 2) := by decide +kernel
theorem d_MO_film_11 : decode prog_14_method_70_code 11 = .ok (.ireturn, 1) := by decide +kernel
theorem d_MO_film_12 : decode prog_14_method_70_code 12 = .ok (.iload_n 2, 1) := by decide +kernel
theorem d_MO_film_13 : decode prog_14_method_70_code 13 = .ok (.invokestatic 185, 3) := by decide +kernel
theorem d_MO_film_16 : decode prog_14_method_70_code 16 = .ok (.ifCond .ne 6, 3) := by decide +kernel
theorem d_MO_film_19 : decode prog_14_method_70_code 19 = .ok (.bipush (-7), 2) := by decide +kernel
theorem d_MO_film_21 : decode prog_14_method_70_code 21 = .ok (.ireturn, 1) := by decide +kernel
theorem d_MO_film_22 : decode prog_14_method_70_code 22 = .ok (.aload_n 0, 1) := by decide +kernel
theorem d_MO_film_23 : decode prog_14_method_70_code 23 = .ok (.iload_n 2, 1) := by decide +kernel
theorem d_MO_film_24 : decode prog_14_method_70_code 24 = .ok (.invokevirtual 241, 3) := by decide +kernel
theorem d_MO_film_27 : decode prog_14_method_70_code 27 = .ok (.aload_n 0, 1) := by decide +kernel
theorem d_MO_film_28 : decode prog_14_method_70_code 28 = .ok (.getfield 40, 3) := by decide +kernel
theorem d_MO_film_31 : decode prog_14_method_70_code 31 = .ok (.iload_n 1, 1) := by decide +kernel
theorem d_MO_film_32 : decode prog_14_method_70_code 32 = .ok (.iconst 2, 1) := by decide +kernel
theorem d_MO_film_33 : decode prog_14_method_70_code 33 = .ok (.iastore, 1) := by decide +kernel
theorem d_MO_film_34 : decode prog_14_method_70_code 34 = .ok (.aload_n 0, 1) := by decide +kernel
theorem d_MO_film_35 : decode prog_14_method_70_code 35 = .ok (.getfield 43, 3) := by decide +kernel
theorem d_MO_film_38 : decode prog_14_method_70_code 38 = .ok (.iload_n 1, 1) := by decide +kernel
theorem d_MO_film_39 : decode prog_14_method_70_code 39 = .ok (.aload_n 0, 1) := by decide +kernel
theorem d_MO_film_40 : decode prog_14_method_70_code 40 = .ok (.getfield 90, 3) := by decide +kernel
theorem d_MO_film_43 : decode prog_14_method_70_code 43 = .ok (.iastore, 1) := by decide +kernel
theorem d_MO_film_44 : decode prog_14_method_70_code 44 = .ok (.iconst 0, 1) := by decide +kernel
theorem d_MO_film_45 : decode prog_14_method_70_code 45 = .ok (.istore_n 3, 1) := by decide +kernel
theorem d_MO_film_46 : decode prog_14_method_70_code 46 = .ok (.iload_n 3, 1) := by decide +kernel
theorem d_MO_film_47 : decode prog_14_method_70_code 47 = .ok (.bipush 40, 2) := by decide +kernel
theorem d_MO_film_49 : decode prog_14_method_70_code 49 = .ok (.if_icmp .ge 38, 3) := by decide +kernel
theorem d_MO_film_52 : decode prog_14_method_70_code 52 = .ok (.aload_n 0, 1) := by decide +kernel
theorem d_MO_film_53 : decode prog_14_method_70_code 53 = .ok (.getfield 46, 3) := by decide +kernel
theorem d_MO_film_56 : decode prog_14_method_70_code 56 = .ok (.bipush 40, 2) := by decide +kernel
theorem d_MO_film_58 : decode prog_14_method_70_code 58 = .ok (.iload_n 1, 1) := by decide +kernel
theorem d_MO_film_59 : decode prog_14_method_70_code 59 = .ok (.imul, 1) := by decide +kernel
theorem d_MO_film_60 : decode prog_14_method_70_code 60 = .ok (.iload_n 3, 1) := by decide +kernel
theorem d_MO_film_61 : decode prog_14_method_70_code 61 = .ok (.iadd, 1) := by decide +kernel
theorem d_MO_film_62 : decode prog_14_method_70_code 62 = .ok (.iload_n 3, 1) := by decide +kernel
theorem d_MO_film_63 : decode prog_14_method_70_code 63 = .ok (.aload_n 0, 1) := by decide +kernel
theorem d_MO_film_64 : decode prog_14_method_70_code 64 = .ok (.getfield 90, 3) := by decide +kernel
theorem d_MO_film_67 : decode prog_14_method_70_code 67 = .ok (.if_icmp .ge 12, 3) := by decide +kernel
theorem d_MO_film_70 : decode prog_14_method_70_code 70 = .ok (.aload_n 0, 1) := by decide +kernel
theorem d_MO_film_71 : decode prog_14_method_70_code 71 = .ok (.getfield 64, 3) := by decide +kernel
theorem d_MO_film_74 : decode prog_14_method_70_code 74 = .ok (.iload_n 3, 1) := by decide +kernel
theorem d_MO_film_75 : decode prog_14_method_70_code 75 = .ok (.iaload, 1) := by decide +kernel
theorem d_MO_film_76 : decode prog_14_method_70_code 76 = .ok (.goto 4, 3) := by decide +kernel
theorem d_MO_film_79 : decode prog_14_method_70_code 79 = .ok (.iconst 0, 1) := by decide +kernel
theorem d_MO_film_80 : decode prog_14_method_70_code 80 = .ok (.iastore, 1) := by decide +kernel
theorem d_MO_film_81 : decode prog_14_method_70_code 81 = .ok (.iinc 3 1, 3) := by decide +kernel
theorem d_MO_film_84 : decode prog_14_method_70_code 84 = .ok (.goto (-38), 3) := by decide +kernel
theorem d_MO_film_87 : decode prog_14_method_70_code 87 = .ok (.aload_n 0, 1) := by decide +kernel
theorem d_MO_film_88 : decode prog_14_method_70_code 88 = .ok (.getfield 90, 3) := by decide +kernel
theorem d_MO_film_91 : decode prog_14_method_70_code 91 = .ok (.ireturn, 1) := by decide +kernel
def p_MO_film_80 (Q : Int32 → AH → Prop) (K46 : Int32 → Int32 → AH → Prop) (x1 : Int32) (x3 : Int32) (s1 : Int32) (s2 : Int32) (h : AH) : Prop := inb s1 160 ∧ K46 x1 (x3 + 1) (wI h 72 s1 s2)
def p_MO_film_46 (Q : Int32 → AH → Prop) : Nat → Int32 → Int32 → AH → Prop
  | 0 => fun _ _ _ => False
  | n + 1 => fun x1 x3 h => let K46 := p_MO_film_46 Q n; ((40 ≤ x3 → Q (h.1 59 0) h) ∧ (¬ 40 ≤ x3 → (((h.1 59 0) ≤ x3 → p_MO_film_80 Q  K46 x1 x3 ((40 * x1) + x3) 0 h) ∧ (¬ (h.1 59 0) ≤ x3 → inb x3 7 ∧ p_MO_film_80 Q  K46 x1 x3 ((40 * x1) + x3) (h.1 78 x3) h))))
def p_MO_film (Q : Int32 → AH → Prop) (x1 : Int32) (x2 : Int32) (h : AH) : Prop := p_MO_in (fun r2 h1 => ((¬ r2 = 0 → p_MO_isMany (fun r4 h3 => ((¬ r4 = 0 → p_MO_lives (fun h5 => inb x1 4 ∧ ∃ n, p_MO_film_46 Q   n x1 0 (wI (wI h5 70 x1 2) 71 x1 ((wI h5 70 x1 2).1 59 0))) x2 h3) ∧ (r4 = 0 → Q (-7) h3))) x2 h1) ∧ (r2 = 0 → Q (-2) h1))) x1 0 3 h
set_option maxRecDepth 20000 in
theorem r_MO_film_80 {G : GG} {d : Nat} {Q : Int32 → AH → Prop} {K46 : Int32 → Int32 → AH → Prop} (k46 : ∀ x1 x3 h, K46 x1 x3 h → Att G T1 m_MO_film (d + 8) 46 [some (.ref 59), some (.int x1), none, some (.int x3)] [] h 0 0 (iQ Q)) (x1 : Int32) (x3 : Int32) (s1 : Int32) (s2 : Int32) (h : AH) (H : p_MO_film_80 Q K46 x1 x3 s1 s2 h) : Att G T1 m_MO_film (d + 8) 80 [some (.ref 59), some (.int x1), none, some (.int x3)] [.int s2, .int s1, .ref 72] h 0 0 (iQ Q) := by
  obtain ⟨c1, H⟩ := H
  refine A_iast (n := 160) d_MO_film_80 (vA_s (by decide)) rfl c1 ?_
  refine A_iinc 1 [some (.ref 59), some (.int x1), none, some (.int (x3 + 1))] d_MO_film_81 rfl (by decide) (by decide) rfl rfl ?_
  refine A_goto 46 d_MO_film_84 (by decide) ?_
  exact k46 _ _ _ H
set_option maxRecDepth 20000 in
theorem r_MO_film_46 {G : GG} {d : Nat} {Q : Int32 → AH → Prop} : ∀ (n : Nat) (x1 : Int32) (x3 : Int32) (h : AH), p_MO_film_46 Q n x1 x3 h → Att G T1 m_MO_film (d + 8) 46 [some (.ref 59), some (.int x1), none, some (.int x3)] [] h 0 0 (iQ Q) := by
  intro n
  induction n with
  | zero => intro x1 x3 h H; exact H.elim
  | succ n k46 =>
    intro x1 x3 h H
    refine A_iload_n d_MO_film_46 rfl ?_
    refine A_bipush 40 (by decide) d_MO_film_47 ?_
    refine A_icmp_ge 87 d_MO_film_49 (by decide) (fun z => ?_) (fun z => ?_)
    · have H := H.1 z
      refine A_aload_n d_MO_film_87 rfl ?_
      refine A_get (v := .int (h.1 59 0)) d_MO_film_88 (fo_MO_90_12 rfl) (vA_s (by decide)) rfl rfl ?_
      exact A_iret d_MO_film_91 rfl rfl H
    · have H := H.2 z
      refine A_aload_n d_MO_film_52 rfl ?_
      refine A_get (v := .ref 72) d_MO_film_53 (fo_MO_46_12 rfl) (vA_s (by decide)) rfl rfl ?_
      refine A_bipush 40 (by decide) d_MO_film_56 ?_
      refine A_iload_n d_MO_film_58 rfl ?_
      refine A_imul d_MO_film_59 ?_
      refine A_iload_n d_MO_film_60 rfl ?_
      refine A_iadd d_MO_film_61 ?_
      refine A_iload_n d_MO_film_62 rfl ?_
      refine A_aload_n d_MO_film_63 rfl ?_
      refine A_get (v := .int (h.1 59 0)) d_MO_film_64 (fo_MO_90_12 rfl) (vA_s (by decide)) rfl rfl ?_
      refine A_icmp_ge 79 d_MO_film_67 (by decide) (fun z => ?_) (fun z => ?_)
      · have H := H.1 z
        refine A_iconst 0 (by decide) d_MO_film_79 ?_
        exact r_MO_film_80  k46 _ _ _ _ _ H
      · have H := H.2 z
        refine A_aload_n d_MO_film_70 rfl ?_
        refine A_get (v := .ref 78) d_MO_film_71 (fo_MO_64_12 rfl) (vA_s (by decide)) rfl rfl ?_
        refine A_iload_n d_MO_film_74 rfl ?_
        obtain ⟨c1, H⟩ := H
        refine A_iald (n := 7) d_MO_film_75 (vA_s (by decide)) rfl c1 ?_
        refine A_goto 80 d_MO_film_76 (by decide) ?_
        exact r_MO_film_80  k46 _ _ _ _ _ H
set_option maxRecDepth 20000 in
theorem r_MO_film_0 {G : GG} {d : Nat} {Q : Int32 → AH → Prop} (x1 : Int32) (x2 : Int32) (h : AH) (H : p_MO_film Q x1 x2 h) : Att G T1 m_MO_film (d + 8) 0 [some (.ref 59), some (.int x1), some (.int x2), none] [] h 0 0 (iQ Q) := by
  refine A_iload_n d_MO_film_0 rfl ?_
  refine A_iconst 0 (by decide) d_MO_film_1 ?_
  refine A_iconst 3 (by decide) d_MO_film_2 ?_
  refine A_cI [.int x1, .int 0, .int 3] [] (ct_MO_93 rfl) d_MO_film_3 rfl rfl (by decide) (Nat.le_of_ble_eq_true rfl) trivial (ok_MO_in (d := d + 7) H) (fun r2 h1 H => ?_)
  refine A_if_ne 12 d_MO_film_6 (by decide) (fun z => ?_) (fun z => ?_)
  · have H := H.1 z
    refine A_iload_n d_MO_film_12 rfl ?_
    refine A_cI [.int x2] [] (ct_MO_185 rfl) d_MO_film_13 rfl rfl (by decide) (Nat.le_of_ble_eq_true rfl) trivial (ok_MO_isMany (d := d + 6) H) (fun r4 h3 H => ?_)
    refine A_if_ne 22 d_MO_film_16 (by decide) (fun z => ?_) (fun z => ?_)
    · have H := H.1 z
      refine A_aload_n d_MO_film_22 rfl ?_
      refine A_iload_n d_MO_film_23 rfl ?_
      refine A_cV [.ref 59, .int x2] [] (ct_MO_241 rfl) d_MO_film_24 rfl rfl (by decide) (Nat.le_of_ble_eq_true rfl) (rcA_o (c := 12) rfl (vA_s (by decide)) rfl (by decide) rfl) (ok_MO_lives (d := d) H) (fun h5 H => ?_)
      refine A_aload_n d_MO_film_27 rfl ?_
      refine A_get (v := .ref 70) d_MO_film_28 (fo_MO_40_12 rfl) (vA_s (by decide)) rfl rfl ?_
      refine A_iload_n d_MO_film_31 rfl ?_
      refine A_iconst 2 (by decide) d_MO_film_32 ?_
      obtain ⟨c6, H⟩ := H
      refine A_iast (n := 4) d_MO_film_33 (vA_s (by decide)) rfl c6 ?_
      refine A_aload_n d_MO_film_34 rfl ?_
      refine A_get (v := .ref 71) d_MO_film_35 (fo_MO_43_12 rfl) (vA_s (by decide)) rfl rfl ?_
      refine A_iload_n d_MO_film_38 rfl ?_
      refine A_aload_n d_MO_film_39 rfl ?_
      refine A_get (v := .int ((wI h5 70 x1 2).1 59 0)) d_MO_film_40 (fo_MO_90_12 rfl) (vA_s (by decide)) rfl rfl ?_
      refine A_iast (n := 4) d_MO_film_43 (vA_s (by decide)) rfl c6 ?_
      refine A_iconst 0 (by decide) d_MO_film_44 ?_
      refine A_istore_n [some (.ref 59), some (.int x1), some (.int x2), some (.int 0)] d_MO_film_45 (by decide) rfl rfl ?_
      refine A_sub (L' := [some (.ref 59), some (.int x1), none, some (.int 0)]) ⟨rfl, rfl, rfl, trivial⟩ ?_
      obtain ⟨n9, H⟩ := H
      exact r_MO_film_46   n9 _ _ _ H
    · have H := H.2 z
      refine A_bipush (-7) (by decide) d_MO_film_19 ?_
      exact A_iret d_MO_film_21 rfl rfl H
  · have H := H.2 z
    refine A_bipush (-2) (by decide) d_MO_film_9 ?_
    exact A_iret d_MO_film_11 rfl rfl H
set_option maxRecDepth 20000 in
theorem ok_MO_film {G : GG} {d : Nat} {Q : Int32 → AH → Prop} {x1 : Int32} {x2 : Int32} {h : AH} (H : p_MO_film Q x1 x2 h) : WP G T1 m_MO_film (d + 8) [.ref 59, .int x1, .int x2] h 0 0 (iQ Q) := by
  exact WP.enter 1 (by decide) rfl rfl (r_MO_film_0 x1 x2 h H)
theorem d_MO_drawn_0 : decode prog_14_method_73_code 0 = .ok (.iload_n 1, 1) := by decide +kernel
theorem d_MO_drawn_1 : decode prog_14_method_73_code 1 = .ok (.iload_n 2, 1) := by decide +kernel
theorem d_MO_drawn_2 : decode prog_14_method_73_code 2 = .ok (.iload_n 3, 1) := by decide +kernel
theorem d_MO_drawn_3 : decode prog_14_method_73_code 3 = .ok (.invokestatic 272, 3) := by decide +kernel
theorem d_MO_drawn_6 : decode prog_14_method_73_code 6 = .ok (.ifCond .eq 13, 3) := by decide +kernel
theorem d_MO_drawn_9 : decode prog_14_method_73_code 9 = .ok (.aload_n 0, 1) := by decide +kernel
theorem d_MO_drawn_10 : decode prog_14_method_73_code 10 = .ok (.iload_n 1, 1) := by decide +kernel
theorem d_MO_drawn_11 : decode prog_14_method_73_code 11 = .ok (.iload_n 2, 1) := by decide +kernel
theorem d_MO_drawn_12 : decode prog_14_method_73_code 12 = .ok (.iload_n 3, 1) := by decide +kernel
theorem d_MO_drawn_13 : decode prog_14_method_73_code 13 = .ok (.invokevirtual 275, 3) := by decide +kernel
theorem d_MO_drawn_16 : decode prog_14_method_73_code 16 = .ok (.goto 5, 3) := by decide +kernel
theorem d_MO_drawn_19 : decode prog_14_method_73_code 19 = .ok (.bipush (-2), 2) := by decide +kernel
theorem d_MO_drawn_21 : decode prog_14_method_73_code 21 = .ok (.ireturn, 1) := by decide +kernel
def p_MO_drawn (Q : Int32 → AH → Prop) (x1 : Int32) (x2 : Int32) (x3 : Int32) (h : AH) : Prop := p_MO_isDrawn (fun r2 h1 => ((r2 = 0 → Q (-2) h1) ∧ (¬ r2 = 0 → p_MO_downsBy (fun r4 h3 => Q r4 h3) x1 x2 x3 h1))) x1 x2 x3 h
set_option maxRecDepth 20000 in
theorem r_MO_drawn_0 {G : GG} {d : Nat} {Q : Int32 → AH → Prop} (x1 : Int32) (x2 : Int32) (x3 : Int32) (h : AH) (H : p_MO_drawn Q x1 x2 x3 h) : Att G T1 m_MO_drawn (d + 8) 0 [some (.ref 59), some (.int x1), some (.int x2), some (.int x3)] [] h 0 0 (iQ Q) := by
  refine A_iload_n d_MO_drawn_0 rfl ?_
  refine A_iload_n d_MO_drawn_1 rfl ?_
  refine A_iload_n d_MO_drawn_2 rfl ?_
  refine A_cI [.int x1, .int x2, .int x3] [] (ct_MO_272 rfl) d_MO_drawn_3 rfl rfl (by decide) (Nat.le_of_ble_eq_true rfl) trivial (ok_MO_isDrawn (d := d + 5) H) (fun r2 h1 H => ?_)
  refine A_if_eq 19 d_MO_drawn_6 (by decide) (fun z => ?_) (fun z => ?_)
  · have H := H.1 z
    refine A_bipush (-2) (by decide) d_MO_drawn_19 ?_
    exact A_iret d_MO_drawn_21 rfl rfl H
  · have H := H.2 z
    refine A_aload_n d_MO_drawn_9 rfl ?_
    refine A_iload_n d_MO_drawn_10 rfl ?_
    refine A_iload_n d_MO_drawn_11 rfl ?_
    refine A_iload_n d_MO_drawn_12 rfl ?_
    refine A_cI [.ref 59, .int x1, .int x2, .int x3] [] (ct_MO_275 rfl) d_MO_drawn_13 rfl rfl (by decide) (Nat.le_of_ble_eq_true rfl) (rcA_o (c := 12) rfl (vA_s (by decide)) rfl (by decide) rfl) (ok_MO_downsBy (d := d) H) (fun r4 h3 H => ?_)
    refine A_goto 21 d_MO_drawn_16 (by decide) ?_
    exact A_iret d_MO_drawn_21 rfl rfl H
set_option maxRecDepth 20000 in
theorem ok_MO_drawn {G : GG} {d : Nat} {Q : Int32 → AH → Prop} {x1 : Int32} {x2 : Int32} {x3 : Int32} {h : AH} (H : p_MO_drawn Q x1 x2 x3 h) : WP G T1 m_MO_drawn (d + 8) [.ref 59, .int x1, .int x2, .int x3] h 0 0 (iQ Q) := by
  exact WP.enter 0 (by decide) rfl rfl (r_MO_drawn_0 x1 x2 x3 h H)
theorem d_MO_odds_0 : decode prog_14_method_75_code 0 = .ok (.iload_n 1, 1) := by decide +kernel
theorem d_MO_odds_1 : decode prog_14_method_75_code 1 = .ok (.iload_n 2, 1) := by decide +kernel
theorem d_MO_odds_2 : decode prog_14_method_75_code 2 = .ok (.iload_n 3, 1) := by decide +kernel
theorem d_MO_odds_3 : decode prog_14_method_75_code 3 = .ok (.invokestatic 272, 3) := by decide +kernel
theorem d_MO_odds_6 : decode prog_14_method_75_code 6 = .ok (.ifCond .eq 13, 3) := by decide +kernel
theorem d_MO_odds_9 : decode prog_14_method_75_code 9 = .ok (.iload 4, 2) := by decide +kernel
theorem d_MO_odds_11 : decode prog_14_method_75_code 11 = .ok (.iconst 0, 1) := by decide +kernel
theorem d_MO_odds_12 : decode prog_14_method_75_code 12 = .ok (.iconst 1, 1) := by decide +kernel
theorem d_MO_odds_13 : decode prog_14_method_75_code 13 = .ok (.invokestatic 93, 3) := by decide +kernel
theorem d_MO_odds_16 : decode prog_14_method_75_code 16 = .ok (.ifCond .ne 7, 3) := by decide +kernel
theorem d_MO_odds_19 : decode prog_14_method_75_code 19 = .ok (.ldc2_w 278, 3) := by decide +kernel
theorem d_MO_odds_22 : decode prog_14_method_75_code 22 = .ok (.lreturn, 1) := by decide +kernel
theorem d_MO_odds_23 : decode prog_14_method_75_code 23 = .ok (.lconst 0, 1) := by decide +kernel
theorem d_MO_odds_24 : decode prog_14_method_75_code 24 = .ok (.lstore 5, 2) := by decide +kernel
theorem d_MO_odds_26 : decode prog_14_method_75_code 26 = .ok (.iconst 0, 1) := by decide +kernel
theorem d_MO_odds_27 : decode prog_14_method_75_code 27 = .ok (.istore 7, 2) := by decide +kernel
theorem d_MO_odds_29 : decode prog_14_method_75_code 29 = .ok (.iload 7, 2) := by decide +kernel
theorem d_MO_odds_31 : decode prog_14_method_75_code 31 = .ok (.bipush 20, 2) := by decide +kernel
theorem d_MO_odds_33 : decode prog_14_method_75_code 33 = .ok (.if_icmp .ge 36, 3) := by decide +kernel
theorem d_MO_odds_36 : decode prog_14_method_75_code 36 = .ok (.lload 5, 2) := by decide +kernel
theorem d_MO_odds_38 : decode prog_14_method_75_code 38 = .ok (.aload_n 0, 1) := by decide +kernel
theorem d_MO_odds_39 : decode prog_14_method_75_code 39 = .ok (.iload_n 1, 1) := by decide +kernel
theorem d_MO_odds_40 : decode prog_14_method_75_code 40 = .ok (.iload 7, 2) := by decide +kernel
theorem d_MO_odds_42 : decode prog_14_method_75_code 42 = .ok (.iadd, 1) := by decide +kernel
theorem d_MO_odds_43 : decode prog_14_method_75_code 43 = .ok (.iload_n 2, 1) := by decide +kernel
theorem d_MO_odds_44 : decode prog_14_method_75_code 44 = .ok (.iload_n 3, 1) := by decide +kernel
theorem d_MO_odds_45 : decode prog_14_method_75_code 45 = .ok (.invokevirtual 275, 3) := by decide +kernel
theorem d_MO_odds_48 : decode prog_14_method_75_code 48 = .ok (.aload_n 0, 1) := by decide +kernel
theorem d_MO_odds_49 : decode prog_14_method_75_code 49 = .ok (.getfield 90, 3) := by decide +kernel
theorem d_MO_odds_52 : decode prog_14_method_75_code 52 = .ok (.if_icmp .ne 7, 3) := by decide +kernel
theorem d_MO_odds_55 : decode prog_14_method_75_code 55 = .ok (.lconst 1, 1) := by decide +kernel
theorem d_MO_odds_56 : decode prog_14_method_75_code 56 = .ok (.goto 4, 3) := by decide +kernel
theorem d_MO_odds_59 : decode prog_14_method_75_code 59 = .ok (.lconst 0, 1) := by decide +kernel
theorem d_MO_odds_60 : decode prog_14_method_75_code 60 = .ok (.ladd, 1) := by decide +kernel
theorem d_MO_odds_61 : decode prog_14_method_75_code 61 = .ok (.lstore 5, 2) := by decide +kernel
theorem d_MO_odds_63 : decode prog_14_method_75_code 63 = .ok (.iinc 7 1, 3) := by decide +kernel
theorem d_MO_odds_66 : decode prog_14_method_75_code 66 = .ok (.goto (-37), 3) := by decide +kernel
theorem d_MO_odds_69 : decode prog_14_method_75_code 69 = .ok (.lload 5, 2) := by decide +kernel
theorem d_MO_odds_71 : decode prog_14_method_75_code 71 = .ok (.ldc2_w 280, 3) := by decide +kernel
theorem d_MO_odds_74 : decode prog_14_method_75_code 74 = .ok (.iload 4, 2) := by decide +kernel
theorem d_MO_odds_76 : decode prog_14_method_75_code 76 = .ok (.invokestatic 282, 3) := by decide +kernel
theorem d_MO_odds_79 : decode prog_14_method_75_code 79 = .ok (.lreturn, 1) := by decide +kernel
def p_MO_odds_60 (Q : Int64 → AH → Prop) (K29 : Int32 → Int32 → Int32 → Int32 → Int64 → Int32 → AH → Prop) (x1 : Int32) (x2 : Int32) (x3 : Int32) (x4 : Int32) (x7 : Int32) (s0 : Int64) (s1 : Int64) (h : AH) : Prop := K29 x1 x2 x3 x4 (s0 + s1) (x7 + 1) h
def p_MO_odds_29 (Q : Int64 → AH → Prop) : Nat → Int32 → Int32 → Int32 → Int32 → Int64 → Int32 → AH → Prop
  | 0 => fun _ _ _ _ _ _ _ => False
  | n + 1 => fun x1 x2 x3 x4 y5 x7 h => let K29 := p_MO_odds_29 Q n; ((20 ≤ x7 → p_MO_lowest (fun r2 h1 => Q r2 h1) y5 20 x4 h) ∧ (¬ 20 ≤ x7 → p_MO_downsBy (fun r4 h3 => ((¬ r4 = (h3.1 59 0) → p_MO_odds_60 Q  K29 x1 x2 x3 x4 x7 y5 0 h3) ∧ (r4 = (h3.1 59 0) → p_MO_odds_60 Q  K29 x1 x2 x3 x4 x7 y5 1 h3))) (x1 + x7) x2 x3 h))
def p_MO_odds (Q : Int64 → AH → Prop) (x1 : Int32) (x2 : Int32) (x3 : Int32) (x4 : Int32) (h : AH) : Prop := p_MO_isDrawn (fun r2 h1 => ((r2 = 0 → Q (-4611686018427387904) h1) ∧ (¬ r2 = 0 → p_MO_in (fun r4 h3 => ((¬ r4 = 0 → ∃ n, p_MO_odds_29 Q   n x1 x2 x3 x4 0 0 h3) ∧ (r4 = 0 → Q (-4611686018427387904) h3))) x4 0 1 h1))) x1 x2 x3 h
set_option maxRecDepth 20000 in
theorem r_MO_odds_60 {G : GG} {d : Nat} {Q : Int64 → AH → Prop} {K29 : Int32 → Int32 → Int32 → Int32 → Int64 → Int32 → AH → Prop} (k29 : ∀ x1 x2 x3 x4 y5 x7 h, K29 x1 x2 x3 x4 y5 x7 h → Att G T1 m_MO_odds (d + 8) 29 [some (.ref 59), some (.int x1), some (.int x2), some (.int x3), some (.int x4), some (.long y5), none, some (.int x7)] [] h 0 0 (lQ Q)) (x1 : Int32) (x2 : Int32) (x3 : Int32) (x4 : Int32) (x7 : Int32) (s0 : Int64) (s1 : Int64) (h : AH) (H : p_MO_odds_60 Q K29 x1 x2 x3 x4 x7 s0 s1 h) : Att G T1 m_MO_odds (d + 8) 60 [some (.ref 59), some (.int x1), some (.int x2), some (.int x3), some (.int x4), none, none, some (.int x7)] [.long s1, .long s0] h 0 0 (lQ Q) := by
  refine A_ladd d_MO_odds_60 ?_
  refine A_lstore [some (.ref 59), some (.int x1), some (.int x2), some (.int x3), some (.int x4), some (.long (s0 + s1)), none, some (.int x7)] d_MO_odds_61 (by decide) rfl rfl ?_
  refine A_iinc 1 [some (.ref 59), some (.int x1), some (.int x2), some (.int x3), some (.int x4), some (.long (s0 + s1)), none, some (.int (x7 + 1))] d_MO_odds_63 rfl (by decide) (by decide) rfl rfl ?_
  refine A_goto 29 d_MO_odds_66 (by decide) ?_
  exact k29 _ _ _ _ _ _ _ H
set_option maxRecDepth 20000 in
theorem r_MO_odds_29 {G : GG} {d : Nat} {Q : Int64 → AH → Prop} : ∀ (n : Nat) (x1 : Int32) (x2 : Int32) (x3 : Int32) (x4 : Int32) (y5 : Int64) (x7 : Int32) (h : AH), p_MO_odds_29 Q n x1 x2 x3 x4 y5 x7 h → Att G T1 m_MO_odds (d + 8) 29 [some (.ref 59), some (.int x1), some (.int x2), some (.int x3), some (.int x4), some (.long y5), none, some (.int x7)] [] h 0 0 (lQ Q) := by
  intro n
  induction n with
  | zero => intro x1 x2 x3 x4 y5 x7 h H; exact H.elim
  | succ n k29 =>
    intro x1 x2 x3 x4 y5 x7 h H
    refine A_iload d_MO_odds_29 rfl ?_
    refine A_bipush 20 (by decide) d_MO_odds_31 ?_
    refine A_icmp_ge 69 d_MO_odds_33 (by decide) (fun z => ?_) (fun z => ?_)
    · have H := H.1 z
      refine A_lload d_MO_odds_69 rfl ?_
      refine A_ldc2 20 d_MO_odds_71 (tG 1245 (by decide +kernel) (by decide +kernel)) ?_
      refine A_iload d_MO_odds_74 rfl ?_
      refine A_cL [.long y5, .long 20, .int x4] [] (ct_MO_282 rfl) d_MO_odds_76 rfl rfl (by decide) (Nat.le_of_ble_eq_true rfl) trivial (ok_MO_lowest (d := d + 7) H) (fun r2 h1 H => ?_)
      exact A_lret d_MO_odds_79 rfl H
    · have H := H.2 z
      refine A_lload d_MO_odds_36 rfl ?_
      refine A_aload_n d_MO_odds_38 rfl ?_
      refine A_iload_n d_MO_odds_39 rfl ?_
      refine A_iload d_MO_odds_40 rfl ?_
      refine A_iadd d_MO_odds_42 ?_
      refine A_iload_n d_MO_odds_43 rfl ?_
      refine A_iload_n d_MO_odds_44 rfl ?_
      refine A_cI [.ref 59, .int (x1 + x7), .int x2, .int x3] [.long y5] (ct_MO_275 rfl) d_MO_odds_45 rfl rfl (by decide) (Nat.le_of_ble_eq_true rfl) (rcA_o (c := 12) rfl (vA_s (by decide)) rfl (by decide) rfl) (ok_MO_downsBy (d := d) H) (fun r4 h3 H => ?_)
      refine A_aload_n d_MO_odds_48 rfl ?_
      refine A_get (v := .int (h3.1 59 0)) d_MO_odds_49 (fo_MO_90_12 rfl) (vA_s (by decide)) rfl rfl ?_
      refine A_icmp_ne 59 d_MO_odds_52 (by decide) (fun z => ?_) (fun z => ?_)
      · have H := H.1 z
        refine A_lconst 0 (by decide) d_MO_odds_59 ?_
        refine A_sub (L' := [some (.ref 59), some (.int x1), some (.int x2), some (.int x3), some (.int x4), none, none, some (.int x7)]) ⟨rfl, rfl, rfl, rfl, rfl, rfl, trivial⟩ ?_
        exact r_MO_odds_60  k29 _ _ _ _ _ _ _ _ H
      · have H := H.2 z
        refine A_lconst 1 (by decide) d_MO_odds_55 ?_
        refine A_goto 60 d_MO_odds_56 (by decide) ?_
        refine A_sub (L' := [some (.ref 59), some (.int x1), some (.int x2), some (.int x3), some (.int x4), none, none, some (.int x7)]) ⟨rfl, rfl, rfl, rfl, rfl, rfl, trivial⟩ ?_
        exact r_MO_odds_60  k29 _ _ _ _ _ _ _ _ H
set_option maxRecDepth 20000 in
theorem r_MO_odds_0 {G : GG} {d : Nat} {Q : Int64 → AH → Prop} (x1 : Int32) (x2 : Int32) (x3 : Int32) (x4 : Int32) (h : AH) (H : p_MO_odds Q x1 x2 x3 x4 h) : Att G T1 m_MO_odds (d + 8) 0 [some (.ref 59), some (.int x1), some (.int x2), some (.int x3), some (.int x4), none, none, none] [] h 0 0 (lQ Q) := by
  refine A_iload_n d_MO_odds_0 rfl ?_
  refine A_iload_n d_MO_odds_1 rfl ?_
  refine A_iload_n d_MO_odds_2 rfl ?_
  refine A_cI [.int x1, .int x2, .int x3] [] (ct_MO_272 rfl) d_MO_odds_3 rfl rfl (by decide) (Nat.le_of_ble_eq_true rfl) trivial (ok_MO_isDrawn (d := d + 5) H) (fun r2 h1 H => ?_)
  refine A_if_eq 19 d_MO_odds_6 (by decide) (fun z => ?_) (fun z => ?_)
  · have H := H.1 z
    refine A_ldc2 (-4611686018427387904) d_MO_odds_19 (tG 1244 (by decide +kernel) (by decide +kernel)) ?_
    exact A_lret d_MO_odds_22 rfl H
  · have H := H.2 z
    refine A_iload d_MO_odds_9 rfl ?_
    refine A_iconst 0 (by decide) d_MO_odds_11 ?_
    refine A_iconst 1 (by decide) d_MO_odds_12 ?_
    refine A_cI [.int x4, .int 0, .int 1] [] (ct_MO_93 rfl) d_MO_odds_13 rfl rfl (by decide) (Nat.le_of_ble_eq_true rfl) trivial (ok_MO_in (d := d + 7) H) (fun r4 h3 H => ?_)
    refine A_if_ne 23 d_MO_odds_16 (by decide) (fun z => ?_) (fun z => ?_)
    · have H := H.1 z
      refine A_lconst 0 (by decide) d_MO_odds_23 ?_
      refine A_lstore [some (.ref 59), some (.int x1), some (.int x2), some (.int x3), some (.int x4), some (.long 0), none, none] d_MO_odds_24 (by decide) rfl rfl ?_
      refine A_iconst 0 (by decide) d_MO_odds_26 ?_
      refine A_istore [some (.ref 59), some (.int x1), some (.int x2), some (.int x3), some (.int x4), some (.long 0), none, some (.int 0)] d_MO_odds_27 (by decide) rfl rfl ?_
      obtain ⟨n9, H⟩ := H
      exact r_MO_odds_29   n9 _ _ _ _ _ _ _ H
    · have H := H.2 z
      refine A_ldc2 (-4611686018427387904) d_MO_odds_19 (tG 1244 (by decide +kernel) (by decide +kernel)) ?_
      exact A_lret d_MO_odds_22 rfl H
set_option maxRecDepth 20000 in
theorem ok_MO_odds {G : GG} {d : Nat} {Q : Int64 → AH → Prop} {x1 : Int32} {x2 : Int32} {x3 : Int32} {x4 : Int32} {h : AH} (H : p_MO_odds Q x1 x2 x3 x4 h) : WP G T1 m_MO_odds (d + 8) [.ref 59, .int x1, .int x2, .int x3, .int x4] h 0 0 (lQ Q) := by
  exact WP.enter 3 (by decide) rfl rfl (r_MO_odds_0 x1 x2 x3 x4 h H)
