/-! UpperFloorsModel.<init>, to its end; what holds then -/
theorem hV_0 : hV.2.2.2.2 = 0 := rfl
theorem PU_0 {g : AH} (P : PU g) : g.2.2.2.2 = 0 := (congrArg Prod.snd P.1).trans hV_0
theorem SCf_59 {b : Nat} (hb : 59 ≤ b) : b ∉ SCf 0 := fun z => by
  simp only [SCf, List.mem_cons, List.not_mem_nil, or_false] at z; omega
theorem PU_AG {g : AH} (P : PU g) : AG g g zU := by
  refine ⟨PU_0 P, fun a _ => ⟨rfl, rfl, rfl⟩, fun a ha => ⟨?_, ?_, ?_⟩⟩
  · rw [P.2.2.1 a (SCf_59 ha) (by omega)]
    show (if a < 59 then (hPs 58).1 a else fun _ => 0) = _
    rw [if_neg (by omega)]; rfl
  · rw [P.2.1 a (by omega)]
    show (if a < 59 then (hPs 58).2.2.1 a else fun _ => 0) = _
    rw [if_neg (by omega)]; rfl
  · rw [P.1]
    show (if a < 59 then (hPs 58).2.2.2.1 a else (0, 0)) = _
    rw [if_neg (by omega)]; rfl
theorem mTs_2 {g : AH} : ∀ k, (mTs g k).2 = (mh24 g).2 := by
  intro k
  induction k with
  | zero => rfl
  | succ k ih => exact ih
def mV (g : AH) : AH := ((mTz g).1, (mTz g).2.1, (mTz g).2.2.1, (mTz g).2.2.2.1, 0)
theorem mz_S : ∀ a, a < 84 → 59 ≤ a → T1.2.1 a = some ((mTz zU).2.2.2.1 a) := by decide +kernel
theorem mz_R : ∀ k, k < 40 → chkR (T1.1 59 k) ((mTz zU).2.2.1 59 k) = true := by decide +kernel
theorem tblR_60 : ∀ a, a < 84 → 60 ≤ a → nthN tblR a [] = [] := by decide +kernel
theorem tblR_59 : (nthN tblR 59 []).length = 40 := by decide +kernel
theorem mz_f : (mh24 zU).2.2.1 59 7 = 67 ∧ (mh24 zU).2.2.1 59 20 = 74 ∧ (mh24 zU).2.2.2.1 66 = (100, 160) ∧ (mh24 zU).2.2.2.1 73 = (100, 58) := by decide +kernel
theorem mTz_n {g : AH} (hg : g.2.2.2.2 = 0) : nC TU (mTz g) = 84 := mTs_n hg 58
theorem mV_ent {G : GG} {g : AH} (P : PU g) : ∀ k, k < nC TU (mTz g) → ent G T1 (mV g) k = ent G TU (mTz g) k := fun a ha => by
  rw [mTz_n (PU_0 P)] at ha
  obtain ⟨A1, A2, A3⟩ := mTz_a (PU_AG P)
  refine ent_view rfl rfl (fun k => ?_) ?_
  · by_cases c : a < 59
    · unfold rR; rw [(TU_lt c).1 k]; rfl
    · have e1 : rR TU (mTz g) a k = (mTz zU).2.2.1 a k := by
        unfold rR; rw [(TU_ge (Nat.le_of_not_lt c)).1 k]
        show (mTz g).2.2.1 a k = _
        rw [(A3 a (by omega)).2.1]
      have e2 : (mV g).2.2.1 a k = (mTz zU).2.2.1 a k := by
        show (mTz g).2.2.1 a k = _
        rw [(A3 a (by omega)).2.1]
      rw [e1]
      unfold rR
      cases e : T1.1 a k with
      | none => exact e2
      | some v =>
        by_cases c59 : a = 59
        · subst c59
          by_cases ck : k < 40
          · have z := mz_R k ck
            rw [e] at z; exact of_decide_eq_true z
          · have z : T1.1 59 k = none := nthN_ge _ _ _ (by rw [tblR_59]; omega)
            rw [z] at e; cases e
        · have z : T1.1 a k = none := by
            show nthN (nthN tblR a []) k none = none
            rw [tblR_60 a ha (by omega)]; rfl
          rw [z] at e; cases e
  · by_cases c : a < 59
    · unfold rS; rw [(TU_lt c).2]; rfl
    · have e1 : rS TU (mTz g) a = (mTz zU).2.2.2.1 a := by
        unfold rS; rw [(TU_ge (Nat.le_of_not_lt c)).2]
        show (mTz g).2.2.2.1 a = _
        rw [(A3 a (by omega)).2.2]
      rw [e1]
      unfold rS
      rw [mz_S a ha (by omega)]
theorem hV_c : hV.1 5 3 = 0 ∧ hV.1 5 4 = 0 ∧ hV.1 0 9 = 0 ∧ hV.1 0 10 = 0 := by decide +kernel
theorem hV_s : ∀ s, s < 4 → hV.1 (51 + 2 * s) 1 = -1 ∧ hV.1 (51 + 2 * s) 2 = 0 ∧ ∀ i, i < 40 → hV.1 (52 + 2 * s) (nI i) = 0 := by decide +kernel
theorem hV_h : ∀ k, k < 7 → hV.2.2.1 1 k = 26 + k + 1 := by decide +kernel
theorem mz_c : (mTz zU).1 59 0 = 0 ∧ (mTz zU).1 59 8 = 58 ∧ (mTz zU).1 59 11 = 0 ∧ (mTz zU).1 59 12 = 0 ∧ (mTz zU).1 59 13 = 0 := by decide +kernel
theorem mz_s : ∀ s, s < 4 → (mTz zU).1 70 (nI s) = -1 ∧ (mTz zU).1 71 (nI s) = 0 ∧ ∀ i, i < 40 → (mTz zU).1 72 (nI (40 * s + i)) = 0 := by decide +kernel
theorem mz_w : ∀ i, i < 96 → (mTz zU).1 74 (nI i) = nI (wordL.getD i 0) := by decide +kernel
theorem mz_t : ∀ j, j < 58 → (mTz zU).1 66 (nI j) = bF j := by decide +kernel
theorem first_Inv {g : AH} (P : PU g) : p_MO_text (fun _ h => Inv h) (mV g) := by
  obtain ⟨A1, A2, A3⟩ := mTz_a (PU_AG P)
  obtain ⟨p1, p2, p3, p4, o', D, l58, pc, pF1⟩ := P
  have hi59 : ∀ b, 59 ≤ b → (mV g).1 b = (mTz zU).1 b := fun b hb => (A3 b hb).1
  have lo59 : ∀ b, b < 59 → (mV g).1 b = g.1 b := fun b hb => (A2 b hb).1
  obtain ⟨z1, z2, z3, z4, z5⟩ := mz_c
  unfold p_MO_text
  rw [hi59 59 (by decide), z3]
  refine (nF (by decide)).mpr ⟨4, ?_⟩
  obtain ⟨h3, eh3⟩ : ∃ h3, h3 = wI (wI (mV g) 59 21 0) 59 29 0 := ⟨_, rfl⟩
  rw [← eh3]
  have k3 : ∀ b, ¬ b = 59 → h3.1 b = (mV g).1 b := fun b hb => by rw [eh3, wI_r, if_neg hb, wI_r, if_neg hb]
  have k59 : ∀ j, ¬ j = 21 → ¬ j = 29 → h3.1 59 j = (mTz zU).1 59 j := fun j j1 j2 => by rw [eh3, r59, if_neg j2, r59, if_neg j1, hi59 59 (by decide)]
  have k2 : h3.2 = (mV g).2 := by rw [eh3]; rfl
  have W : Wds h3 := fun i hi => by rw [k3 74 (by decide), hi59 74 (by decide)]; exact mz_w i hi
  have M3 : MH bF 58 0 h3 0 0 [] [] h3 := by
    refine ⟨⟨?_, fun j hj => ?_, W⟩, ?_, ?_, fun j hj => absurd hj (Nat.not_lt_zero j), frM_rf, ⟨Nat.le_refl _, Nat.zero_le _⟩, ?_, fun j hj => absurd hj (Nat.not_lt_zero j)⟩
    · rw [k59 8 (by decide) (by decide)]; exact z2
    · rw [k3 66 (by decide), hi59 66 (by decide)]; exact mz_t j hj
    · rw [eh3, r59, if_neg (by decide), r59, if_pos rfl]; rfl
    · rw [eh3, r59, if_pos rfl]; rfl
    · rw [k59 11 (by decide) (by decide)]; exact z3
  have TK := TS3_TOK 3 0 0 esF TS3_F
  refine mtext_ok (by decide) (show 0 < 6 by decide) 3 0 0 [] [] esF h3 rfl rfl ⟨rfl, fun p hp => absurd hp (Nat.not_lt_zero p)⟩ M3 TK (fun o2 h4 B1 B2 B3 B4 B5 => ?_)
  obtain ⟨hF, ehF⟩ : ∃ hF, hF = wI (wI h4 59 8 0) 59 11 (nI (0 + 1)) := ⟨_, rfl⟩
  rw [← ehF]
  have hlen : esF.length = 3 := rfl
  have b1 : ∀ b, b ∉ [59, 67, 68, 75] → hF.1 b = (mV g).1 b := fun b hb => by
    have n59 : ¬ b = 59 := fun z => hb (by rw [z]; decide)
    rw [ehF, wI_r, if_neg n59, wI_r, if_neg n59, B4.2.1 b hb, k3 b n59]
  have bU : ∀ b, b < 59 → b ∉ SCf 0 → ¬ b = 0 → hF.1 b = hV.1 b := fun b h1 h2 h3' => by
    rw [b1 b (fun z => by simp only [List.mem_cons, List.not_mem_nil, or_false] at z; omega), lo59 b h1]; exact p3 b h2 h3'
  have bG : ∀ b, b < 59 → hF.1 b = g.1 b := fun b h1 => by
    rw [b1 b (fun z => by simp only [List.mem_cons, List.not_mem_nil, or_false] at z; omega), lo59 b h1]
  have b0 : ∀ j, ¬ j = 8 → hF.1 0 j = hV.1 0 j := fun j hj => by rw [bG 0 (by decide), p4, up_n hj]
  have bM : ∀ b, 59 ≤ b → b ∉ [59, 67, 68, 75] → hF.1 b = (mTz zU).1 b := fun b h1 h2 => by rw [b1 b h2]; exact hi59 b h1
  have b59 : ∀ j, kq j → ¬ j = 8 → ¬ j = 11 → hF.1 59 j = (mTz zU).1 59 j := fun j j1 j2 j3 => by
    rw [ehF, r59, if_neg j3, r59, if_neg j2, B4.2.2.1 j j1, k59 j j1.1 j1.2.2.2.2.2.2]
  have s5 : ∀ b, b ∈ [5, 51, 52, 53, 54, 55, 56, 57, 58] → b ∉ SCf 0 ∧ ¬ b = 0 ∧ b < 59 := by decide
  obtain ⟨c1, c2, c3, c4⟩ := hV_c
  have wf : ∀ p, p < 3 → wfS (cE esF p) 0 := fun p hp => TOK_wf 3 0 0 esF TK p hp
  have len : offC (cE esF) 3 ≤ 58 := by have := D.1; rw [hlen] at this; omega
  have ok : okC (cE esF) := ⟨wf, by omega⟩
  have hr : hF.2 = (mV g).2 := by
    rw [ehF]
    show h4.2 = _
    rw [B4.1, k2]
  have e53 : hF.1 5 3 = nI 0 := by rw [bU 5 (by decide) (by decide) (by decide)]; exact c1
  have e54 : hF.1 5 4 = nI 0 := by rw [bU 5 (by decide) (by decide) (by decide)]; exact c2
  have e5912 : hF.1 59 12 = nI 0 := by rw [b59 12 (by unfold kq; decide) (by decide) (by decide)]; exact z4
  have e590 : hF.1 59 0 = nI 0 := by rw [b59 0 (by unfold kq; decide) (by decide) (by decide)]; exact z1
  have ct : CT hF 0 (cE esF) := by
    refine ⟨fun p hp => ?_, fun p hp j hj => ?_⟩
    · rw [bG _ (by omega)]
      by_cases p3' : p < 3
      · exact pF1.1 p p3'
      · have e3 : p = 3 := by omega
        rw [e3]; exact pF1.2 (by decide)
    · have l9 := D.1
      rw [hlen] at l9
      have l1' : offC (cE esF) (p + 1) ≤ offC (cE esF) 3 := offC_le (by omega)
      have l2' : offC (cE esF) (p + 1) = offC (cE esF) p + (cE esF p).length := rfl
      rw [bG _ (by omega), pc _ (by omega), D.2 p (by omega) j hj]
  have mt : MT hF 0 (cE esF) := by
    have k : ∀ x, ¬ x = 59 → hF.1 x = h4.1 x := fun x hx => by rw [ehF, wI_r, if_neg hx, wI_r, if_neg hx]
    refine ⟨fun p hp => ?_, fun p hp j hj => ?_⟩
    · rw [k 68 (by decide)]; exact B5 p hp
    · have l9 := B1.1
      rw [List.nil_append, hlen] at l9
      have l1' : offC (cE esF) (p + 1) ≤ offC (cE esF) 3 := offC_le (by omega)
      have l2' : offC (cE esF) (p + 1) = offC (cE esF) p + (cE esF p).length := rfl
      have B12 := B1.2
      rw [List.nil_append] at B12
      rw [k 67 (by decide), B3 _ (by omega), B12 p (by rw [hlen]; omega) j hj]
  refine ⟨(0, fun _ => 0, fun _ => 0, fun _ => 0, fun _ => 0, fun _ => 0, cE esF), fun _ => 0, 1, 0, fun _ => cE esF, ⟨by decide, fun k hk => absurd hk (Nat.not_lt_zero k), fun k hk => absurd hk (Nat.not_lt_zero k), fun k hk => absurd hk (Nat.not_lt_zero k), wf, by show offC (cE esF) 3 ≤ 160; omega⟩, rfl, fun k hk => absurd hk (Nat.not_lt_zero k), ⟨e53, fun k hk => absurd hk (Nat.not_lt_zero k), fun k hk => absurd hk (Nat.not_lt_zero k), fun k hk => absurd hk (Nat.not_lt_zero k), fun k hk => ?_, fun k hk => absurd hk (Nat.not_lt_zero k), 0, by decide, e54, ct⟩, ⟨⟨e590, fun k hk => absurd hk (Nat.not_lt_zero k), fun k hk => absurd hk (Nat.not_lt_zero k), fun k hk => absurd hk (Nat.not_lt_zero k), fun k hk => absurd hk (Nat.not_lt_zero k), fun k hk => absurd hk (Nat.not_lt_zero k), 0, by decide, e5912, mt⟩, fun k hk => absurd hk (Nat.not_lt_zero k)⟩, ⟨by decide, by decide, by decide, ?_, ?_, e54, e5912, fun t ht => ?_⟩, ⟨0, by decide, ?_, ?_, fun j hj => absurd hj (Nat.not_lt_zero j)⟩, ⟨?_, fun z => absurd ?_ z⟩, fun s hs => ?_, ?_⟩
  · have er : rR T1 hF 1 k = 26 + k + 1 := by
      show hF.2.2.1 1 k = _
      rw [hr]
      show (mTz g).2.2.1 1 k = _
      rw [(A2 1 (by decide)).2.1, p2 1 (by decide)]
      exact hV_h k hk
    rw [er]
    refine ⟨Nat.succ_pos _, vA_s (show 26 + k + 1 - 1 < 84 by omega), ?_⟩
    have h7 : k = 0 ∨ k = 1 ∨ k = 2 ∨ k = 3 ∨ k = 4 ∨ k = 5 ∨ k = 6 := by omega
    rcases h7 with rfl | rfl | rfl | rfl | rfl | rfl | rfl <;> exact Or.inr (Or.inr (Or.inr (Or.inl rfl)))
  · rw [bG 0 (by decide), p4, up_s]; rfl
  · rw [ehF, r59, if_pos rfl]
  · have t0 : t = 0 := by omega
    subst t0
    exact ⟨ok, ct, mt⟩
  · rw [b0 9 (by decide)]; exact c3
  · rw [ehF, r59, if_neg (by decide), r59, if_pos rfl]; rfl
  · rw [b59 13 (by unfold kq; decide) (by decide) (by decide), z5, b0 10 (by decide), c4]
  · rw [b0 10 (by decide)]; exact c4
  · obtain ⟨s1, s2, s3⟩ := hV_s s hs
    obtain ⟨t1, t2, t3⟩ := mz_s s hs
    have q1 := bU (51 + 2 * s) (by omega) (fun z => by simp only [SCf, List.mem_cons, List.not_mem_nil, or_false] at z; omega) (by omega)
    have q2 := bU (52 + 2 * s) (by omega) (fun z => by simp only [SCf, List.mem_cons, List.not_mem_nil, or_false] at z; omega) (by omega)
    rw [q1, q2, bM 70 (by decide) (by decide), bM 71 (by decide) (by decide), bM 72 (by decide) (by decide), s1, s2, t1, t2]
    exact ⟨rfl, by decide, ⟨0, by decide, rfl, rfl⟩, fun i hi => by rw [s3 i hi, t3 i hi]⟩
  · intro i hi
    rw [bM 74 (by decide) (by decide)]; exact mz_w i hi
abbrev L9 (x : Int32) : LL := [some (.ref 59), some (.int x)]
theorem r_MO_init_1158 {G : GG} {d : Nat} {Q : QQ} {g : AH} (P : PU g) (K : Att G TU m_MO_init (d + 60) 1182 (L9 (nI 58)) [] (mTs g 58) 0 0 Q) : ∀ n k, n + k = 58 → Att G TU m_MO_init (d + 60) 1158 (L9 (nI k)) [] (mTs g k) 0 0 Q := by
  have hg := PU_0 P
  obtain ⟨A1, A2, A3⟩ := mha_24 (PU_AG P)
  obtain ⟨z1, z2, z3, z4⟩ := mz_f
  have fn : ∀ k, nC TU (mTs g k) = 84 := mTs_n hg
  have fs : ∀ k, rS TU (mTs g k) 59 = (12, 40) := fun k => by
    have := mhs_24 (g := g) hg
    unfold rS at this ⊢
    rw [mTs_2]; exact this
  have fR : ∀ k j v, (mh24 zU).2.2.1 59 j = v → rR TU (mTs g k) 59 j = v := fun k j v z => by
    unfold rR
    rw [TU_1 (by decide)]
    show (mTs g k).2.2.1 59 j = v
    rw [mTs_2, (A3 59 (by decide)).2.1]; exact z
  have fS : ∀ k a v, 59 ≤ a → (mh24 zU).2.2.2.1 a = v → rS TU (mTs g k) a = v := fun k a v ha z => by
    unfold rS
    rw [(TU_ge ha).2]
    show (mTs g k).2.2.2.1 a = v
    rw [mTs_2, (A3 a ha).2.2]; exact z
  intro n
  induction n with
  | zero =>
    intro k hk
    have hk2 : k = 58 := by omega
    subst hk2
    refine A_iload_n d_MO_init_1158 rfl ?_
    refine A_bipush 58 (by decide) d_MO_init_1159 ?_
    exact A_icmp_ge 1182 d_MO_init_1161 (by decide) (fun z => K) (fun z => absurd (Int32.le_refl _) z)
  | succ n ih =>
    intro k hk
    have hkl : k < 58 := by omega
    refine A_iload_n d_MO_init_1158 rfl ?_
    refine A_bipush 58 (by decide) d_MO_init_1159 ?_
    refine A_icmp_ge 1182 d_MO_init_1161 (by decide) (fun z => absurd z (nI_ge hkl (by decide))) (fun z => ?_)
    refine A_aload_n d_MO_init_1164 rfl ?_
    refine A_get (v := .ref 66) d_MO_init_1165 (fo_MO_28_12 rfl) (vA_U (fn k) (by decide)) (congrArg Prod.fst (fs k)) (congrArg vR (fR k 7 67 z1)) ?_
    refine A_iload_n d_MO_init_1168 rfl ?_
    refine A_aload_n d_MO_init_1169 rfl ?_
    refine A_get (v := .ref 73) d_MO_init_1170 (fo_MO_49_12 rfl) (vA_U (fn k) (by decide)) (congrArg Prod.fst (fs k)) (congrArg vR (fR k 20 74 z2)) ?_
    refine A_iload_n d_MO_init_1173 rfl ?_
    refine A_iald d_MO_init_1174 (vA_U (fn k) (by decide)) (fS k 73 _ (by decide) z4) (inb_nI hkl (by decide)) ?_
    refine A_iast d_MO_init_1175 (vA_U (fn k) (by decide)) (fS k 66 _ (by decide) z3) (inb_nI (by omega) (by decide)) ?_
    refine A_iinc 1 (L9 (nI (k + 1))) d_MO_init_1176 rfl (by decide) (by decide) rfl (by rw [nI_succ]; rfl) ?_
    refine A_goto 1158 d_MO_init_1179 (by decide) ?_
    exact ih (k + 1) (by omega)
theorem ok_MO_init {G : GG} {d : Nat} {g : AH} (P : PU g) : WP G TU m_MO_init (d + 60) [.ref 59] (mh0 g) 24 2217 (vQ (fun h => ∃ g2, h = flT T1 TU g2 ∧ Inv g2)) := by
  have hg := PU_0 P
  refine WP.enter 1 (by decide) rfl rfl ?_
  refine mo_init_0 hg ?_
  refine A_iconst 0 (by decide) d_MO_init_1156 ?_
  refine A_istore_n (L9 (nI 0)) d_MO_init_1157 (by decide) rfl rfl ?_
  refine r_MO_init_1158 P ?_ 58 0 rfl
  refine A_aload_n d_MO_init_1182 rfl ?_
  refine A_bipush 58 (by decide) d_MO_init_1183 ?_
  refine A_putI (k := 8) (x := 58) d_MO_init_1185 (fo_MO_82_12 rfl) (Or.inl ft_12_8) (fun z => by cases z) rfl (vA_U (mTs_n hg 58) (by decide)) (by have := mhs_24 (g := g) hg; unfold rS at this ⊢; rw [mTs_2, this]) rfl rfl ?_
  refine A_view (T2 := T1) (h2 := mV g) (Q2 := vQ Inv) (mTz_n hg).symm (mV_ent P) (fun v g2 hq => ?_) ?_
  · cases v with
    | none => exact ⟨flT T1 TU g2, ⟨g2, rfl, hq⟩, flT_nC subT_U1 g2, fun k _ => flT_ent subT_U1 g2 k⟩
    | some _ => exact hq.elim
  refine A_aload_n d_MO_init_1188 rfl ?_
  refine A_cI [.ref 59] [] (ct_MO_86 rfl) d_MO_init_1189 rfl rfl (by decide) (Nat.le_of_ble_eq_true rfl) (rcA_o (c := 12) rfl (vA_s (by decide)) rfl (by decide) rfl) (ok_MO_text (d := d + 55) (first_Inv P)) (fun r h2 H => ?_)
  refine A_pop rfl d_MO_init_1192 ?_
  exact A_ret d_MO_init_1193 rfl H
