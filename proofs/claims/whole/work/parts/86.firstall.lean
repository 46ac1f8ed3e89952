/-! the first text, all of it -/
def TS3 : Nat → Nat → Nat → List (List Int32) → Prop
  | 0, _, p, es => es = [] ∧ tkK bF 58 p = 0
  | c + 1, k, p, es => ∃ e p' es', es = e :: es' ∧ (tkK bF 58 p = nI (7 + k) ∧ ∃ q, SP 0 (tkE bF 58 p) q e (PRdU 42 0) ∧ tkK bF 58 q = 59 ∧ p' = tkE bF 58 q) ∧ TS3 c (k + 1) p' es'
theorem TS3_TOK : ∀ (c k p : Nat) (es : List (List Int32)), TS3 c k p es → TOK bF 58 c k p es := by
  intro c
  induction c with
  | zero => intro k p es z; exact z
  | succ c ih =>
    intro k p es z
    obtain ⟨e, p', es', z1, ⟨z2, q, z3, z4, z5⟩, z6⟩ := z
    exact ⟨e, p', es', z1, ⟨z2, q, z3.1, z4, z5⟩, ih _ _ _ z6⟩
theorem readS {h0 : AH} {Q : Int32 → AH → Prop} : ∀ (c k p : Nat) (o : List Int32) (ds es : List (List Int32)) (h : AH), k + c = 3 → ds.length = k → DSo ds o → o.length ≤ p → p ≤ 58 → CSU bF 58 0 p o h → frm (SCf 0) h0 h → FR 0 k ds h → TS3 c k p es →
    (∀ o' h', DSo (ds ++ es) o' → o'.length ≤ 58 → (∀ j, j < o'.length → h'.1 (34 + 3 * 0) (nI j) = mapC (o'.getD j 0)) → frm (SCf 0) h0 h' → FR 0 3 (ds ++ es) h' → Q (-1) h') → p_Reader_read_40U Q (PRdU 42 0) (c + 1) (nI k) h := by
  intro c
  induction c with
  | zero =>
    intro k p o ds es h hk hd D ho hp C f F T HS
    have hk' : k = 3 := by omega
    subst hk'
    obtain ⟨rfl, k0⟩ := T
    simp only [p_Reader_read_40U]
    refine (pT (by decide)).mpr ?_
    rw [(CS_tokU C).1]
    exact (nT k0).mpr (HS o h (by rw [List.append_nil]; exact D) (by omega) C.2.2.2 f (by rw [List.append_nil]; exact F))
  | succ c ih =>
    intro k p o ds es h hk hd D ho hp C f F T HS
    obtain ⟨e, p', es', rfl, ⟨kk, q, S, k59, rfl⟩, T'⟩ := T
    obtain ⟨P2, hS⟩ := S
    obtain ⟨n', hn'⟩ : ∃ n', n' = c + 1 := ⟨_, rfl⟩
    rw [← hn']
    rw [← hn'] at ih
    simp only [p_Reader_read_40U]
    obtain ⟨a1, a2, a3⟩ := CS_lawU (by decide) C
    obtain ⟨b1, b2, b3, b4, b5, b6⟩ := CS_fromU (by decide) C
    rw [b4, b5, b6]
    rw [b5] at b2 b3
    refine (pF (fun z => by have := (nI_leN (a := 3) (by decide) (by omega)).mp z; omega)).mpr ⟨a1, a2, a3, b1, b2, b3, inb_nI (by omega) (by omega), ?_⟩
    obtain ⟨hA, eA⟩ : ∃ hA, hA = wI h (35 + 3 * 0) (nI k) (nI o.length) := ⟨_, rfl⟩
    rw [← eA]
    have CA : CSU bF 58 0 p o hA := by rw [eA]; exact CS_w35U (by decide) C
    have fA : frm (SCf 0) h0 hA := by rw [eA]; exact frm_w f (by simp [SCf])
    have rA : ∀ j, j < k + 1 → hA.1 (35 + 3 * 0) (nI j) = nI (offC (cE ds) j) := fun j hj => by
      rw [eA, wI_r, if_pos rfl, up_a]
      by_cases e : j = k
      · rw [if_pos (by rw [e]), D.1, hd, e]
      · rw [if_neg (fun z => e ((nI_inj (by omega) (by omega)).mp z))]; exact F.1 j (by omega)
    unfold p_Reader_takeU
    rw [(CS_tokU CA).1, show (7 : Int32) + nI k = nI (7 + k) by rw [show (7 : Int32) = nI 7 from rfl, nI_add]]
    have ge := tkE_in (b := bF) hp
    have gs := tkS_in (b := bF) hp
    refine (pT kk).mpr (CS_nextU (by decide) hp CA (frm_rf (S := SCl 0)) (fun h1 C1 f1 => (pF (by decide)).mpr ?_))
    refine hS o h1 hA _ (by omega) ge.2.1 C1 f1 (fun h2 C2 f2 => (pF (by decide)).mpr ?_)
    rw [(CS_tokU C2).1]
    have l2 := P2.1
    have gq := tkE_in (b := bF) l2.2.2
    have gqs := tkS_in (b := bF) l2.2.2
    refine (pT k59).mpr (CS_nextU (by decide) l2.2.2 C2 f2 (fun h3 C3 f3 => (nF (by decide)).mpr ?_))
    obtain ⟨a1, a2, a3⟩ := CS_lawU (by decide) C3
    obtain ⟨b1, b2, b3, b4, b5, b6⟩ := CS_fromU (by decide) C3
    rw [b4, b5, b6, nI_1]
    rw [b5] at b2 b3
    refine ⟨a1, a2, a3, b1, b2, b3, inb_nI (by omega) (by omega), ?_⟩
    obtain ⟨D1, D2⟩ := DSo_s (e := e) D
    rw [hd] at D2
    have f03 : frm (SCf 0) h0 h3 := frm_tr fA f3 (fun _ z => z) SCl_f
    have r3 : ∀ j, j < k + 1 → h3.1 (35 + 3 * 0) (nI j) = nI (offC (cE ds) j) := fun j hj => by
      rw [f3.2 (35 + 3 * 0) (by simp [SCl])]; exact rA j hj
    refine ih (k + 1) (tkE bF 58 q) (o ++ e) (ds ++ [e]) es' _ (by omega) (by simp [hd]) D1 (by rw [List.length_append]; omega) gq.2.1 (CS_w35U (by decide) C3) (frm_w f03 (by simp [SCf])) ⟨fun j hj => ?_, fun _ => ?_⟩ T' (fun o' h' A2 A3 A4 A5 A6 => ?_)
    · rw [wI_r, if_pos rfl, up_n (fun z => by have := (nI_inj (by omega) (by omega)).mp z; omega), r3 j hj, offC_app (by omega)]
    · rw [wI_r, if_pos rfl, up_s, D2, List.length_append]
    · rw [List.append_assoc] at A2 A6
      exact HS o' h' A2 A3 A4 A5 A6
def esF : List (List Int32) := [eF1, eF2, eF3]
theorem TS3_F : TS3 3 0 0 esF := by
  obtain ⟨t0, t1, t2, t3, t4, t5, t6, t7, t8, t9, t10, t11, t12, t13, t14⟩ := tkE_F
  obtain ⟨k0, k1, k2, k3, k4, k5, k6, k7, k8, k9, k10, k11, k12, k13, k14, k15⟩ := kk_F
  refine ⟨eF1, 26, _, rfl, ⟨k0, 24, by rw [t0]; exact SP_F1, k6, t6.symm⟩, ?_⟩
  refine ⟨eF2, 36, _, rfl, ⟨k7, 34, by rw [t7]; exact SP_F2, k9, t9.symm⟩, ?_⟩
  exact ⟨eF3, 58, _, rfl, ⟨k10, 56, by rw [t10]; exact SP_F3, k14, t14.symm⟩, rfl, k15⟩
theorem read_first {h : AH} {Q : Int32 → AH → Prop} (hb : ∀ j, j < 58 → h.1 4 (nI j) = bF j) (HS : ∀ o' h', DSo esF o' → o'.length ≤ 58 → (∀ j, j < o'.length → h'.1 (34 + 3 * 0) (nI j) = mapC (o'.getD j 0)) → FR 0 3 esF h' → frP 0 h h' → Q (-1) h') : p_Reader_readU Q (PRdU 42 0) 4 (nI 58) (33 + 3 * 0) h := by
  unfold p_Reader_readU
  refine ⟨vA_s (show 4 < 59 by decide), rfl, ?_⟩
  unfold p_Math_min
  have c : ¬ (160 : Int32) < nI 58 := fun z => by have := (nI_ltI (a := 160) (by decide) (by omega)).mp z; omega
  have e160 : Int32.ofNat (rS TU (wR h 25 0 (4 + 1)) 4).2 = 160 := rfl
  rw [e160]
  refine (pF c).mpr ?_
  have er : ∀ hh : AH, rR TU (wR hh 25 2 (33 + 3 * 0 + 1)) 25 2 = 33 + 3 * 0 + 1 := fun hh => rfl
  dsimp only
  rw [er, Nat.add_sub_cancel]
  obtain ⟨l1, l2, l3, l4, l5, l6, l7, l8⟩ := lawTU (show 0 < 6 by decide) (wR (wI (wR h 25 0 (4 + 1)) 25 1 (nI 58)) 25 2 (33 + 3 * 0 + 1))
  have l1 := (lawTU (show 0 < 6 by decide) (wR (wR h 25 0 (4 + 1)) 25 2 (33 + 3 * 0 + 1))).1
  have l2 := (lawTU (show 0 < 6 by decide) (wR (wR h 25 0 (4 + 1)) 25 2 (33 + 3 * 0 + 1))).2.1
  obtain ⟨h1, e1⟩ : ∃ h1, h1 = wI (wI (wR (wI (wR h 25 0 (4 + 1)) 25 1 (nI 58)) 25 2 (33 + 3 * 0 + 1)) (33 + 3 * 0) 2 0) 25 3 0 := ⟨_, rfl⟩
  refine ⟨Nat.succ_pos _, l1, l2, ?_⟩
  rw [← e1]
  have g1 : ∀ c, ¬ c = 25 → ¬ c = 33 + 3 * 0 → h1.1 c = h.1 c := fun c c1 c2 => by
    rw [e1, wI_r, if_neg c1, wI_r, if_neg c2]
    show (wI (wR h 25 0 (4 + 1)) 25 1 (nI 58)).1 c = _
    rw [wI_r, if_neg c1]; rfl
  have fP1 : frP 0 h h1 := by
    refine ⟨by rw [e1]; rfl, fun a ha => ?_, fun c hc => g1 c (fun z => hc (by rw [z]; simp [SCf])) (fun z => hc (by rw [z]; simp [SCf]))⟩
    rw [e1]
    show (if a = 25 then _ else if a = 25 then _ else h.2.2.1 a) = _
    rw [if_neg ha, if_neg ha]
  have r25 : h1.1 25 = up (up (h.1 25) 1 (nI 58)) 3 0 := by
    rw [e1, wI_r, if_pos rfl, wI_r, if_neg (show ¬ 25 = 33 + 3 * 0 by omega)]
    show up ((wI (wR h 25 0 (4 + 1)) 25 1 (nI 58)).1 25) 3 0 = _
    rw [wI_r, if_pos rfl]; rfl
  have RB1 : RBU bF 58 h1 := ⟨by rw [r25, up_n (by decide), up_s], by rw [e1]; rfl, fun j hj => by rw [g1 4 (by decide) (by omega)]; exact hb j hj⟩
  refine Reader_next_specU (show 58 ≤ 160 by decide) (Nat.zero_le 58) RB1 (by rw [r25, up_s]; rfl) (fun h2 f2 T2 => ⟨4, ?_⟩)
  have C2 : CSU bF 58 0 0 [] h2 := by
    refine ⟨T2, ?_, ?_, fun j hj => absurd hj (Nat.not_lt_zero j)⟩
    · rw [rR_2U f2.1, e1]; rfl
    · rw [f2.2 (33 + 3 * 0) (by simp), e1, wI_r, if_neg (show ¬ 33 + 3 * 0 = 25 by omega), wI_r, if_pos rfl, up_s]; rfl
  have fP2 : ∀ h', frm (SCf 0) h2 h' → frP 0 h h' := fun h' f => by
    refine ⟨by rw [f.1, f2.1]; exact fP1.1, fun a ha => by rw [f.1, f2.1]; exact fP1.2.1 a ha, fun c hc => ?_⟩
    rw [f.2 c hc, f2.2 c (fun z => hc (by rw [List.mem_singleton.mp z]; simp [SCf]))]
    exact fP1.2.2 c hc
  exact readS 3 0 0 [] [] esF h2 rfl rfl ⟨rfl, fun p hp => absurd hp (Nat.not_lt_zero p)⟩ (Nat.le_refl _) (Nat.zero_le _) C2 frm_rf ⟨fun j hj => absurd hj (Nat.not_lt_zero j), fun z => absurd z (by decide)⟩ TS3_F (fun o' h' A2 A3 A4 A5 A6 => HS o' h' A2 A3 A4 A6 (fP2 h' A5))
