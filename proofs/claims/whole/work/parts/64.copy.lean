/-! pure: copy -/
theorem sub_nn {a b : Int32} (ha : 0 ≤ a.toInt) (hb : 0 ≤ b.toInt) : (a - b).toInt = a.toInt - b.toInt := by
  rw [Int32.toInt_sub]
  have h1 := Int32.toInt_lt a
  have h2 := Int32.toInt_lt b
  exact Int.bmod_eq_of_le (by omega) (by omega)
theorem nI_subN {a b : Nat} (h : b ≤ a) : nI a - nI b = nI (a - b) := by
  obtain ⟨c, hc⟩ : ∃ c, c = a - b := ⟨_, rfl⟩
  rw [← hc, show a = c + b by omega, ← nI_add, Int32.add_sub_cancel]
abbrev cpG (n m : Nat) (x2 x4 x5 : Int32) : Prop := 0 ≤ x2.toInt ∧ 0 ≤ x4.toInt ∧ 0 ≤ x5.toInt ∧ x2.toInt + x5.toInt ≤ n ∧ x4.toInt + x5.toInt ≤ m
theorem lt0_iff {x : Int32} : x < 0 ↔ x.toInt < 0 := by rw [Int32.lt_iff_toInt_lt, Int32.toInt_zero]
theorem MO_copy_tail {n m : Nat} {a b x2 x4 x5 : Int32} {B L : Prop} (hn : n ≤ 40) (hm : m ≤ 40) (ea : a = nI n) (eb : b = nI m) (HG : cpG n m x2 x4 x5 → L) (HB : ¬ cpG n m x2 x4 x5 → B) :
    ((x5 < 0 → B) ∧ (¬ x5 < 0 → ((x2 < 0 → B) ∧ (¬ x2 < 0 → ((x4 < 0 → B) ∧ (¬ x4 < 0 → ((a < x2 → B) ∧ (¬ a < x2 → ((b < x4 → B) ∧ (¬ b < x4 → (((a - x2) < x5 → B) ∧ (¬ (a - x2) < x5 → ((x5 ≤ (b - x4) → L) ∧ (¬ x5 ≤ (b - x4) → B)))))))))))))) := by
  have tn : a.toInt = n := by rw [ea]; exact nI_toInt (by omega)
  have tm : b.toInt = m := by rw [eb]; exact nI_toInt (by omega)
  by_cases c1 : x5.toInt < 0
  · exact (pT (lt0_iff.mpr c1)).mpr (HB (fun z => by have := z.2.2.1; omega))
  refine (pF (fun z => c1 (lt0_iff.mp z))).mpr ?_
  by_cases c2 : x2.toInt < 0
  · exact (pT (lt0_iff.mpr c2)).mpr (HB (fun z => by have := z.1; omega))
  refine (pF (fun z => c2 (lt0_iff.mp z))).mpr ?_
  by_cases c3 : x4.toInt < 0
  · exact (pT (lt0_iff.mpr c3)).mpr (HB (fun z => by have := z.2.1; omega))
  refine (pF (fun z => c3 (lt0_iff.mp z))).mpr ?_
  have e1 : (a - x2).toInt = n - x2.toInt := by rw [sub_nn (by omega) (by omega), tn]
  have e2 : (b - x4).toInt = m - x4.toInt := by rw [sub_nn (by omega) (by omega), tm]
  rw [Int32.lt_iff_toInt_lt, Int32.lt_iff_toInt_lt, Int32.lt_iff_toInt_lt, Int32.le_iff_toInt_le, e1, e2, tn, tm]
  refine ⟨fun c => HB (fun z => by have := z.2.2.2.1; omega), fun c4 => ⟨fun c => HB (fun z => by have := z.2.2.2.2; omega), fun c5 => ⟨fun c => HB (fun z => by have := z.2.2.2.1; omega), fun c6 => ⟨fun c => HG ⟨by omega, by omega, by omega, by omega, by omega⟩, fun c => HB (fun z => by have := z.2.2.2.2; omega)⟩⟩⟩⟩
theorem UF_copy_tail {n m : Nat} {a b x2 x4 x5 : Int32} {B L : Prop} (hn : n ≤ 40) (hm : m ≤ 40) (ea : a = nI n) (eb : b = nI m) (HG : cpG n m x2 x4 x5 → L) (HB : ¬ cpG n m x2 x4 x5 → B) :
    ((x2 < 0 → B) ∧ (¬ x2 < 0 → ((x4 < 0 → B) ∧ (¬ x4 < 0 → ((0 ≤ x5 → (((a - x2) < x5 → B) ∧ (¬ (a - x2) < x5 → ((x5 ≤ (b - x4) → L) ∧ (¬ x5 ≤ (b - x4) → B))))) ∧ (¬ 0 ≤ x5 → B)))))) := by
  have tn : a.toInt = n := by rw [ea]; exact nI_toInt (by omega)
  have tm : b.toInt = m := by rw [eb]; exact nI_toInt (by omega)
  by_cases c2 : x2.toInt < 0
  · exact (pT (lt0_iff.mpr c2)).mpr (HB (fun z => by have := z.1; omega))
  refine (pF (fun z => c2 (lt0_iff.mp z))).mpr ?_
  by_cases c3 : x4.toInt < 0
  · exact (pT (lt0_iff.mpr c3)).mpr (HB (fun z => by have := z.2.1; omega))
  refine (pF (fun z => c3 (lt0_iff.mp z))).mpr ?_
  have e1 : (a - x2).toInt = n - x2.toInt := by rw [sub_nn (by omega) (by omega), tn]
  have e2 : (b - x4).toInt = m - x4.toInt := by rw [sub_nn (by omega) (by omega), tm]
  rw [Int32.lt_iff_toInt_lt, Int32.le_iff_toInt_le, Int32.le_iff_toInt_le, e1, e2, Int32.toInt_zero]
  refine ⟨fun c1 => ⟨fun c => HB (fun z => by have := z.2.2.2.1; omega), fun c6 => ⟨fun c => HG ⟨by omega, by omega, by omega, by omega, by omega⟩, fun c => HB (fun z => by have := z.2.2.2.2; omega)⟩⟩, fun c => HB (fun z => by have := z.2.2.1; omega)⟩
def cpN (f : Int32 → Int32) (a b c p : Nat) : Int32 := if b ≤ p ∧ p < b + c then f (nI (a + (p - b))) else f (nI p)
theorem MO_copy_up {a b c : Nat} {Q : Int32 → AH → Prop} {h0 : AH} (ha : a + c ≤ 160) (hb : b + c ≤ 160) (hba : b ≤ a) (HQ : ∀ h', frm [72] h0 h' → (∀ p, p < 160 → h'.1 72 (nI p) = cpN (h0.1 72) a b c p) → Q (nI c) h') : ∀ (cnt k : Nat) (h : AH), k + cnt = c → frm [72] h0 h → (∀ p, p < 160 → h.1 72 (nI p) = cpN (h0.1 72) a b k p) → p_MO_copy_147 Q (cnt + 1) (nI c) (nI a) (nI b) (nI k) h := by
  intro cnt
  induction cnt with
  | zero =>
    intro k h hk f R
    have hk' : k = c := by omega
    subst hk'
    simp only [p_MO_copy_147]
    rw [pT (Int32.le_refl _)]
    exact HQ h f R
  | succ cnt ih =>
    intro k h hk f R
    obtain ⟨n', hn'⟩ : ∃ n', n' = cnt + 1 := ⟨_, rfl⟩
    rw [← hn']
    rw [← hn'] at ih
    simp only [p_MO_copy_147]
    rw [pF (fun z => by have := (nI_leN (by omega) (by omega)).mp z; omega), pT ((nI_leN (by omega) (by omega)).mpr hba)]
    unfold p_MO_copy_173
    rw [nI_add, nI_add, nI_1]
    refine ⟨inb_nI (by omega) (by omega), inb_nI (by omega) (by omega), ih (k + 1) _ (by omega) (frm_w f (by simp)) (fun p hp => ?_)⟩
    rw [wI_r, if_pos rfl, up_a, R (a + k) (by omega)]
    unfold cpN
    rw [if_neg (show ¬ (b ≤ a + k ∧ a + k < b + k) by omega)]
    by_cases e : p = b + k
    · subst e; rw [if_pos rfl, if_pos (by omega), Nat.add_sub_cancel_left]
    · rw [if_neg (fun z => e ((nI_inj (by omega) (by omega)).mp z)), R p hp]
      unfold cpN
      by_cases e2 : b ≤ p ∧ p < b + k
      · rw [if_pos e2, if_pos (by omega)]
      · rw [if_neg e2, if_neg (by omega)]
theorem MO_copy_down {a b c : Nat} {Q : Int32 → AH → Prop} {h0 : AH} (ha : a + c ≤ 160) (hb : b + c ≤ 160) (hba : a < b) (HQ : ∀ h', frm [72] h0 h' → (∀ p, p < 160 → h'.1 72 (nI p) = cpN (h0.1 72) a b c p) → Q (nI c) h') : ∀ (cnt k : Nat) (h : AH), k + cnt = c → frm [72] h0 h → (∀ p, p < 160 → h.1 72 (nI p) = if b + cnt ≤ p ∧ p < b + c then h0.1 72 (nI (a + (p - b))) else h0.1 72 (nI p)) → p_MO_copy_147 Q (cnt + 1) (nI c) (nI a) (nI b) (nI k) h := by
  intro cnt
  induction cnt with
  | zero =>
    intro k h hk f R
    have hk' : k = c := by omega
    subst hk'
    simp only [p_MO_copy_147]
    rw [pT (Int32.le_refl _)]
    exact HQ h f R
  | succ cnt ih =>
    intro k h hk f R
    obtain ⟨n', hn'⟩ : ∃ n', n' = cnt + 1 := ⟨_, rfl⟩
    rw [← hn']
    rw [← hn'] at ih
    simp only [p_MO_copy_147]
    rw [pF (fun z => by have := (nI_leN (by omega) (by omega)).mp z; omega), pF (fun z => by have := (nI_leN (by omega) (by omega)).mp z; omega)]
    unfold p_MO_copy_173
    rw [show nI c - 1 - nI k = nI cnt by rw [show (1 : Int32) = nI 1 from rfl, nI_subN (by omega), nI_subN (by omega), show c - 1 - k = cnt by omega], nI_add, nI_add, nI_1]
    refine ⟨inb_nI (by omega) (by omega), inb_nI (by omega) (by omega), ih (k + 1) _ (by omega) (frm_w f (by simp)) (fun p hp => ?_)⟩
    rw [wI_r, if_pos rfl, up_a, R (a + cnt) (by omega), if_neg (show ¬ (b + (cnt + 1) ≤ a + cnt ∧ a + cnt < b + c) by omega)]
    by_cases e : p = b + cnt
    · subst e; rw [if_pos rfl, if_pos (by omega), Nat.add_sub_cancel_left]
    · rw [if_neg (fun z => e ((nI_inj (by omega) (by omega)).mp z)), R p hp]
      by_cases e2 : b + (cnt + 1) ≤ p ∧ p < b + c
      · rw [if_pos e2, if_pos (by omega)]
      · rw [if_neg e2, if_neg (by omega)]
theorem Sh_copy {s u i j c n m : Nat} {h h1 h2 : AH} (hs : s < 4) (hu : u < 4) (hn : i + c ≤ n) (hm : j + c ≤ m) (n40 : n ≤ 40) (m40 : m ≤ 40) (S : Sh h) (e1 : h1 = wC h (52 + 2 * s) (52 + 2 * u) (nI i) (nI j) (nI c)) (f : frm [72] h1 h2) (R : ∀ p, p < 160 → h2.1 72 (nI p) = cpN (h1.1 72) (40 * s + i) (40 * u + j) c p) : Sh h2 := fun v hv => by
  have g1 : ∀ b, ¬ b = 52 + 2 * u → h1.1 b = h.1 b := fun b hb => by rw [e1]; exact if_neg hb
  have g2 : ∀ b, ¬ b = 52 + 2 * u → ¬ b = 72 → h2.1 b = h.1 b := fun b hb hb2 => (f.2 b (by simpa using hb2)).trans (g1 b hb)
  obtain ⟨s1, s2, s3, s4⟩ := S v hv
  rw [g2 (51 + 2 * v) (by omega) (by omega), g2 70 (by omega) (by omega), g2 71 (by omega) (by omega)]
  refine ⟨s1, s2, s3, fun q hq => ?_⟩
  rw [R (40 * v + q) (by omega), g1 72 (by omega)]
  unfold cpN
  by_cases e : v = u
  · subst e
    have r5 : h2.1 (52 + 2 * v) = cpI (h.1 (52 + 2 * s)) (h.1 (52 + 2 * v)) (nI i) (nI j) (nI c) := by
      rw [f.2 (52 + 2 * v) (by simp; omega), e1]; exact if_pos rfl
    rw [r5]
    unfold cpI
    rw [nI_toInt (by omega), nI_toInt (by omega), nI_toInt (by omega)]
    by_cases e2 : j ≤ q ∧ q < j + c
    · rw [if_pos (by omega), if_pos (by omega), nI_subN e2.1, nI_add, show 40 * s + i + (40 * v + q - (40 * v + j)) = 40 * s + (i + (q - j)) by omega]
      exact (S s hs).2.2.2 (i + (q - j)) (by omega)
    · rw [if_neg (by omega), if_neg (by omega)]
      exact s4 q hq
  · rw [g2 (52 + 2 * v) (by omega) (by omega), if_neg (by omega)]
    exact s4 q hq
theorem both_copy {x1 x2 x3 x4 x5 : Int32} {h : AH} (I : Inv h) : p_UF_copy (fun r1 h1 => p_MO_copy (K2 r1) x1 x2 x3 x4 x5 h1) x1 x2 x3 x4 x5 h := by
  have S := Inv_Sh I
  have bad : ∀ v, v = -2 → (¬ (0 ≤ x1 ∧ x1 ≤ 3) ∨ ¬ (0 ≤ x3 ∧ x3 ≤ 3)) → p_MO_copy (K2 v) x1 x2 x3 x4 x5 h := fun v hv hb => by
    unfold p_MO_copy
    rw [MO_in_iff]
    by_cases c1 : 0 ≤ x1 ∧ x1 ≤ 3
    · rw [b01_t c1]
      refine (pF (by decide)).mpr ?_
      rw [MO_in_iff, b01_f (hb.resolve_left (fun z => z c1))]
      exact (nT rfl).mpr ⟨hv, I⟩
    · rw [b01_f c1]; exact (pT rfl).mpr ⟨hv, I⟩
  unfold p_UF_copy
  rw [UF_isSheet_iff]
  by_cases c1 : 0 ≤ x1 ∧ x1 ≤ 3
  · rw [b01_t c1]
    refine (pF (by decide)).mpr ?_
    rw [UF_isSheet_iff]
    by_cases c2 : 0 ≤ x3 ∧ x3 ≤ 3
    · rw [b01_t c2]
      refine (nF (by decide)).mpr ?_
      obtain ⟨s, hs, rfl⟩ := sheetN.mp c1
      obtain ⟨u, hu, rfl⟩ := sheetN.mp c2
      obtain ⟨t1, t2, t3, t4, t5, t6⟩ := sheetT hs h
      obtain ⟨w1, w2, w3, w4, w5, w6⟩ := sheetT hu h
      obtain ⟨s1, s2, ⟨n, hn, s3, s4⟩, s5⟩ := S s hs
      obtain ⟨u1, u2, ⟨m, hm, u3, u4⟩, u5⟩ := S u hu
      have is : inb (nI s) 4 := inb_nI hs (by omega)
      have iu : inb (nI u) 4 := inb_nI hu (by omega)
      have open1 : ∀ r1 (h1 : AH), h1.1 70 = h.1 70 → h1.1 71 = h.1 71 → ((h.1 70 (nI s) = -1 ∧ K2 r1 (-11) h1) ∨ (¬ h.1 70 (nI s) = -1 ∧ h.1 70 (nI u) = -1 ∧ K2 r1 (-11) h1) ∨ (¬ h.1 70 (nI s) = -1 ∧ ¬ h.1 70 (nI u) = -1 ∧ ((¬ h.1 70 (nI s) = h.1 70 (nI u) ∧ K2 r1 (-13) h1) ∨ (h.1 70 (nI s) = h.1 70 (nI u) ∧ (cpG n m x2 x4 x5 → ∃ k, p_MO_copy_147 (K2 r1) k x5 (40 * nI s + x2) (40 * nI u + x4) 0 h1) ∧ (¬ cpG n m x2 x4 x5 → K2 r1 (-12) h1))))) → p_MO_copy (K2 r1) (nI s) x2 (nI u) x4 x5 h1 := fun r1 h1 e70 e71 H => by
        unfold p_MO_copy
        rw [MO_in_iff, b01_t c1]
        refine (pF (by decide)).mpr ?_
        rw [MO_in_iff, b01_t c2]
        refine (nF (by decide)).mpr ⟨is, ?_⟩
        rw [e70, e71]
        rcases H with ⟨d1, H⟩ | ⟨d1, d2, H⟩ | ⟨d1, d2, ⟨d3, H⟩ | ⟨d3, H1, H2⟩⟩
        · exact (pT d1).mpr H
        · exact (pF d1).mpr ⟨iu, (nT d2).mpr H⟩
        · exact (pF d1).mpr ⟨iu, (nF d2).mpr ((pF d3).mpr H)⟩
        · exact (pF d1).mpr ⟨iu, (nF d2).mpr ((pT d3).mpr (MO_copy_tail hn hm s4 u4 H1 H2))⟩
      rw [nI_clamp (by omega), nI_clamp (by omega), t1, w1, Nat.add_sub_cancel, Nat.add_sub_cancel, t4, w4, Nat.add_sub_cancel, Nat.add_sub_cancel, t6, w6]
      refine ⟨is, Nat.succ_pos _, iu, Nat.succ_pos _, t2, t3, ?_⟩
      by_cases d1 : h.1 70 (nI s) = -1
      · exact (pT (s1.trans d1)).mpr (open1 _ h rfl rfl (Or.inl ⟨d1, rfl, I⟩))
      · refine (pF (fun z => d1 (s1.symm.trans z))).mpr ⟨w2, w3, ?_⟩
        by_cases d2 : h.1 70 (nI u) = -1
        · exact (nT (u1.trans d2)).mpr (open1 _ h rfl rfl (Or.inr (Or.inl ⟨d1, d2, rfl, I⟩)))
        · refine (nF (fun z => d2 (u1.symm.trans z))).mpr ?_
          by_cases d3 : h.1 70 (nI s) = h.1 70 (nI u)
          · refine (pT (by rw [s1, u1]; exact d3)).mpr ?_
            refine UF_copy_tail hn hm s3 u3 (fun G => ?_) (fun G => open1 _ h rfl rfl (Or.inr (Or.inr ⟨d1, d2, Or.inr ⟨d3, fun z => absurd z G, fun _ => ⟨rfl, I⟩⟩⟩)))
            obtain ⟨g1, g2, g3, g4, g5⟩ := G
            obtain ⟨i, hi, ei⟩ : ∃ i : Nat, x2.toInt = i ∧ x2 = nI i := ⟨x2.toInt.toNat, by omega, nI_ofT g1⟩
            obtain ⟨j, hj, ej⟩ : ∃ i : Nat, x4.toInt = i ∧ x4 = nI i := ⟨x4.toInt.toNat, by omega, nI_ofT g2⟩
            obtain ⟨c, hc, ec⟩ : ∃ i : Nat, x5.toInt = i ∧ x5 = nI i := ⟨x5.toInt.toNat, by omega, nI_ofT g3⟩
            refine ⟨Nat.succ_pos _, Nat.succ_pos _, t5, rfl, w5, rfl, g1, g2, g3, by show _ ≤ (40 : Int); omega, by show _ ≤ (40 : Int); omega, by decide, by decide, ?_⟩
            obtain ⟨h1, e1⟩ : ∃ h1, h1 = wC h (52 + 2 * s) (52 + 2 * u) x2 x4 x5 := ⟨_, rfl⟩
            rw [← e1]
            have k1 : ∀ b, ¬ b = 52 + 2 * u → h1.1 b = h.1 b := fun b hb => by rw [e1]; exact if_neg hb
            show p_MO_copy (K2 x5) (nI s) x2 (nI u) x4 x5 h1
            refine open1 _ h1 (k1 70 (by omega)) (k1 71 (by omega)) (Or.inr (Or.inr ⟨d1, d2, Or.inr ⟨d3, fun _ => ⟨c + 1, ?_⟩, fun z => absurd ⟨g1, g2, g3, g4, g5⟩ z⟩⟩))
            have fin : ∀ h', frm [72] h1 h' → (∀ p, p < 160 → h'.1 72 (nI p) = cpN (h1.1 72) (40 * s + i) (40 * u + j) c p) → K2 x5 (nI c) h' := fun h' f R => by
              refine ⟨ec, Inv_sheets I ?_ (Sh_copy hs hu (n := n) (m := m) (by omega) (by omega) hn hm S (by rw [e1, ei, ej, ec]) f R)⟩
              refine ⟨f.1.trans (by rw [e1]; rfl), fun b hb => ?_⟩
              rw [f.2 b (fun z => hb (by simp only [List.mem_cons, List.not_mem_nil, or_false] at z; rw [z]; decide)), k1 b (fun z => hb (by rw [z]; exact (SSh_of hu).2))]
            rw [ei, ej, nI_40, nI_40]
            by_cases dd : 40 * u + j ≤ 40 * s + i
            · have := MO_copy_up (Q := K2 x5) (h0 := h1) (a := 40 * s + i) (b := 40 * u + j) (c := c) (by omega) (by omega) dd fin c 0 h1 (by omega) frm_rf (fun p hp => by unfold cpN; rw [if_neg (by omega)])
              rw [← ec] at this; exact this
            · have := MO_copy_down (Q := K2 x5) (h0 := h1) (a := 40 * s + i) (b := 40 * u + j) (c := c) (by omega) (by omega) (by omega) fin c 0 h1 (by omega) frm_rf (fun p hp => by rw [if_neg (by omega)])
              rw [← ec] at this; exact this
          · refine (pF (by rw [s1, u1]; exact d3)).mpr ?_
            exact open1 _ h rfl rfl (Or.inr (Or.inr ⟨d1, d2, Or.inl ⟨d3, rfl, I⟩⟩))
    · rw [b01_f c2]
      exact (nT rfl).mpr (bad _ rfl (Or.inr c2))
  · rw [b01_f c1]
    exact (pT rfl).mpr (bad _ rfl (Or.inl c1))
