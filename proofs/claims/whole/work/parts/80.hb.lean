/-! pure: housesBy -/
abbrev okP (n : Nat) (x : Int32) (k : Nat) : Prop := 0 ≤ x.toInt ∧ x.toInt + 3 * (k : Int) + 3 ≤ (n : Int)
def hbF (n : Nat) (x : Int32) (D : Nat → Int32) : Nat → Nat → Nat → EV → (Nat → Int32) → Int32 × EV × (Nat → Int32)
  | 0, _, c, E, hi => (nI c, E, hi)
  | m + 1, k, c, E, hi => if okP n x k then (if okA (D (x.toInt.toNat + 3 * k)) (D (x.toInt.toNat + 3 * k + 1)) (D (x.toInt.toNat + 3 * k + 2)) ∧ E.N < 7 then hbF n x D m (k + 1) (c + 1) (extE E (D (x.toInt.toNat + 3 * k)) (D (x.toInt.toNat + 3 * k + 1)) (D (x.toInt.toNat + 3 * k + 2))) (upN hi E.N 9) else hbF n x D m (k + 1) c E hi) else (-12, E, hi)
theorem hbF_bad {n m k c : Nat} {x : Int32} {D : Nat → Int32} {E : EV} {hi : Nat → Int32} (z : ¬ okP n x k) : hbF n x D (m + 1) k c E hi = (-12, E, hi) := by
  show (if okP n x k then _ else _) = _
  exact if_neg z
theorem hbF_new {n m k c a : Nat} {x : Int32} {D : Nat → Int32} {E : EV} {hi : Nat → Int32} (z : okP n x k) (ea : x.toInt.toNat = a) (ok : okA (D (a + 3 * k)) (D (a + 3 * k + 1)) (D (a + 3 * k + 2)) ∧ E.N < 7) : hbF n x D (m + 1) k c E hi = hbF n x D m (k + 1) (c + 1) (extE E (D (a + 3 * k)) (D (a + 3 * k + 1)) (D (a + 3 * k + 2))) (upN hi E.N 9) := by
  subst ea
  show (if okP n x k then (if _ then _ else _) else _) = _
  rw [if_pos z, if_pos ok]
theorem hbF_old {n m k c a : Nat} {x : Int32} {D : Nat → Int32} {E : EV} {hi : Nat → Int32} (z : okP n x k) (ea : x.toInt.toNat = a) (no : ¬ (okA (D (a + 3 * k)) (D (a + 3 * k + 1)) (D (a + 3 * k + 2)) ∧ E.N < 7)) : hbF n x D (m + 1) k c E hi = hbF n x D m (k + 1) c E hi := by
  subst ea
  show (if okP n x k then (if _ then _ else _) else _) = _
  rw [if_pos z, if_neg no]
theorem hbF_ok {n : Nat} {x : Int32} {D : Nat → Int32} : ∀ (m k c : Nat) (E : EV) (hi : Nat → Int32), E.ok → rng E.N hi E.people E.partner → (hbF n x D m k c E hi).2.1.ok ∧ rng (hbF n x D m k c E hi).2.1.N (hbF n x D m k c E hi).2.2 (hbF n x D m k c E hi).2.1.people (hbF n x D m k c E hi).2.1.partner ∧ (hbF n x D m k c E hi).2.1.c = E.c ∧ E.N ≤ (hbF n x D m k c E hi).2.1.N := by
  intro m
  induction m with
  | zero => intro k c E hi e g; exact ⟨e, g, rfl, Nat.le_refl _⟩
  | succ m ih =>
    intro k c E hi e g
    by_cases z : okP n x k
    · by_cases ok : okA (D (x.toInt.toNat + 3 * k)) (D (x.toInt.toNat + 3 * k + 1)) (D (x.toInt.toNat + 3 * k + 2)) ∧ E.N < 7
      · rw [hbF_new z rfl ok]
        obtain ⟨o1, o2⟩ := extE_ok e g ok.2 ok.1
        obtain ⟨i1, i2, i3, i4⟩ := ih (k + 1) (c + 1) _ _ o1 o2
        exact ⟨i1, i2, i3, Nat.le_trans (Nat.le_succ _) i4⟩
      · rw [hbF_old z rfl ok]
        exact ih (k + 1) c E hi e g
    · rw [hbF_bad z]
      exact ⟨e, g, rfl, Nat.le_refl _⟩
theorem sub3_t {n : Nat} (hn : n ≤ 40) : (nI n - 3).toInt = (n : Int) - 3 := by
  rw [Int32.toInt_sub, nI_toInt (by omega), show (3 : Int32).toInt = 3 by decide]
  exact Int.bmod_eq_of_le (by omega) (by omega)
theorem le3 {p n : Nat} (hn : n ≤ 40) (hp : p < 2147483648) : nI p ≤ nI n - 3 ↔ p + 3 ≤ n := by
  rw [Int32.le_iff_toInt_le, sub3_t hn, nI_toInt (by omega)]; omega
theorem ap3 (a k : Nat) : nI a + 3 * nI k = nI (a + 3 * k) := by
  rw [show (3 : Int32) = nI 3 from rfl, nI_mul, nI_add]
theorem nI_p2 (k : Nat) : nI k + 2 = nI (k + 2) := by
  rw [show (2 : Int32) = nI 2 from rfl, nI_add]
theorem okP_nat {n k : Nat} {x : Int32} (z : okP n x k) : ∃ a, x = nI a ∧ x.toInt.toNat = a ∧ a + 3 * k + 3 ≤ n :=
  ⟨x.toInt.toNat, nI_ofT z.1, rfl, by have := z.1; have := z.2; omega⟩
theorem UF_hb {n s : Nat} {x : Int32} {D : Nat → Int32} {Q : Int32 → AH → Prop} (hn : n ≤ 40) (hs : s < 4) : ∀ (m k c f : Nat) (E : EV) (hi : Nat → Int32) (h : AH), m ≤ f → k + m ≤ 7 → E.N ≤ 7 → CTn E hi h → h.1 (51 + 2 * s) 2 = nI n → (∀ i, i < 40 → h.1 (52 + 2 * s) (nI i) = D i) → (∀ h', CTn (hbF n x D m k c E hi).2.1 (hbF n x D m k c E hi).2.2 h' → frH h h' → Q (hbF n x D m k c E hi).1 h') → p_UF_housesBy_68 Q (f + 1) x (nI (k + m)) (51 + 2 * s) (nI c) (nI k) h := by
  intro m
  induction m with
  | zero =>
    intro k c f E hi h _ hk e7 T _ _ HQ
    simp only [p_UF_housesBy_68]
    exact (pT (by rw [Nat.add_zero]; exact Int32.le_refl _)).mpr (HQ h T frH_rf)
  | succ m ih =>
    intro k c f E hi h hf hk e7 T h2 hD HQ
    obtain ⟨t1, t2, t3, t4, t5, t6⟩ := sheetT hs h
    simp only [p_UF_housesBy_68]
    refine (pF (fun z => by have := (nI_leN (by omega) (by omega)).mp z; omega)).mpr ?_
    have bad : ¬ okP n x k → Q (-12) h := fun z => by
      rw [hbF_bad z] at HQ
      exact HQ h T frH_rf
    by_cases c0 : x < 0
    · exact (pT c0).mpr (bad (fun z => by
        have := z.1
        rw [Int32.lt_iff_toInt_lt, Int32.toInt_zero] at c0
        omega))
    refine (pF c0).mpr ⟨t2, t3, ?_⟩
    rw [h2]
    by_cases c1 : nI n - 3 < x
    · exact (pT c1).mpr (bad (fun z => by
        have := z.2
        rw [Int32.lt_iff_toInt_lt, sub3_t hn] at c1
        omega))
    refine (pF c1).mpr ?_
    have z0 : 0 ≤ x.toInt := by rw [Int32.lt_iff_toInt_lt, Int32.toInt_zero] at c0; omega
    have z1 : x.toInt ≤ (n : Int) - 3 := by rw [Int32.lt_iff_toInt_lt, sub3_t hn] at c1; omega
    obtain ⟨a, ha⟩ : ∃ a, x.toInt.toNat = a := ⟨_, rfl⟩
    have xa : x = nI a := by rw [← ha]; exact nI_ofT z0
    have e3 : x + 3 * nI k = nI (a + 3 * k) := by rw [xa, ap3]
    rw [e3]
    by_cases z : okP n x k
    rotate_left
    · refine (pF (fun w => z ?_)).mpr (bad z)
      have := (le3 hn (by omega)).mp w
      exact ⟨z0, by omega⟩
    have az : a + 3 * k + 3 ≤ n := by have := z.2; omega
    refine (pT ((le3 hn (by omega)).mpr az)).mpr ?_
    rw [t4, Nat.add_sub_cancel, t6, nI_1, nI_p2]
    have i1 : inb (nI (a + 3 * k)) 40 := inb_nI (by omega) (by omega)
    have i2 : inb (nI (a + 3 * k + 1)) 40 := inb_nI (by omega) (by omega)
    have i3 : inb (nI (a + 3 * k + 2)) 40 := inb_nI (by omega) (by omega)
    refine ⟨Nat.succ_pos _, t5, rfl, i1, i2, i3, ?_⟩
    rw [hD _ (by omega), hD _ (by omega), hD _ (by omega)]
    obtain ⟨f, rfl⟩ : ∃ f', f = f' + 1 := ⟨f - 1, by omega⟩
    have ek : k + (m + 1) = k + 1 + m := by omega
    have old : ¬ (okA (D (a + 3 * k)) (D (a + 3 * k + 1)) (D (a + 3 * k + 2)) ∧ E.N < 7) → p_UF_housesBy_68 Q (f + 1) x (nI (k + (m + 1))) (51 + 2 * s) (nI c) (nI k + 1) h := fun no => by
      rw [nI_1, ek]
      exact ih (k + 1) c f E hi h (by omega) (by omega) e7 T h2 hD (by rw [hbF_old z ha no] at HQ; exact HQ)
    refine UF_settle_spec e7 T (fun no => ?_) (fun ok q7 => ?_) (fun ok q7 h' T' f' => ?_)
    · refine (pT (show (-2 : Int32) < 0 by decide)).mpr ?_
      exact old (fun w => no w.1)
    · refine (pT (show (-4 : Int32) < 0 by decide)).mpr ?_
      exact old (fun w => by omega)
    · refine (pF (show ¬ nI E.N < 0 from fun w => by
        rw [Int32.lt_iff_toInt_lt, Int32.toInt_zero, nI_toInt (by omega)] at w; omega)).mpr ?_
      show p_UF_housesBy_68 Q (f + 1) x (nI (k + (m + 1))) (51 + 2 * s) (nI c + 1) (nI k + 1) h'
      rw [nI_1, nI_1, ek]
      have g : ∀ b, 8 < b → b < 84 → h'.1 b = h.1 b := fun b b1 b2 => f'.1 b b2 (fun w => by simp only [List.mem_cons, List.not_mem_nil, or_false] at w; omega)
      rw [hbF_new z ha ⟨ok, q7⟩] at HQ
      exact ih (k + 1) (c + 1) f (extE E (D (a + 3 * k)) (D (a + 3 * k + 1)) (D (a + 3 * k + 2))) (upN hi E.N 9) h' (by omega) (by omega) (Nat.succ_le_of_lt q7) T' (by rw [g _ (by omega) (by omega)]; exact h2) (fun i hi => by rw [g _ (by omega) (by omega)]; exact hD i hi) (fun h3 T3 f3 => HQ h3 T3 (frH_tr f' f3))
theorem MO_hb {n s : Nat} {x : Int32} {D : Nat → Int32} {Q : Int32 → AH → Prop} (hn : n ≤ 40) (hs : s < 4) : ∀ (m k c : Nat) (E : EV) (hi : Nat → Int32) (h : AH), k + m ≤ 7 → E.N ≤ 7 → MTn E hi h → h.1 71 (nI s) = nI n → (∀ i, i < 40 → h.1 72 (nI (40 * s + i)) = D i) → (∀ h', MTn (hbF n x D m k c E hi).2.1 (hbF n x D m k c E hi).2.2 h' → frK h h' → Q (hbF n x D m k c E hi).1 h') → p_MO_housesBy_64 Q (m + 1) (nI s) x (nI (k + m)) (nI c) (nI k) h := by
  intro m
  induction m with
  | zero =>
    intro k c E hi h hk e7 T _ _ HQ
    simp only [p_MO_housesBy_64]
    exact (pT (by rw [Nat.add_zero]; exact Int32.le_refl _)).mpr (HQ h T frK_rf)
  | succ m ih =>
    intro k c E hi h hk e7 T h2 hD HQ
    obtain ⟨f, hf⟩ : ∃ f, f = m + 1 := ⟨_, rfl⟩
    rw [← hf] at HQ ⊢
    simp only [p_MO_housesBy_64]
    subst hf
    refine (pF (fun z => by have := (nI_leN (by omega) (by omega)).mp z; omega)).mpr ?_
    have bad : ¬ okP n x k → Q (-12) h := fun z => by
      rw [hbF_bad z] at HQ
      exact HQ h T frK_rf
    by_cases c0 : x < 0
    · exact (pT c0).mpr (bad (fun z => by
        have := z.1
        rw [Int32.lt_iff_toInt_lt, Int32.toInt_zero] at c0
        omega))
    refine (pF c0).mpr ?_
    have z0 : 0 ≤ x.toInt := by rw [Int32.lt_iff_toInt_lt, Int32.toInt_zero] at c0; omega
    obtain ⟨a, ha⟩ : ∃ a, x.toInt.toNat = a := ⟨_, rfl⟩
    have xa : x = nI a := by rw [← ha]; exact nI_ofT z0
    have e3 : x + 3 * nI k = nI (a + 3 * k) := by rw [xa, ap3]
    by_cases c1 : x + 3 * nI k < x
    · refine (pT c1).mpr (bad (fun z => ?_))
      have az := z.2
      rw [e3, Int32.lt_iff_toInt_lt, nI_toInt (by omega)] at c1
      omega
    refine (pF c1).mpr ⟨inb_nI (by omega) (by omega), ?_⟩
    rw [h2]
    by_cases z : okP n x k
    rotate_left
    · refine (pF (fun w => z ?_)).mpr (bad z)
      rw [Int32.le_iff_toInt_le, sub3_t hn] at w
      rw [Int32.lt_iff_toInt_lt] at c1
      have a37 : a ≤ 37 := by omega
      rw [e3, nI_toInt (by omega)] at w
      exact ⟨z0, by omega⟩
    have az : a + 3 * k + 3 ≤ n := by have := z.2; omega
    rw [e3]
    refine (pT ((le3 hn (by omega)).mpr az)).mpr ?_
    rw [nI_40, nI_1, nI_p2]
    refine ⟨inb_nI (by omega) (by omega), inb_nI (by omega) (by omega), inb_nI (by omega) (by omega), ?_⟩
    rw [hD _ (by omega), show 40 * s + (a + 3 * k) + 1 = 40 * s + (a + 3 * k + 1) from rfl, show 40 * s + (a + 3 * k) + 2 = 40 * s + (a + 3 * k + 2) from rfl, hD _ (by omega), hD _ (by omega)]
    have ek : k + (m + 1) = k + 1 + m := by omega
    have old : ¬ (okA (D (a + 3 * k)) (D (a + 3 * k + 1)) (D (a + 3 * k + 2)) ∧ E.N < 7) → p_MO_housesBy_64 Q (m + 1) (nI s) x (nI (k + (m + 1))) (nI c + 0) (nI k + 1) h := fun no => by
      rw [nI_1, ek, Int32.add_zero]
      exact ih (k + 1) c E hi h (by omega) e7 T h2 hD (by rw [hbF_old z ha no] at HQ; exact HQ)
    refine MO_house_spec e7 T (fun no => ?_) (fun ok q7 => ?_) (fun ok q7 h' T' f' => ?_)
    · refine (pT (show (-2 : Int32) < 0 by decide)).mpr ?_
      exact old (fun w => no w.1)
    · refine (pT (show (-4 : Int32) < 0 by decide)).mpr ?_
      exact old (fun w => by omega)
    · refine (pF (show ¬ nI E.N < 0 from fun w => by
        rw [Int32.lt_iff_toInt_lt, Int32.toInt_zero, nI_toInt (by omega)] at w; omega)).mpr ?_
      show p_MO_housesBy_64 Q (m + 1) (nI s) x (nI (k + (m + 1))) (nI c + 1) (nI k + 1) h'
      rw [nI_1, nI_1, ek]
      have g : ∀ b, 65 < b → h'.1 b = h.1 b := fun b b1 => f'.2.1 b (fun w => by simp only [List.mem_cons, List.not_mem_nil, or_false] at w; omega)
      rw [hbF_new z ha ⟨ok, q7⟩] at HQ
      exact ih (k + 1) (c + 1) (extE E (D (a + 3 * k)) (D (a + 3 * k + 1)) (D (a + 3 * k + 2))) (upN hi E.N 9) h' (by omega) (Nat.succ_le_of_lt q7) T' (by rw [g _ (by omega)]; exact h2) (fun i hi => by rw [g _ (by omega)]; exact hD i hi) (fun h3 T3 f3 => HQ h3 T3 (frK_tr f' f3))
theorem both_housesBy {x1 x2 x3 x4 : Int32} {h : AH} (I : Inv h) : p_UF_housesBy (fun r1 h1 => p_MO_housesBy (K2 r1) x1 x2 x3 x4 h1) x1 x2 x3 x4 h := by
  have S := Inv_Sh I
  unfold p_UF_housesBy
  rw [UF_isSheet_iff]
  by_cases c1 : 0 ≤ x1 ∧ x1 ≤ 3
  rotate_left
  · rw [b01_f c1]
    refine (pT rfl).mpr ?_
    show p_MO_housesBy (K2 _) _ _ _ _ _
    unfold p_MO_housesBy
    rw [MO_in_iff, b01_f c1]
    exact (pT rfl).mpr ⟨rfl, I⟩
  rw [b01_t c1]
  refine (pF (by decide)).mpr ?_
  rw [UF_within_iff]
  by_cases c2 : 0 ≤ x2 ∧ x2 ≤ 2
  rotate_left
  · rw [b01_f c2]
    refine (pT rfl).mpr ?_
    show p_MO_housesBy (K2 _) _ _ _ _ _
    unfold p_MO_housesBy
    rw [MO_in_iff, b01_t c1]
    refine (pF (by decide)).mpr ?_
    rw [MO_in_iff, b01_f c2]
    exact (pT rfl).mpr ⟨rfl, I⟩
  rw [b01_t c2]
  refine (pF (by decide)).mpr ?_
  rw [UF_within_iff]
  by_cases c3 : 0 ≤ x4 ∧ x4 ≤ 7
  rotate_left
  · rw [b01_f c3]
    refine (nT rfl).mpr ?_
    show p_MO_housesBy (K2 _) _ _ _ _ _
    unfold p_MO_housesBy
    rw [MO_in_iff, b01_t c1]
    refine (pF (by decide)).mpr ?_
    rw [MO_in_iff, b01_t c2]
    refine (pF (by decide)).mpr ?_
    rw [MO_in_iff, b01_f c3]
    exact (nT rfl).mpr ⟨rfl, I⟩
  rw [b01_t c3]
  refine (nF (by decide)).mpr ?_
  obtain ⟨s, hs, rfl⟩ := sheetN.mp c1
  obtain ⟨t1, t2, t3, t4, t5, t6⟩ := sheetT hs h
  obtain ⟨s1, s2, ⟨n, hn, s3, s4⟩, s5⟩ := S s hs
  have is : inb (nI s) 4 := inb_nI hs (by omega)
  rw [nI_clamp (by omega), t1, Nat.add_sub_cancel, s1]
  refine ⟨is, Nat.succ_pos _, t2, t3, ?_⟩
  by_cases c4 : h.1 70 (nI s) = -1
  · refine (nT c4).mpr ?_
    show p_MO_housesBy (K2 _) _ _ _ _ _
    unfold p_MO_housesBy
    rw [MO_in_iff, b01_t c1]
    refine (pF (by decide)).mpr ?_
    rw [MO_in_iff, b01_t c2]
    refine (pF (by decide)).mpr ?_
    rw [MO_in_iff, b01_t c3]
    exact (nF (by decide)).mpr ⟨is, (nT c4).mpr ⟨rfl, I⟩⟩
  refine (nF c4).mpr ?_
  by_cases c5 : h.1 70 (nI s) = x2
  rotate_left
  · refine (pF c5).mpr ?_
    show p_MO_housesBy (K2 _) _ _ _ _ _
    unfold p_MO_housesBy
    rw [MO_in_iff, b01_t c1]
    refine (pF (by decide)).mpr ?_
    rw [MO_in_iff, b01_t c2]
    refine (pF (by decide)).mpr ?_
    rw [MO_in_iff, b01_t c3]
    exact (nF (by decide)).mpr ⟨is, (nF c4).mpr ((pF c5).mpr ⟨rfl, I⟩)⟩
  refine (pT c5).mpr ?_
  obtain ⟨m, hm, rfl⟩ := (upto (n := 7) (by decide)).mp c3
  have I0 := I
  obtain ⟨E, hi, tN, r, C, IB⟩ := I
  have IB' := IB
  obtain ⟨a1, a2, a3, a4, a5, a6⟩ := IB'
  have key := UF_hb (n := n) (s := s) (x := x3) (D := fun i => h.1 72 (nI (40 * s + i))) (Q := fun r1 h1 => p_MO_housesBy (K2 r1) (nI s) x2 x3 (nI m) h1) hn hs m 0 0 7 E hi h hm (by omega) a1.n7 a4 s3 (fun i hi => s5 i hi) (fun h1 T1' f1 => ?_)
  · rw [Nat.zero_add] at key
    exact key
  have g : ∀ b, 8 < b → b < 84 → h1.1 b = h.1 b := fun b b1 b2 => f1.1 b b2 (fun w => by simp only [List.mem_cons, List.not_mem_nil, or_false] at w; omega)
  show p_MO_housesBy (K2 _) _ _ _ _ _
  unfold p_MO_housesBy
  rw [MO_in_iff, b01_t c1]
  refine (pF (by decide)).mpr ?_
  rw [MO_in_iff, b01_t c2]
  refine (pF (by decide)).mpr ?_
  rw [MO_in_iff, b01_t c3]
  refine (nF (by decide)).mpr ⟨is, ?_⟩
  rw [g 70 (by omega) (by omega)]
  refine (nF c4).mpr ((pT c5).mpr ⟨m + 1, ?_⟩)
  have key2 := MO_hb (n := n) (s := s) (x := x3) (D := fun i => h.1 72 (nI (40 * s + i))) (Q := K2 (hbF n x3 (fun i => h.1 72 (nI (40 * s + i))) m 0 0 E hi).1) hn hs m 0 0 E hi h1 (by omega) a1.n7 (MTn_H a5 f1) (by rw [g 71 (by omega) (by omega)]; exact s4) (fun i hi => by rw [g 72 (by omega) (by omega)]) (fun h2 M2 f2 => ⟨rfl, ?_⟩)
  · rw [Nat.zero_add] at key2
    exact key2
  obtain ⟨o1, o2, o3, o4⟩ := hbF_ok (n := n) (x := x3) (D := fun i => h.1 72 (nI (40 * s + i))) m 0 0 E hi a1 a3
  refine Inv_grow IB o1 o2 o3 o4 (CTn_K T1' f2) M2 (fun b hb hn => ?_) (fun j hj => ?_) (fun j hj => ?_)
  · rw [f2.2.1 b (fun z => hn (by simp only [List.mem_cons, List.not_mem_nil, or_false] at z ⊢; omega)), f1.1 b hb (fun z => hn (by simp only [List.mem_cons, List.not_mem_nil, or_false] at z ⊢; omega))]
  · rw [f2.2.1 5 (by decide)]; exact f1.2 j hj
  · rw [f2.2.2 j hj, f1.1 59 (by decide) (by decide)]
