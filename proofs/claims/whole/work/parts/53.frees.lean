/-! pure: frees -/
theorem leads5 {Q : Int32 → AH → Prop} {x : Int32} {h : AH} : p_Town_leads Q 5 x h ↔ (inb x 7 ∧ ((h.1 8 x ≤ x → Q 0 h) ∧ (¬ h.1 8 x ≤ x → ((h.1 5 3 ≤ h.1 8 x → Q 0 h) ∧ (¬ h.1 5 3 ≤ h.1 8 x → Q 1 h))))) := by
  constructor
  · rintro ⟨_, _, _, _, _, H⟩; exact H
  · intro H; exact ⟨vA_s (show 5 < 84 by decide), rfl, Nat.succ_pos _, vA_s (show 8 < 84 by decide), rfl, H⟩
theorem leads_ex {E : EV} {a : Nat} (e : E.ok) (ha : a < E.N) (h : ¬ E.partner a ≤ nI a) : ∃ j, j < E.N ∧ E.partner a = nI j := by
  have n7 := e.n7
  rcases e.partner a ha with z | z
  · exfalso
    apply h
    rw [z, Int32.le_iff_toInt_le, nI_toInt (by omega)]
    have e1 : (-1 : Int32).toInt = -1 := by decide
    omega
  · exact z
def freesB (E : EV) (hi : Nat → Int32) (k n a : Nat) : Bool := decide (¬ E.partner a ≤ nI a ∧ (goD (withPa E (looseF E.partner a)) hi n).hi k = 0)
def freesC (E : EV) (a : Nat) : Int32 := 10 * nI a + E.partner a
def freesL (v : Nat → Bool) (code : Nat → Int32) : Nat → Nat → Nat → Int32 → Int32 × Nat
  | 0, _, m, p => (p, m)
  | c + 1, a, m, p => if v a then freesL v code c (a + 1) (m + 1) (if m = 0 then code a else p) else freesL v code c (a + 1) m p
theorem freesC_ne {E : EV} {a : Nat} (e : E.ok) (ha : a < E.N) (h : ¬ E.partner a ≤ nI a) : ¬ freesC E a = -1 := by
  have n7 := e.n7
  obtain ⟨j, hj, ej⟩ := leads_ex e ha h
  unfold freesC
  rw [ej, show (10 : Int32) = nI 10 from rfl, nI_mul, nI_add]
  exact nI_ne1 (by omega)
theorem UF_frees_loop {E : EV} {hi : Nat → Int32} {k n : Nat} {what : Int32} {Q : Int32 → AH → Prop} {h0 : AH} (T0 : Tn E hi h0) (hn : n ≤ 24) (hk : k < E.N) : ∀ (cnt a m : Nat) (p : Int32) (h : AH), a + cnt = E.N → m ≤ a → frR h0 h → (∀ h', frR h0 h' → Q (if what = 0 then (freesL (freesB E hi k n) (freesC E) cnt a m p).1 else nI (freesL (freesB E hi k n) (freesC E) cnt a m p).2) h') → p_UF_frees_65 Q (cnt + 1) (nI k) (nI n) what p (nI m) (nI a) h := by
  intro cnt
  have n7 := T0.1.n7
  induction cnt with
  | zero =>
    intro a m p h ha hm f HQ
    have ha' : a = E.N := by omega
    subst ha'
    have T := Tn_I (frI_R f) T0
    simp only [p_UF_frees_65]
    rw [T.2.2.1.1, pT (Int32.le_refl _)]
    have H := HQ h f
    unfold p_UF_frees_165
    by_cases c : what = 0
    · rw [nT c]; rwa [if_pos c] at H
    · rw [nF c]; rwa [if_neg c] at H
  | succ cnt ih =>
    intro a m p h ha hm f HQ
    have aN : a < E.N := by omega
    obtain ⟨n', hn'⟩ : ∃ n', n' = cnt + 1 := ⟨_, rfl⟩
    rw [← hn']
    rw [← hn'] at ih
    have T := Tn_I (frI_R f) T0
    have P : paOk E.N E.partner := T.1.partner
    have ia : inb (nI a) 7 := inb_nI (by omega) (by omega)
    have no : ∀ h2, frR h0 h2 → freesB E hi k n a = false → p_UF_frees_159 Q (p_UF_frees_65 Q n') (nI k) (nI n) what p (nI m) (nI a) h2 := fun h2 f2 hb => by
      unfold p_UF_frees_159
      rw [nI_1]
      refine ih (a + 1) m p h2 (by omega) (by omega) f2 (fun h' f' => ?_)
      have H := HQ h' f'
      unfold freesL at H
      simpa only [hb, if_false, Bool.false_eq_true] using H
    have yes : ∀ h2 p', frR h0 h2 → freesB E hi k n a = true → (if m = 0 then freesC E a else p) = p' → p_UF_frees_156 Q (p_UF_frees_65 Q n') (nI k) (nI n) what p' (nI m) (nI a) h2 := fun h2 p' f2 hb hp => by
      unfold p_UF_frees_156 p_UF_frees_159
      rw [nI_1, nI_1]
      refine ih (a + 1) (m + 1) p' h2 (by omega) (by omega) f2 (fun h' f' => ?_)
      have H := HQ h' f'
      unfold freesL at H
      rw [if_pos hb, hp] at H
      exact H
    simp only [p_UF_frees_65]
    rw [T.2.2.1.1, pF (fun z => by have := (nI_leN (by omega) (by omega)).mp z; omega), leads5, T.2.2.1.2.2.2.1 a aN, T.2.2.1.1]
    refine ⟨ia, ?_⟩
    by_cases c1 : E.partner a ≤ nI a
    · rw [pT c1]
      exact (nT rfl).mpr (no h f (by unfold freesB; simp [c1]))
    · obtain ⟨j, hj, ej⟩ := leads_ex T.1 aN c1
      rw [pF c1, pF (fun z => by rw [ej] at z; have := (nI_leN (by omega) (by omega)).mp z; omega)]
      refine (nF (by decide)).mpr ?_
      refine UF_ready_spec T.1 T.2.2.1 (fun h1 f1 R1 M1 => ?_)
      refine loosen_spec tw14 n7 P aN R1.partner (fun h2 f2 R2 => ?_)
      refine Dusk_go_spec (E := withPa E (looseF E.partner a)) (withPa_ok T.1 (paOk_loose P)) hn (R1.setPa f2 R2) (M1.fr f2 (by simp)) T.hiOk (fun h3 f3 M3 => ?_)
      have f03 : frR h0 h3 := frR_tr f (frR_tr f1 (frR_tr (frR_frm f2 (by decide)) (frR_SC f3)))
      rw [isDown14, M3.hi k hk]
      refine ⟨inb_nI (by omega) (by omega), ?_⟩
      by_cases c2 : (goD (withPa E (looseF E.partner a)) hi n).hi k = 0
      · have hb : freesB E hi k n a = true := decide_eq_true ⟨c1, c2⟩
        refine (nT c2).mpr ((nF (by decide)).mpr ?_)
        by_cases cm : m = 0
        · subst cm
          refine (nT rfl).mpr ⟨ia, ?_⟩
          have T3 := Tn_I (frI_R f03) T0
          rw [T3.2.2.1.2.2.2.1 a aN]
          exact yes h3 _ f03 hb (if_pos rfl)
        · refine (nF (fun z => cm ((nI_inj (b := 0) (by omega) (by decide)).mp z))).mpr ?_
          exact yes h3 _ f03 hb (if_neg cm)
      · refine (nF c2).mpr ((nT rfl).mpr ?_)
        exact no h3 f03 (decide_eq_false (fun z => c2 z.2))
theorem MO_frees_loop {E : EV} {hi g : Nat → Int32} {k n : Nat} {what : Int32} {Q : Int32 → AH → Prop} {h0 : AH} (e : E.ok) (R0 : MTn E hi h0) (G : ∀ k, k < E.N → g k = E.partner k) (hn : n ≤ 24) (hk : k < E.N) : ∀ (cnt a m : Nat) (p : Int32) (h : AH), a + cnt = E.N → m ≤ a → (m = 0 ↔ p = -1) → chX E hi g h0 h → (∀ h', chX E hi g h0 h' → Q (if what = 0 then (freesL (freesB E hi k n) (freesC E) cnt a m p).1 else nI (freesL (freesB E hi k n) (freesC E) cnt a m p).2) h') → p_MO_frees_64 Q (cnt + 1) (nI k) (nI n) what 0 p (nI m) (nI a) h := by
  intro cnt
  have n7 := e.n7
  induction cnt with
  | zero =>
    intro a m p h ha hm hp X HQ
    have ha' : a = E.N := by omega
    subst ha'
    have R := chX_MTn R0 n7 G X
    simp only [p_MO_frees_64]
    rw [R.1.n, pT (Int32.le_refl _)]
    have H := HQ h X
    unfold p_MO_frees_166
    by_cases c : what = 0
    · rw [nT c]; rwa [if_pos c] at H
    · rw [nF c]; rwa [if_neg c] at H
  | succ cnt ih =>
    intro a m p h ha hm hp X HQ
    have aN : a < E.N := by omega
    obtain ⟨n', hn'⟩ : ∃ n', n' = cnt + 1 := ⟨_, rfl⟩
    rw [← hn']
    rw [← hn'] at ih
    have R := chX_MTn R0 n7 G X
    have P : paOk E.N E.partner := e.partner
    have ia : inb (nI a) 7 := inb_nI (by omega) (by omega)
    have ik : inb (nI k) 7 := inb_nI (by omega) (by omega)
    have no : ∀ h2, chX E hi g h0 h2 → freesB E hi k n a = false → p_MO_frees_160 Q (p_MO_frees_64 Q n') (nI k) (nI n) what 0 p (nI m) (nI a) h2 := fun h2 f2 hb => by
      unfold p_MO_frees_160
      rw [nI_1]
      refine ih (a + 1) m p h2 (by omega) (by omega) hp f2 (fun h' f' => ?_)
      have H := HQ h' f'
      unfold freesL at H
      simpa only [hb, if_false, Bool.false_eq_true] using H
    have yes : ∀ h2 p', chX E hi g h0 h2 → freesB E hi k n a = true → (if m = 0 then freesC E a else p) = p' → ¬ p' = -1 → p_MO_frees_157 Q (p_MO_frees_64 Q n') (nI k) (nI n) what 0 p' (nI a) (nI m) 1 h2 := fun h2 p' f2 hb hp' hne => by
      unfold p_MO_frees_157 p_MO_frees_160
      rw [nI_1, nI_1]
      refine ih (a + 1) (m + 1) p' h2 (by omega) (by omega) ⟨fun z => absurd z (by omega), fun z => absurd z hne⟩ f2 (fun h' f' => ?_)
      have H := HQ h' f'
      unfold freesL at H
      rw [if_pos hb, hp'] at H
      exact H
    simp only [p_MO_frees_64]
    rw [R.1.n, pF (fun z => by have := (nI_leN (by omega) (by omega)).mp z; omega), nT trivial]
    refine ⟨ia, ?_⟩
    rw [R.1.partner a aN]
    by_cases c1 : E.partner a ≤ nI a
    · rw [pT c1]
      exact (pT rfl).mpr (no h X (by unfold freesB; simp [c1]))
    · rw [pF c1]
      refine (pF (by decide)).mpr ⟨ia, ?_⟩
      refine comesFree_spec n7 P aN R.1.partner (fun h1 f1 R1 => ?_)
      refine chX_step (E' := withPa E (looseF E.partner a)) (withPa_ok e (paOk_loose P)) hn X f1 (R.setPa f1 R1) (fun h4 X4 M4 => ⟨ik, ?_⟩)
      rw [M4.hi k hk]
      by_cases c2 : (goD (withPa E (looseF E.partner a)) hi n).hi k = 0
      · have hb : freesB E hi k n a = true := decide_eq_true ⟨c1, c2⟩
        refine (nT c2).mpr ?_
        have fin : ∀ p', (if m = 0 then freesC E a else p) = p' → ¬ p' = -1 → p_MO_frees_139 Q (p_MO_frees_64 Q n') (nI k) (nI n) what 0 (nI m) (nI a) p' h4 := fun p' h1 h2 => by
          unfold p_MO_frees_139
          rw [M4.hi k hk, nT c2]
          exact ⟨ik, yes h4 p' X4 hb h1 h2⟩
        by_cases cm : p = -1
        · refine (nT cm).mpr ?_
          have e65 : h.1 65 (nI a) = E.partner a := R.1.partner a aN
          rw [e65]
          exact fin _ (if_pos (hp.mpr cm)) (freesC_ne e aN c1)
        · refine (nF cm).mpr ?_
          unfold p_MO_frees_137
          exact fin p (if_neg (fun z => cm (hp.mp z))) cm
      · refine (nF c2).mpr ?_
        unfold p_MO_frees_137 p_MO_frees_139
        rw [M4.hi k hk, nF c2]
        refine ⟨ik, ?_⟩
        have hb : freesB E hi k n a = false := decide_eq_false (fun z => c2 z.2)
        have H := no h4 X4 hb
        unfold p_MO_frees_157
        rw [show nI m + 0 = nI m from Int32.add_zero _]
        exact H
theorem both_frees {x1 x2 x3 : Int32} {h : AH} (I : Inv h) : p_UF_frees (fun r1 h1 => p_MO_frees (K2 r1) x1 x2 x3 h1) x1 x2 x3 h := by
  obtain ⟨E, hi, T⟩ := Tn_of I
  have n7 := T.1.n7
  unfold p_UF_frees
  rw [UF_isHouse_iff]
  by_cases c1 : 0 ≤ x1 ∧ x1 ≤ h.1 5 3 - 1
  · rw [b01_t c1]
    refine (nF (by decide)).mpr ?_
    rw [UF_isSpan_iff]
    by_cases c2 : 0 ≤ x2 ∧ x2 ≤ 24
    · rw [b01_t c2]
      refine (pF (by decide)).mpr ?_
      rw [UF_within_iff]
      by_cases c3 : 0 ≤ x3 ∧ x3 ≤ 1
      · rw [b01_t c3]
        refine (nF (by decide)).mpr ?_
        obtain ⟨n, hn, rfl⟩ := spanN.mp c2
        obtain ⟨k, hk, rfl⟩ := (houseC T).mp c1
        have ik : inb (nI k) 7 := inb_nI (by omega) (by omega)
        have mo : ∀ v h3, frR h h3 → (∀ h5, chX E hi (fun j => h3.1 65 (nI j)) h3 h5 → MTn E hi h3 → p_MO_frees_64 (K2 v) (E.N + 1) (nI k) (nI n) x3 (if (goD E hi n).hi k = 0 then 1 else 0) (-1) 0 0 h5) → p_MO_frees (K2 v) (nI k) (nI n) x3 h3 := fun v h3 f3 H => by
          have T3 := Tn_I (frI_R f3) T
          unfold p_MO_frees
          rw [MO_isHouse_iff, b01_t ((houseM T3).mpr ⟨k, hk, rfl⟩)]
          refine (nF (by decide)).mpr ?_
          rw [MO_isMany_iff, b01_t c2]
          refine (pF (by decide)).mpr ?_
          rw [MO_in_iff, b01_t c3]
          refine (nF (by decide)).mpr ?_
          refine MO_lives_spec T.1 hn T3.2.2.2.1 T3.2.2.2.2 (fun h4 f4 M4 => ⟨ik, ?_⟩)
          rw [M4.hi k hk]
          have fin : ∀ al, (if (goD E hi n).hi k = 0 then (1 : Int32) else 0) = al → p_MO_frees_49 (K2 v) (nI k) (nI n) x3 al h4 := fun al hal => by
            unfold p_MO_frees_49
            refine keeps_spec (fun h5 f5 R5 => ⟨E.N + 1, ?_⟩)
            have H5 := H h5 (chX_0 f4 f5 R5) T3.2.2.2
            rwa [hal] at H5
          by_cases c : (goD E hi n).hi k = 0
          · exact (nT c).mpr (fin 1 (if_pos c))
          · exact (nF c).mpr (fin 0 (if_neg c))
        refine UF_ready_spec T.1 T.2.2.1 (fun h1 f1 R1 M1 => ?_)
        refine Dusk_go_spec T.1 hn R1 M1 T.hiOk (fun h2 f2 M2 => ?_)
        have f12 : frR h h2 := frR_tr f1 (frR_SC f2)
        rw [isDown14, M2.hi k hk]
        refine ⟨ik, ?_⟩
        by_cases c : (goD E hi n).hi k = 0
        · refine (nT c).mpr ((nF (by decide)).mpr ?_)
          have I2 := Inv_I (frI_R f12) I
          have al : ∀ v, v = (if x3 = 0 then -1 else 0) → p_MO_frees (K2 v) (nI k) (nI n) x3 h2 := fun v hv => mo v h2 f12 (fun h5 X5 R3 => by
            rw [if_pos c]
            have R5 := chX_MTn R3 n7 (fun k hk => R3.1.partner k hk) X5
            have k166 : p_MO_frees_166 (K2 v) x3 (-1) 0 h5 := by
              unfold p_MO_frees_166
              by_cases c4 : x3 = 0
              · rw [nT c4]; exact ⟨by rw [hv, if_pos c4], chX_Inv I2 X5⟩
              · rw [nF c4]; exact ⟨by rw [hv, if_neg c4], chX_Inv I2 X5⟩
            simp only [p_MO_frees_64]
            by_cases c5 : h5.1 59 0 ≤ 0
            · rw [pT c5]; exact k166
            · rw [pF c5, nF (by decide)]; exact k166)
          unfold p_UF_frees_165
          by_cases c4 : x3 = 0
          · rw [nT c4]; exact al _ (by rw [if_pos c4])
          · rw [nF c4]; exact al _ (by rw [if_neg c4])
        · refine (nF c).mpr ((nT rfl).mpr ⟨E.N + 1, ?_⟩)
          refine UF_frees_loop T hn hk E.N 0 0 (-1) h2 (by omega) (by omega) f12 (fun h3 f3 => ?_)
          have I3 := Inv_I (frI_R f3) I
          refine mo _ h3 f3 (fun h5 X5 R3 => ?_)
          rw [if_neg c]
          exact MO_frees_loop T.1 R3 (fun k hk => R3.1.partner k hk) hn hk E.N 0 0 (-1) h5 (by omega) (by omega) ⟨fun _ => rfl, fun _ => rfl⟩ X5 (fun h6 X6 => ⟨rfl, chX_Inv I3 X6⟩)
      · rw [b01_f c3]
        refine (nT rfl).mpr ?_
        show p_MO_frees (K2 _) _ _ _ _
        unfold p_MO_frees
        rw [MO_isHouse_iff, b01_t ((houseM T).mpr ((houseC T).mp c1))]
        refine (nF (by decide)).mpr ?_
        rw [MO_isMany_iff, b01_t c2]
        refine (pF (by decide)).mpr ?_
        rw [MO_in_iff, b01_f c3]
        exact (nT rfl).mpr ⟨rfl, I⟩
    · rw [b01_f c2]
      refine (pT rfl).mpr ?_
      show p_MO_frees (K2 _) _ _ _ _
      unfold p_MO_frees
      rw [MO_isHouse_iff, b01_t ((houseM T).mpr ((houseC T).mp c1))]
      refine (nF (by decide)).mpr ?_
      rw [MO_isMany_iff, b01_f c2]
      exact (pT rfl).mpr ⟨rfl, I⟩
  · rw [b01_f c1]
    refine (nT rfl).mpr ?_
    show p_MO_frees (K2 _) _ _ _ _
    unfold p_MO_frees
    rw [MO_isHouse_iff, b01_f (fun z => c1 ((houseC T).mpr ((houseM T).mp z)))]
    exact (nT rfl).mpr ⟨rfl, I⟩
