/-! pure: two chained houses, and minutes, on the class's side -/
def hiOk (N : Nat) (D : DS) : Prop := ∀ k, k < N → 0 ≤ (D.hi k).toInt ∧ (D.hi k).toInt ≤ 9
theorem hiOk_down {N k : Nat} {f : Nat → Int32} (hp : 0 < f k) (H : ∀ j, j < N → 0 ≤ (f j).toInt ∧ (f j).toInt ≤ 9) (hk : k < N) : ∀ j, j < N → 0 ≤ (upN f k (f k - 1) j).toInt ∧ (upN f k (f k - 1) j).toInt ≤ 9 := fun j hj => by
  by_cases e : j = k
  · subst e
    rw [upN_s]
    have h1 := H j hj
    rw [Int32.lt_iff_toInt_lt, Int32.toInt_zero] at hp
    have e1 : (1 : Int32).toInt = 1 := by decide
    have : (f j - 1).toInt = (f j).toInt - 1 := by rw [Int32.toInt_sub, e1]; exact Int.bmod_eq_of_le (by omega) (by omega)
    omega
  · rw [upN_n e]; exact H j hj
theorem hiOk_up {N k : Nat} {f : Nat → Int32} (hp : f k < 9) (H : ∀ j, j < N → 0 ≤ (f j).toInt ∧ (f j).toInt ≤ 9) (hk : k < N) : ∀ j, j < N → 0 ≤ (upN f k (f k + 1) j).toInt ∧ (upN f k (f k + 1) j).toInt ≤ 9 := fun j hj => by
  by_cases e : j = k
  · subst e
    rw [upN_s]
    have h1 := H j hj
    have e9 : (9 : Int32).toInt = 9 := by decide
    rw [Int32.lt_iff_toInt_lt, e9] at hp
    have e1 : (1 : Int32).toInt = 1 := by decide
    have : (f j + 1).toInt = (f j).toInt + 1 := by rw [Int32.toInt_add, e1]; exact Int.bmod_eq_of_le (by omega) (by omega)
    omega
  · rw [upN_n e]; exact H j hj
theorem hiOk_pairG {E : EV} {a b dn u : Nat} {df m ct : Int32} {D : DS} (H : hiOk E.N D) (hd : dn < E.N) (hu : u < E.N) (hne : ¬ u = dn) : hiOk E.N (pairG E a b dn u df m ct D) := by
  unfold pairG
  by_cases c : pairP E a b dn u df m ct D
  · rw [if_pos c]
    obtain ⟨_, _, c3, c4, _⟩ := c
    have h1 := hiOk_down c3 H hd
    exact hiOk_up (f := upN D.hi dn (D.hi dn - 1)) (by rw [upN_n hne]; exact c4) h1 hu
  · rw [if_neg c]; exact H
theorem hiOk_step {E : EV} {m : Int32} {ct : Nat → Int32} {k : Nat} {D : DS} (e : E.ok) (hk : k < E.N) (H : hiOk E.N D) : hiOk E.N (stepF E m ct k D) := by
  have n7 := e.n7
  unfold stepF
  by_cases hp : E.partner k = -1
  · rw [if_pos hp]; unfold aloneF
    by_cases c : aloneP E k m D
    · rw [if_pos c]; exact hiOk_down c.1 H hk
    · rw [if_neg c]; exact H
  · rw [if_neg hp]
    by_cases hq : E.partner k ≤ nI k
    · rw [if_pos hq]; exact H
    · rw [if_neg hq]
      obtain ⟨j, hj, hpj⟩ := (e.partner k hk).resolve_left hp
      have hne : ¬ k = j := fun z => hq (by rw [hpj, ← z]; exact Int32.le_refl _)
      rw [hpj, nI_clamp (by omega)]
      unfold pairF
      by_cases hw : weighsF E k (D.hi k) m ≤ weighsF E j (D.hi j) m
      · rw [if_pos hw]; exact hiOk_pairG H hj hk hne
      · rw [if_neg hw]; exact hiOk_pairG H hk hj (fun z => hne z.symm)
theorem hiOk_steps {E : EV} {m : Int32} {ct : Nat → Int32} (e : E.ok) : ∀ (cnt k : Nat) (D : DS), k + cnt = E.N → hiOk E.N D → hiOk E.N (stepsF E m ct cnt k D) := by
  intro cnt
  induction cnt with
  | zero => intro k D _ H; exact H
  | succ cnt ih => intro k D hk H; exact ih (k + 1) _ (by omega) (hiOk_step e (by omega) H)
theorem hiOk_minute {E : EV} {m : Int32} {ct : Nat → Int32} {D : DS} (e : E.ok) (H : hiOk E.N D) : hiOk E.N (minuteF E m ct D) := hiOk_steps e _ _ _ (by omega) H
theorem hiOk_go {E : EV} {ct : Nat → Nat → Int32} (e : E.ok) : ∀ (n m : Nat) (D : DS), hiOk E.N D → hiOk E.N (goF E ct n m D) := by
  intro n
  induction n with
  | zero => intro m D H; exact H
  | succ n ih => intro m D H; exact ih (m + 1) _ (hiOk_minute e H)
theorem goF_succ {E : EV} {ct : Nat → Nat → Int32} : ∀ (n m : Nat) (D : DS), goF E ct (n + 1) m D = minuteF E (nI (m + n)) (ct (m + n)) (goF E ct n m D) := by
  intro n
  induction n with
  | zero => intro m D; rfl
  | succ n ih =>
    intro m D
    show goF E ct (n + 1) (m + 1) (minuteF E (nI m) (ct m) D) = _
    rw [ih, show m + 1 + n = m + (n + 1) by omega]
    rfl
theorem stepsF_congr {E : EV} {m : Int32} {ct ct' : Nat → Int32} (H : ∀ k, k < E.N → leadP E k → ct k = ct' k) : ∀ (cnt k : Nat) (D : DS), k + cnt = E.N → stepsF E m ct cnt k D = stepsF E m ct' cnt k D := by
  intro cnt
  induction cnt with
  | zero => intro k D _; rfl
  | succ cnt ih =>
    intro k D hk
    have e1 : stepF E m ct k D = stepF E m ct' k D := by
      unfold stepF
      by_cases hp : E.partner k = -1
      · rw [if_pos hp, if_pos hp]
      · rw [if_neg hp, if_neg hp]
        by_cases hq : E.partner k ≤ nI k
        · rw [if_pos hq, if_pos hq]
        · rw [if_neg hq, if_neg hq, H k (by omega) ⟨hp, hq⟩]
    show stepsF E m ct cnt (k + 1) (stepF E m ct k D) = stepsF E m ct' cnt (k + 1) (stepF E m ct' k D)
    rw [e1]; exact ih (k + 1) _ (by omega)
theorem minuteF_congr {E : EV} {m : Int32} {ct ct' : Nat → Int32} {D : DS} (H : ∀ k, k < E.N → leadP E k → ct k = ct' k) : minuteF E m ct D = minuteF E m ct' D := stepsF_congr H _ _ _ (by omega)
theorem goF_congr {E : EV} {ct ct' : Nat → Nat → Int32} (H : ∀ m k, k < E.N → leadP E k → ct m k = ct' m k) : ∀ (n m : Nat) (D : DS), goF E ct n m D = goF E ct' n m D := by
  intro n
  induction n with
  | zero => intro m D; rfl
  | succ n ih =>
    intro m D
    show goF E ct n (m + 1) (minuteF E (nI m) (ct m) D) = goF E ct' n (m + 1) (minuteF E (nI m) (ct' m) D)
    rw [minuteF_congr (H m)]; exact ih _ _
theorem Dusk_pair_spec {E : EV} {h : AH} {a b : Nat} {m ct : Int32} {D : DS} {Q : AH → Prop} (e : E.ok) (R : CRep E h) (M : CD E.N D h) (ha : a < E.N) (hb : b < E.N) (hne : a ≠ b) (hpa : E.partner a = nI b) (hi : hiOk E.N D) (HQ : ∀ h', frm SC h h' → CD E.N (pairF E a b m ct D) h' → Q h') : p_Dusk_pair Q (nI a) m ct h := by
  have n7 := e.n7
  unfold p_Dusk_pair
  rw [R.partner a ha, hpa]
  refine ⟨inb_nI (by omega) (by omega), ?_⟩
  refine Dusk_weighs_spec e R M ha (fun h1 f1 => ?_)
  have R1 := R.tr f1 (by decide)
  have M1 := M.tr f1
  refine Dusk_weighs_spec e R1 M1 hb (fun h3 f3 => ?_)
  have R3 := R1.tr f3 (by decide)
  have M3 := M1.tr f3
  have f13 : frm SC h h3 := frm_tr f1 f3 (by decide) (by decide)
  have wa := weighsF_in (m := m) e ha (hi a ha)
  have wb := weighsF_in (m := m) e hb (hi b hb)
  have hsub := sub_in wa wb
  have hsub' := sub_in wb wa
  have hle : weighsF E a (D.hi a) m - weighsF E b (D.hi b) m ≤ 0 ↔ weighsF E a (D.hi a) m ≤ weighsF E b (D.hi b) m := by
    rw [Int32.le_iff_toInt_le, Int32.le_iff_toInt_le, hsub, Int32.toInt_zero]; omega
  have core : ∀ (dn u : Nat) (df : Int32), ((dn = b ∧ u = a) ∨ (dn = a ∧ u = b)) → pairF E a b m ct D = pairG E a b dn u df m ct D → (∀ (Q2 : Int32 → AH → Prop) h2, Q2 df h2 → p_Math_abs Q2 (weighsF E a (D.hi a) m - weighsF E b (D.hi b) m) h2) → p_Dusk_pair_51 Q (nI a) m ct (nI b) (weighsF E a (D.hi a) m - weighsF E b (D.hi b) m) (nI dn) (nI u) h3 := fun dn u df hab hpf habs => by
    have hd : dn < E.N := by rcases hab with ⟨rfl, rfl⟩ | ⟨rfl, rfl⟩ <;> assumption
    have hu : u < E.N := by rcases hab with ⟨rfl, rfl⟩ | ⟨rfl, rfl⟩ <;> assumption
    have iu : inb (nI u) 7 := inb_nI (by omega) (by omega)
    have id : inb (nI dn) 7 := inb_nI (by omega) (by omega)
    have frees : freeP E dn (D.hi dn) m ∧ freeP E u (D.hi u) m ↔ freeP E a (D.hi a) m ∧ freeP E b (D.hi b) m := by
      rcases hab with ⟨rfl, rfl⟩ | ⟨rfl, rfl⟩
      · exact And.comm
      · exact Iff.rfl
    have no : ∀ h5, frm SC h h5 → CD E.N D h5 → ¬ pairP E a b dn u df m ct D → p_Dusk_pair_159 Q (nI a) m (nI b) (nI dn) (nI u) h5 := fun h5 f5 M5 hn =>
      (pT rfl).mpr ⟨inb_nI (by omega) (by omega), inb_nI (by omega) (by omega), HQ _ (frm_w (frm_w f5 (by decide)) (by decide)) (by
        rw [hpf]; unfold pairG; rw [if_neg hn]; exact CD.w19 n7 hb (CD.w19 n7 ha M5))⟩
    unfold p_Dusk_pair_51
    rw [nI_clamp (by omega)]
    by_cases hct : ct = 0
    · rw [nT hct, M3.hi dn hd, M3.hi u hu]
      refine ⟨id, ?_⟩
      by_cases c2 : D.hi dn ≤ 0
      · rw [pT c2]; exact no h3 f13 M3 (fun z => absurd z.2.2.1 (Int32.not_lt.mpr c2))
      · rw [pF c2]; refine ⟨iu, ?_⟩
        by_cases c3 : 9 ≤ D.hi u
        · rw [pT c3]; exact no h3 f13 M3 (fun z => absurd z.2.2.2.1 (Int32.not_lt.mpr c3))
        · rw [pF c3]
          refine ⟨(R3.ho dn hd).1, isFree_spec e R3 hd ?_⟩
          by_cases c4 : freeP E dn (D.hi dn) m
          · rw [b01_t c4]
            refine (pF (by decide)).mpr ?_
            rw [nI_clamp (by omega), M3.hi u hu]
            refine ⟨iu, (R3.ho u hu).1, isFree_spec e R3 hu ?_⟩
            by_cases c5 : freeP E u (D.hi u) m
            · rw [b01_t c5]
              refine (pF (by decide)).mpr ?_
              refine habs _ _ ?_
              refine Dusk_holds_spec e R3 M3 ha (fun h5 f5 => ?_)
              have R5 := R3.tr f5 (by decide)
              have M5 := M3.tr f5
              refine Dusk_holds_spec e R5 M5 hb (fun h7 f7 => ?_)
              have R7 := R5.tr f7 (by decide)
              have M7 := M5.tr f7
              have g7 : frm SC h h7 := frm_tr (S := SC) f13 (frm_tr (S2 := SC) f5 f7 (by decide) (by decide)) (fun _ z => z) (fun _ z => z)
              by_cases c1 : df ≤ holdsF E a (D.hi a) m + holdsF E b (D.hi b) m
              · rw [pT c1]; exact no h7 g7 M7 (fun z => absurd z.2.1 (Int32.not_lt.mpr c1))
              · rw [pF c1]
                refine (pF (by decide)).mpr ?_
                refine Dusk_sink_spec e R7 M7 hd (Int32.not_le.mp c2) (fun h8 f8 M8 => ?_)
                refine Dusk_rise_spec e M8 hu (fun h9 f9 M9 => HQ h9 (frm_tr g7 (frm_tr (S2 := SC) f8 f9 (fun _ z => z) (fun _ z => z)) (fun _ z => z) (fun _ z => z)) ?_)
                rw [hpf]; unfold pairG
                rw [if_pos ⟨hct, Int32.not_le.mp c1, Int32.not_le.mp c2, Int32.not_le.mp c3, frees.mp ⟨c4, c5⟩⟩]
                exact M9
            · rw [b01_f c5]
              exact (pT rfl).mpr (no h3 f13 M3 (fun z => c5 (frees.mpr z.2.2.2.2).2))
          · rw [b01_f c4]
            exact (pT rfl).mpr (no h3 f13 M3 (fun z => c4 (frees.mpr z.2.2.2.2).1))
    · rw [nF hct]
      exact no h3 f13 M3 (fun z => hct z.1)
  by_cases hw : weighsF E a (D.hi a) m ≤ weighsF E b (D.hi b) m
  · rw [pT (hle.mpr hw)]; unfold p_Dusk_pair_38; rw [pT (hle.mpr hw)]
    refine core b a (weighsF E b (D.hi b) m - weighsF E a (D.hi a) m) (Or.inl ⟨rfl, rfl⟩) (by unfold pairF; rw [if_pos hw]) (fun Q2 h2 H => ?_)
    unfold p_Math_abs
    by_cases h0 : 0 ≤ weighsF E a (D.hi a) m - weighsF E b (D.hi b) m
    · rw [pT h0]
      have : weighsF E a (D.hi a) m - weighsF E b (D.hi b) m = weighsF E b (D.hi b) m - weighsF E a (D.hi a) m := Int32.toInt_inj.mp (by
        rw [hsub, hsub']; rw [Int32.le_iff_toInt_le, hsub, Int32.toInt_zero] at h0; rw [Int32.le_iff_toInt_le] at hw; omega)
      rw [this]; exact H
    · rw [pF h0, Int32.neg_sub]; exact H
  · rw [pF (fun z => hw (hle.mp z))]; unfold p_Dusk_pair_38; rw [pF (fun z => hw (hle.mp z))]
    refine core a b (weighsF E a (D.hi a) m - weighsF E b (D.hi b) m) (Or.inr ⟨rfl, rfl⟩) (by unfold pairF; rw [if_neg hw]) (fun Q2 h2 H => ?_)
    unfold p_Math_abs
    have h0 : 0 ≤ weighsF E a (D.hi a) m - weighsF E b (D.hi b) m := by
      rw [Int32.le_iff_toInt_le, hsub, Int32.toInt_zero]; rw [Int32.le_iff_toInt_le] at hw; omega
    rw [pT h0]; exact H
