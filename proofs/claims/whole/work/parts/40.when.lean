/-! pure: minutes on the class's side; when a house comes down, on both -/
theorem leads14 {Q : Int32 → AH → Prop} {x : Int32} {h : AH} : p_Town_leads Q 14 x h ↔ (inb x 7 ∧ ((h.1 17 x ≤ x → Q 0 h) ∧ (¬ h.1 17 x ≤ x → ((h.1 14 3 ≤ h.1 17 x → Q 0 h) ∧ (¬ h.1 14 3 ≤ h.1 17 x → Q 1 h))))) := by
  constructor
  · rintro ⟨_, _, _, _, _, H⟩; exact H
  · intro H; exact ⟨vA_s (show _ < 84 by decide), rfl, Nat.succ_pos _, vA_s (show 17 < 84 by decide), rfl, H⟩
theorem isDown14 {Q : Int32 → AH → Prop} {x : Int32} {h : AH} : p_Town_isDown Q 14 x h ↔ (inb x 7 ∧ ((¬ h.1 15 x = 0 → Q 0 h) ∧ (h.1 15 x = 0 → Q 1 h))) := by
  constructor
  · rintro ⟨_, _, _, _, _, H⟩; exact H
  · intro H; exact ⟨vA_s (show _ < 84 by decide), rfl, Nat.succ_pos _, vA_s (show 15 < 84 by decide), rfl, H⟩
def bitF (bits : Int32) (k : Nat) : Int32 := if (bits >>> (nI k &&& 31)) &&& 1 = 0 then 0 else 1
theorem Dusk_pass_loop {E : EV} {m bits : Int32} {Q : AH → Prop} (e : E.ok) : ∀ (cnt k : Nat) (D : DS) (h : AH), k + cnt = E.N → CRep E h → CD E.N D h → hiOk E.N D →
    (∀ h', frm SC h h' → CD E.N (stepsF E m (bitF bits) cnt k D) h' → Q h') → p_Dusk_pass_2 Q (cnt + 1) m bits (nI k) h := by
  intro cnt
  have n7 := e.n7
  induction cnt with
  | zero =>
    intro k D h hk R M hi HQ
    have hk' : k = E.N := by omega
    subst hk'
    simp only [p_Dusk_pass_2]
    rw [R.n, pT (Int32.le_refl _)]
    exact HQ h frm_rf M
  | succ cnt ih =>
    intro k D h hk R M hi HQ
    have kN : k < E.N := by omega
    obtain ⟨n, hn⟩ : ∃ n, n = cnt + 1 := ⟨_, rfl⟩
    rw [← hn]
    rw [← hn] at ih
    simp only [p_Dusk_pass_2]
    rw [R.n, pF (fun z => by have := (nI_leN (by omega) (by omega)).mp z; omega)]
    refine ⟨inb_nI (by omega) (by omega), ?_⟩
    have nxt : ∀ h', frm SC h h' → CD E.N (stepF E m (bitF bits) k D) h' → p_Dusk_pass_65 Q (p_Dusk_pass_2 Q n) m bits (nI k) h' := fun h' f' M' => by
      unfold p_Dusk_pass_65
      rw [nI_1]
      exact ih (k + 1) _ h' (by omega) (R.tr f' (fun _ z => z)) M' (hiOk_step e kN hi) (fun h2 f2 => HQ h2 (frm_tr f' f2 (fun _ z => z) (fun _ z => z)))
    rw [R.partner k kN]
    by_cases hp : E.partner k = -1
    · rw [nT hp]
      refine Dusk_alone_spec e R M kN (fun h' f' M' => nxt h' f' ?_)
      unfold stepF; rw [if_pos hp]; exact M'
    · rw [nF hp, leads14, R.partner k kN, R.n]
      refine ⟨inb_nI (by omega) (by omega), ?_⟩
      by_cases hq : E.partner k ≤ nI k
      · rw [pT hq]
        refine (pT rfl).mpr (nxt h frm_rf ?_)
        unfold stepF; rw [if_neg hp, if_pos hq]; exact M
      · obtain ⟨j, hj, hpj⟩ := (e.partner k kN).resolve_left hp
        have hne : k ≠ j := fun z => hq (by rw [hpj, ← z]; exact Int32.le_refl _)
        rw [pF hq, hpj, pF (fun z => by have := (nI_leN (by omega) (by omega)).mp z; omega)]
        refine (pF (by decide)).mpr ?_
        have go : ∀ ct, bitF bits k = ct → p_Dusk_pass_62 Q (p_Dusk_pass_2 Q n) m bits (nI k) (nI k) m ct h := fun ct hct =>
          Dusk_pair_spec e R M kN hj hne hpj hi (fun h' f' M' => nxt h' f' (by
            unfold stepF; rw [if_neg hp, if_neg hq, hpj, nI_clamp (by omega), hct]; exact M'))
        by_cases hb : (bits >>> (nI k &&& 31)) &&& 1 = 0
        · rw [pT hb]; exact go 0 (by unfold bitF; rw [if_pos hb])
        · rw [pF hb]; exact go 1 (by unfold bitF; rw [if_neg hb])
theorem Dusk_pass_spec {E : EV} {m bits : Int32} {D : DS} {h : AH} {Q : AH → Prop} (e : E.ok) (R : CRep E h) (M : CD E.N D h) (hi : hiOk E.N D) (HQ : ∀ h', frm SC h h' → CD E.N (minuteF E m (bitF bits) D) h' → Q h') : p_Dusk_pass Q m bits h :=
  ⟨E.N + 1, Dusk_pass_loop e E.N 0 D h (by omega) R M hi HQ⟩
theorem bitF_0 {k : Nat} (hk : k < 7) : bitF 0 k = 0 := by
  have h7 : k = 0 ∨ k = 1 ∨ k = 2 ∨ k = 3 ∨ k = 4 ∨ k = 5 ∨ k = 6 := by omega
  rcases h7 with rfl | rfl | rfl | rfl | rfl | rfl | rfl <;> decide
theorem minuteF_0 {E : EV} {m : Int32} {D : DS} {j : Nat} (e : E.ok) : minuteF E m (bitF 0) D = minuteF E m (noC j) D :=
  minuteF_congr (fun k hk _ => bitF_0 (Nat.lt_of_lt_of_le hk e.n7))
theorem Dusk_go_loop {E : EV} {n : Nat} {Q : AH → Prop} (e : E.ok) (hn : n ≤ 24) : ∀ (cnt m : Nat) (D : DS) (h : AH), m + cnt = n → CRep E h → CD E.N D h → hiOk E.N D →
    (∀ h', frm SC h h' → CD E.N (goF E noC cnt m D) h' → Q h') → p_Dusk_go_2 Q (cnt + 1) (nI n) (nI m) h := by
  intro cnt
  induction cnt with
  | zero =>
    intro m D h hk R M hi HQ
    have hk' : m = n := by omega
    subst hk'
    simp only [p_Dusk_go_2]
    rw [pT (Int32.le_refl _)]
    exact HQ h frm_rf M
  | succ cnt ih =>
    intro m D h hk R M hi HQ
    obtain ⟨n', hn'⟩ : ∃ n', n' = cnt + 1 := ⟨_, rfl⟩
    rw [← hn']
    rw [← hn'] at ih
    simp only [p_Dusk_go_2]
    rw [pF (fun z => by have := (nI_leN (by omega) (by omega)).mp z; omega)]
    refine Dusk_pass_spec e R M hi (fun h' f' M' => ?_)
    rw [nI_1]
    rw [minuteF_0 (j := m) e] at M'
    exact ih (m + 1) _ h' (by omega) (R.tr f' (fun _ z => z)) M' (hiOk_minute e hi) (fun h2 f2 => HQ h2 (frm_tr f' f2 (fun _ z => z) (fun _ z => z)))
theorem Dusk_go_spec {E : EV} {n : Nat} {D : DS} {h : AH} {Q : AH → Prop} (e : E.ok) (hn : n ≤ 24) (R : CRep E h) (M : CD E.N D h) (hi : hiOk E.N D) (HQ : ∀ h', frm SC h h' → CD E.N (goF E noC n 0 D) h' → Q h') : p_Dusk_go Q (nI n) h :=
  ⟨n + 1, Dusk_go_loop e hn n 0 D h (by omega) R M hi HQ⟩
/-- the least n of the c from n on at which house k is down -/
def whenN (E : EV) (D : DS) (k : Nat) : Nat → Nat → Int32
  | 0, _ => -1
  | c + 1, n => if (goF E noC n 0 D).hi k = 0 then nI n else whenN E D k c (n + 1)
theorem Dusk_firstDown_loop {E : EV} {D : DS} {k : Nat} {Q : Int32 → AH → Prop} (e : E.ok) (hk : k < E.N) (hi : hiOk E.N D) : ∀ (cnt n : Nat) (h : AH), n + cnt = 25 → CRep E h → (n ≤ 24 → CD E.N (goF E noC n 0 D) h) →
    (∀ h', frm SC h h' → Q (whenN E D k cnt n) h') → p_Dusk_firstDown_2 Q (cnt + 1) (nI k) (nI n) h := by
  intro cnt
  have n7 := e.n7
  induction cnt with
  | zero =>
    intro n h hn R M HQ
    have hn' : n = 25 := by omega
    subst hn'
    simp only [p_Dusk_firstDown_2]
    rw [pT (by decide)]
    exact HQ h frm_rf
  | succ cnt ih =>
    intro n h hn R M HQ
    obtain ⟨n', hn'⟩ : ∃ n', n' = cnt + 1 := ⟨_, rfl⟩
    rw [← hn']
    rw [← hn'] at ih
    have M1 := M (by omega)
    simp only [p_Dusk_firstDown_2]
    rw [pF (fun z => by have := (nI_ltI (a := 24) (by decide) (by omega)).mp z; omega), isDown14, M1.hi k hk]
    refine ⟨inb_nI (by omega) (by omega), ?_⟩
    by_cases hz : (goF E noC n 0 D).hi k = 0
    · rw [nT hz]
      refine (pF (by decide)).mpr (HQ _ frm_rf |> fun H => ?_)
      unfold whenN at H
      rwa [if_pos hz] at H
    · rw [nF hz]
      refine (pT rfl).mpr ?_
      have HQ' : ∀ h', frm SC h h' → Q (whenN E D k cnt (n + 1)) h' := fun h' f' => by
        have H := HQ h' f'
        unfold whenN at H
        rwa [if_neg hz] at H
      by_cases h24 : 24 ≤ n
      · have c24 : (24 : Int32) ≤ nI n := (nI_leN (a := 24) (by decide) (by omega)).mpr h24
        rw [pT c24]
        unfold p_Dusk_firstDown_33
        rw [nI_1]
        exact ih (n + 1) h (by omega) R (fun z => by omega) HQ'
      · have c24 : ¬ (24 : Int32) ≤ nI n := fun z => h24 ((nI_leN (a := 24) (by decide) (by omega)).mp z)
        rw [pF c24]
        refine Dusk_pass_spec e R M1 (hiOk_go e n 0 D hi) (fun h' f' M' => ?_)
        unfold p_Dusk_firstDown_33
        rw [nI_1]
        refine ih (n + 1) h' (by omega) (R.tr f' (fun _ z => z)) (fun _ => ?_) (fun h2 f2 => HQ' h2 (frm_tr f' f2 (fun _ z => z) (fun _ z => z)))
        rw [goF_succ, Nat.zero_add]
        rw [minuteF_0 (j := n) e] at M'
        exact M'
theorem Dusk_firstDown_spec {E : EV} {D : DS} {k : Nat} {h : AH} {Q : Int32 → AH → Prop} (e : E.ok) (hk : k < E.N) (hi : hiOk E.N D) (R : CRep E h) (M : CD E.N D h) (HQ : ∀ h', frm SC h h' → Q (whenN E D k 25 0) h') : p_Dusk_firstDown Q (nI k) h :=
  ⟨26, Dusk_firstDown_loop e hk hi 25 0 h (by omega) R (fun _ => M) HQ⟩
theorem MO_whenOf_loop {E : EV} {hi : Nat → Int32} {k : Nat} {Q : Int32 → AH → Prop} (e : E.ok) (hk : k < E.N) : ∀ (cnt n : Nat) (h : AH), n + cnt = 25 → MRep E h → rowR E.N (h.1 63) hi →
    (∀ h', frV h h' → Q (whenN E (bornF hi) k cnt n) h') → p_MO_whenOf_2 Q (cnt + 1) (nI k) (nI n) h := by
  intro cnt
  have n7 := e.n7
  induction cnt with
  | zero =>
    intro n h hn R hR HQ
    have hn' : n = 25 := by omega
    subst hn'
    simp only [p_MO_whenOf_2]
    rw [pT (by decide)]
    exact HQ h frV_rf
  | succ cnt ih =>
    intro n h hn R hR HQ
    obtain ⟨n', hn'⟩ : ∃ n', n' = cnt + 1 := ⟨_, rfl⟩
    rw [← hn']
    rw [← hn'] at ih
    simp only [p_MO_whenOf_2]
    rw [pF (fun z => by have := (nI_ltI (a := 24) (by decide) (by omega)).mp z; omega)]
    refine MO_lives_spec e (by omega) R hR (fun h1 f1 M1 => ⟨inb_nI (by omega) (by omega), ?_⟩)
    rw [M1.hi k hk]
    by_cases hz : (goF E noC n 0 (bornF hi)).hi k = 0
    · rw [nT hz]
      have H := HQ h1 f1
      unfold whenN at H
      rwa [if_pos hz] at H
    · rw [nF hz, nI_1]
      refine ih (n + 1) h1 (by omega) (R.tr (keepM_frV f1)) (by rw [f1.2.1 63 (by decide)]; exact hR) (fun h' f' => ?_)
      have H := HQ h' (frV_tr f1 f')
      unfold whenN at H
      rwa [if_neg hz] at H
theorem MO_whenOf_spec {E : EV} {hi : Nat → Int32} {k : Nat} {h : AH} {Q : Int32 → AH → Prop} (e : E.ok) (hk : k < E.N) (R : MRep E h) (hR : rowR E.N (h.1 63) hi) (HQ : ∀ h', frV h h' → Q (whenN E (bornF hi) k 25 0) h') : p_MO_whenOf Q (nI k) h :=
  ⟨26, MO_whenOf_loop e hk 25 0 h (by omega) R hR HQ⟩
