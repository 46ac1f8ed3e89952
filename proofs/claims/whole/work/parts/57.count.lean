/-! pure: count, taken -/
def lB (E : EV) (k : Nat) : Bool := decide (¬ E.partner k ≤ nI k)
theorem cS_t {b : Bool} {k : Nat} {a : Int32} (h : b = true) : cS b k a = a + 1 := by subst h; rfl
theorem cS_f {b : Bool} {k : Nat} {a : Int32} (h : b = false) : cS b k a = a + 0 := by subst h; rfl
theorem UF_chains_loop {E : EV} {hi : Nat → Int32} {Q : Int32 → AH → Prop} {h : AH} (T : Tn E hi h) : ∀ (cnt k : Nat) (a : Int32), k + cnt = E.N → Q (tally cS (lB E) cnt k a) h → p_Town_chains_4 Q (cnt + 1) 5 a (nI k) h := by
  intro cnt
  have n7 := T.1.n7
  induction cnt with
  | zero =>
    intro k a hk HQ
    have hk' : k = E.N := by omega
    subst hk'
    simp only [p_Town_chains_4]
    rw [T.2.2.1.1, pT (Int32.le_refl _)]
    exact ⟨vA_s (show 5 < 84 by decide), rfl, HQ⟩
  | succ cnt ih =>
    intro k a hk HQ
    have kN : k < E.N := by omega
    obtain ⟨n', hn'⟩ : ∃ n', n' = cnt + 1 := ⟨_, rfl⟩
    rw [← hn']
    rw [← hn'] at ih
    simp only [p_Town_chains_4]
    rw [T.2.2.1.1, pF (fun z => by have := (nI_leN (by omega) (by omega)).mp z; omega), leads5, T.2.2.1.2.2.2.1 k kN, T.2.2.1.1]
    refine ⟨vA_s (show 5 < 84 by decide), rfl, inb_nI (by omega) (by omega), ?_⟩
    have HQ' : Q (tally cS (lB E) cnt (k + 1) (cS (lB E k) k a)) h := HQ
    by_cases c : E.partner k ≤ nI k
    · rw [pT c]
      rw [cS_f (show lB E k = false from decide_eq_false (fun z => z c)), show a + 0 = a from Int32.add_zero _] at HQ'
      refine (pT rfl).mpr ?_
      unfold p_Town_chains_23; rw [nI_1]
      exact ih (k + 1) _ (by omega) HQ'
    · obtain ⟨j, hj, ej⟩ := leads_ex T.1 kN c
      rw [pF c, pF (fun z => by rw [ej] at z; have := (nI_leN (by omega) (by omega)).mp z; omega)]
      rw [cS_t (show lB E k = true from decide_eq_true c)] at HQ'
      refine (pF (by decide)).mpr ?_
      unfold p_Town_chains_23; rw [nI_1]
      exact ih (k + 1) _ (by omega) HQ'
theorem MO_chains_loop {E : EV} {hi : Nat → Int32} {Q : Int32 → AH → Prop} {h : AH} (T : Tn E hi h) : ∀ (cnt k : Nat) (a : Int32), k + cnt = E.N → Q (tally cS (lB E) cnt k a) h → p_MO_chains_4 Q (cnt + 1) a (nI k) h := by
  intro cnt
  have n7 := T.1.n7
  induction cnt with
  | zero =>
    intro k a hk HQ
    have hk' : k = E.N := by omega
    subst hk'
    simp only [p_MO_chains_4]
    rw [T.2.2.2.1.n, pT (Int32.le_refl _)]
    exact HQ
  | succ cnt ih =>
    intro k a hk HQ
    have kN : k < E.N := by omega
    obtain ⟨n', hn'⟩ : ∃ n', n' = cnt + 1 := ⟨_, rfl⟩
    rw [← hn']
    rw [← hn'] at ih
    simp only [p_MO_chains_4]
    rw [T.2.2.2.1.n, pF (fun z => by have := (nI_leN (by omega) (by omega)).mp z; omega)]
    unfold p_MO_isLesser
    rw [T.2.2.2.1.partner k kN]
    refine ⟨inb_nI (by omega) (by omega), ?_⟩
    have HQ' : Q (tally cS (lB E) cnt (k + 1) (cS (lB E k) k a)) h := HQ
    by_cases c : E.partner k ≤ nI k
    · rw [pT c]
      rw [cS_f (show lB E k = false from decide_eq_false (fun z => z c))] at HQ'
      refine (pT rfl).mpr ?_
      unfold p_MO_chains_26; rw [nI_1]
      exact ih (k + 1) _ (by omega) HQ'
    · rw [pF c]
      rw [cS_t (show lB E k = true from decide_eq_true c)] at HQ'
      refine (pF (by decide)).mpr ?_
      unfold p_MO_chains_26; rw [nI_1]
      exact ih (k + 1) _ (by omega) HQ'
theorem UF_crowd_loop {E : EV} {hi : Nat → Int32} {Q : Int32 → AH → Prop} {h : AH} (T : Tn E hi h) : ∀ (cnt k : Nat) (a : Int32), k + cnt = E.N → Q (sumL E.people cnt k a) h → p_Town_crowd_4 Q (cnt + 1) 5 a (nI k) h := by
  intro cnt
  have n7 := T.1.n7
  induction cnt with
  | zero =>
    intro k a hk HQ
    have hk' : k = E.N := by omega
    subst hk'
    simp only [p_Town_crowd_4]
    rw [T.2.2.1.1, pT (Int32.le_refl _)]
    exact ⟨vA_s (show 5 < 84 by decide), rfl, HQ⟩
  | succ cnt ih =>
    intro k a hk HQ
    have kN : k < E.N := by omega
    obtain ⟨n', hn'⟩ : ∃ n', n' = cnt + 1 := ⟨_, rfl⟩
    rw [← hn']
    rw [← hn'] at ih
    simp only [p_Town_crowd_4]
    have e7 : h.1 (rR T1 h 5 1 - 1) (nI k) = E.people k := T.2.2.1.2.2.1 k kN
    rw [T.2.2.1.1, pF (fun z => by have := (nI_leN (by omega) (by omega)).mp z; omega), e7, nI_1]
    exact ⟨vA_s (show 5 < 84 by decide), rfl, Nat.succ_pos _, vA_s (show 7 < 84 by decide), rfl, inb_nI (n := 7) (by omega) (by omega), ih (k + 1) _ (by omega) HQ⟩
theorem MO_crowd_loop {E : EV} {hi : Nat → Int32} {Q : Int32 → AH → Prop} {h : AH} (T : Tn E hi h) : ∀ (cnt k : Nat) (a : Int32), k + cnt = E.N → Q (sumL E.people cnt k a) h → p_MO_peopleAll_4 Q (cnt + 1) a (nI k) h := by
  intro cnt
  have n7 := T.1.n7
  induction cnt with
  | zero =>
    intro k a hk HQ
    have hk' : k = E.N := by omega
    subst hk'
    simp only [p_MO_peopleAll_4]
    rw [T.2.2.2.1.n, pT (Int32.le_refl _)]
    exact HQ
  | succ cnt ih =>
    intro k a hk HQ
    have kN : k < E.N := by omega
    obtain ⟨n', hn'⟩ : ∃ n', n' = cnt + 1 := ⟨_, rfl⟩
    rw [← hn']
    rw [← hn'] at ih
    simp only [p_MO_peopleAll_4]
    rw [T.2.2.2.1.n, pF (fun z => by have := (nI_leN (by omega) (by omega)).mp z; omega), T.2.2.2.1.people k kN, nI_1]
    exact ⟨inb_nI (by omega) (by omega), ih (k + 1) _ (by omega) HQ⟩
theorem both_count {x : Int32} {h : AH} (I : Inv h) : p_UF_count (fun r1 h1 => p_MO_count (K2 r1) x h1) x h := by
  have I0 := I
  obtain ⟨E, hi, tN, r, C, IB⟩ := I
  have T : Tn E hi h := ⟨IB.1, IB.2.2.1, IB.2.2.2.1, IB.2.2.2.2.1⟩
  obtain ⟨b1, b2, b3, b4, b5, b6, b7, b8⟩ := IB.2.2.2.2.2.1
  obtain ⟨L, l1, l2, l3, l4⟩ := IB.2.2.2.2.2.2.1
  refine ⟨fun z => ?_, fun z => ?_, fun z => ?_, fun z => ?_, fun z => ?_, fun z => ?_, fun z0 z1 z2 z3 z4 z5 => ?_⟩
  · subst z
    exact ⟨fun _ => ⟨T.nn, I0⟩, fun z => absurd z (by decide), fun z => absurd z (by decide), fun z => absurd z (by decide), fun z => absurd z (by decide), fun z => absurd z (by decide), fun z => absurd rfl z⟩
  · subst z
    refine ⟨E.N + 1, UF_chains_loop T E.N 0 0 (by omega) ?_⟩
    exact ⟨fun z => absurd z (by decide), fun _ => ⟨E.N + 1, MO_chains_loop T E.N 0 0 (by omega) ⟨rfl, I0⟩⟩, fun z => absurd z (by decide), fun z => absurd z (by decide), fun z => absurd z (by decide), fun z => absurd z (by decide), fun _ z => absurd rfl z⟩
  · subst z
    refine ⟨E.N + 1, UF_crowd_loop T E.N 0 0 (by omega) ?_⟩
    exact ⟨fun z => absurd z (by decide), fun z => absurd z (by decide), fun _ => ⟨E.N + 1, MO_crowd_loop T E.N 0 0 (by omega) ⟨rfl, I0⟩⟩, fun z => absurd z (by decide), fun z => absurd z (by decide), fun z => absurd z (by decide), fun _ _ z => absurd rfl z⟩
  · subst z
    exact ⟨fun z => absurd z (by decide), fun z => absurd z (by decide), fun z => absurd z (by decide), fun _ => ⟨b4.trans b5.symm, I0⟩, fun z => absurd z (by decide), fun z => absurd z (by decide), fun _ _ _ z => absurd rfl z⟩
  · subst z
    exact ⟨fun z => absurd z (by decide), fun z => absurd z (by decide), fun z => absurd z (by decide), fun z => absurd z (by decide), fun _ => ⟨b6.trans b7.symm, I0⟩, fun z => absurd z (by decide), fun _ _ _ _ z => absurd rfl z⟩
  · subst z
    exact ⟨fun z => absurd z (by decide), fun z => absurd z (by decide), fun z => absurd z (by decide), fun z => absurd z (by decide), fun z => absurd z (by decide), fun _ => ⟨l2.trans l3.symm, I0⟩, fun _ _ _ _ _ z => absurd rfl z⟩
  · exact ⟨fun z => absurd z z0, fun z => absurd z z1, fun z => absurd z z2, fun z => absurd z z3, fun z => absurd z z4, fun z => absurd z z5, fun _ _ _ _ _ _ => ⟨rfl, I0⟩⟩
theorem kO_iff {E : EV} {k p : Nat} (hk : 0 ≤ (E.kind k).toInt ∧ (E.kind k).toInt < 6) (hp : p ≤ 6) {Q : Int32 → AH → Prop} {h : AH} : (¬ p = 6 → (p_MO_isUnder Q (E.kind k) (nI p) h ↔ Q (kO (kindC (E.kind k)) (nI p)) h)) ∧ (p = 6 → kO (kindC (E.kind k)) (nI p) = 0) := by
  have hp7 : p = 0 ∨ p = 1 ∨ p = 2 ∨ p = 3 ∨ p = 4 ∨ p = 5 ∨ p = 6 := by omega
  constructor
  · intro h6
    rcases sml6 hk.1 hk.2 with z | z | z | z | z | z <;> rw [z] <;> (rcases hp7 with rfl | rfl | rfl | rfl | rfl | rfl | rfl <;> first | exact absurd rfl h6 | (unfold p_MO_isUnder p_MO_isUnder_19; simp only [show nI 0 = 0 from rfl, show nI 1 = 1 from rfl, show nI 2 = 2 from rfl, show nI 3 = 3 from rfl, show nI 4 = 4 from rfl, show nI 5 = 5 from rfl]; simp [kindC, kO, subB]))
  · intro h6; subst h6
    rcases sml6 hk.1 hk.2 with z | z | z | z | z | z <;> rw [z] <;> rfl
