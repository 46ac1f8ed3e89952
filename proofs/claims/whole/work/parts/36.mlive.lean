/-! pure: minutes of the model -/
theorem nI_ofT {x : Int32} (h : 0 ≤ x.toInt) : x = nI x.toInt.toNat := by
  have h2 := Int32.toInt_lt x
  refine Int32.toInt_inj.mp ?_
  rw [nI_toInt (by omega)]; omega
theorem nI_ne1 {j : Nat} (hj : j < 2147483648) : ¬ nI j = -1 := fun z => by
  have := congrArg Int32.toInt z
  rw [nI_toInt hj] at this
  have e : (-1 : Int32).toInt = -1 := by decide
  omega
def lotN (l : Int64) : Int64 := (l * 48271) - (l * 48271) / 2147483647 * 2147483647
abbrev leadP (E : EV) (k : Nat) : Prop := ¬ E.partner k = -1 ∧ ¬ E.partner k ≤ nI k
def lotAt (E : EV) (hd : Int32) (lot : Int64) : Nat → Int64
  | 0 => lot
  | k + 1 => if leadP E k ∧ 0 ≤ hd then lotN (lotAt E hd lot k) else lotAt E hd lot k
def caughtF (hd : Int32) (l : Int64) : Int32 := if 0 ≤ hd then (if 0 ≤ lg_cmp (lotN l - lotN l / 100 * 100) hd.toInt64 then 0 else 1) else 0
def ctF (E : EV) (hd : Int32) (lot : Int64) (k : Nat) : Int32 := caughtF hd (lotAt E hd lot k)
def stepF (E : EV) (m : Int32) (ct : Nat → Int32) (k : Nat) (D : DS) : DS := if E.partner k = -1 then aloneF E k m D else if E.partner k ≤ nI k then D else pairF E k ((E.partner k).toNatClampNeg) m (ct k) D
def stepsF (E : EV) (m : Int32) (ct : Nat → Int32) : Nat → Nat → DS → DS
  | 0, _, D => D
  | n + 1, k, D => stepsF E m ct n (k + 1) (stepF E m ct k D)
def minuteF (E : EV) (m : Int32) (ct : Nat → Int32) (D : DS) : DS := stepsF E m ct E.N 0 D
def goF (E : EV) (ct : Nat → Nat → Int32) : Nat → Nat → DS → DS
  | 0, _, D => D
  | n + 1, m, D => goF E ct n (m + 1) (minuteF E (nI m) (ct m) D)
def lotM (E : EV) (hd : Int32) (lot : Int64) : Nat → Int64
  | 0 => lot
  | m + 1 => lotAt E hd (lotM E hd lot m) E.N
def bornF (hi : Nat → Int32) : DS := (hi, fun _ => 0, fun _ => 0, fun _ => 0, fun _ => -1)
/-- what a dusk of the model leaves as it was -/
def frV (h h' : AH) : Prop := h'.2.2 = h.2.2 ∧ (∀ b, b ∉ (59 :: SM) → h'.1 b = h.1 b) ∧ ∀ k, ¬ k = 37 → h'.1 59 k = h.1 59 k
theorem frV_rf {h : AH} : frV h h := ⟨rfl, fun _ _ => rfl, fun _ _ => rfl⟩
theorem frV_tr {h h' h2 : AH} (a : frV h h') (b : frV h' h2) : frV h h2 := ⟨b.1.trans a.1, fun c hc => (b.2.1 c hc).trans (a.2.1 c hc), fun k hk => (b.2.2 k hk).trans (a.2.2 k hk)⟩
theorem frV_frm {S : List Nat} {h h' : AH} (f : frm S h h') (hS : ∀ x ∈ S, x ∈ SM) : frV h h' := by
  refine ⟨by rw [f.1], fun b hb => f.2 b (fun z => hb (List.mem_cons_of_mem _ (hS b z))), fun k _ => ?_⟩
  rw [f.2 59 (fun z => absurd (hS _ z) (by decide))]
theorem keepM_frV {h h' : AH} (f : frV h h') : keepM h h' :=
  ⟨f.2.2 0 (by decide), f.2.2 12 (by decide), f.2.1 60 (by decide), f.2.1 61 (by decide), f.2.1 62 (by decide), f.2.1 64 (by decide), f.2.1 65 (by decide), f.2.1 67 (by decide), f.2.1 68 (by decide)⟩
theorem MO_catches_spec {h : AH} {Q : Int32 → AH → Prop} (HQ : ∀ h', frV h h' → h'.1 = h.1 → h'.2.1 59 38 = (if 0 ≤ h.1 59 37 then lotN (h.2.1 59 38) else h.2.1 59 38) → Q (caughtF (h.1 59 37) (h.2.1 59 38)) h') : p_MO_catches Q h := by
  unfold p_MO_catches
  by_cases h0 : 0 ≤ h.1 59 37
  · rw [pT h0]
    have H := HQ (wL h 59 38 (lotN (h.2.1 59 38))) ⟨rfl, fun _ _ => rfl, fun _ _ => rfl⟩ rfl (by rw [if_pos h0]; show upL (h.2.1 59) 38 _ 38 = _; exact if_pos rfl)
    unfold caughtF at H
    rw [if_pos h0] at H
    by_cases h1 : 0 ≤ lg_cmp (lotN (h.2.1 59 38) - lotN (h.2.1 59 38) / 100 * 100) (h.1 59 37).toInt64
    · rw [if_pos h1] at H
      exact (pT h1).mpr H
    · rw [if_neg h1] at H
      exact (pF h1).mpr H
  · rw [pF h0]
    have H := HQ h frV_rf rfl (by rw [if_neg h0])
    unfold caughtF at H
    rwa [if_neg h0] at H
theorem MD.tr1 {N : Nat} {D : DS} {h h' : AH} (R : MD N D h) (f : h'.1 = h.1) : MD N D h' := by
  unfold MD; rw [f]; exact R
theorem MO_minute_loop {E : EV} {m hd : Int32} {lot : Int64} {Q : AH → Prop} (e : E.ok) : ∀ (cnt k : Nat) (D : DS) (h : AH), k + cnt = E.N → MRep E h → MD E.N D h → h.1 59 37 = hd → h.2.1 59 38 = lotAt E hd lot k →
    (∀ h', frV h h' → MD E.N (stepsF E m (ctF E hd lot) cnt k D) h' → h'.1 59 37 = hd → h'.2.1 59 38 = lotAt E hd lot E.N → Q h') → p_MO_minute_2 Q (cnt + 1) m (nI k) h := by
  intro cnt
  have n7 := e.n7
  induction cnt with
  | zero =>
    intro k D h hk R M hh hl HQ
    have hk' : k = E.N := by omega
    subst hk'
    simp only [p_MO_minute_2]
    rw [R.n, pT (Int32.le_refl _)]
    exact HQ h frV_rf M hh hl
  | succ cnt ih =>
    intro k D h hk R M hh hl HQ
    have kN : k < E.N := by omega
    obtain ⟨n, hn⟩ : ∃ n, n = cnt + 1 := ⟨_, rfl⟩
    rw [← hn]
    rw [← hn] at ih
    simp only [p_MO_minute_2]
    rw [R.n, pF (fun z => by have := (nI_leN (by omega) (by omega)).mp z; omega)]
    refine ⟨inb_nI (by omega) (by omega), ?_⟩
    have nxt : ∀ h', frV h h' → MD E.N (stepF E m (ctF E hd lot) k D) h' → h'.1 59 37 = hd → h'.2.1 59 38 = lotAt E hd lot (k + 1) → p_MO_minute_53 Q (p_MO_minute_2 Q n) m (nI k) h' := fun h' f' M' a1 a2 => by
      unfold p_MO_minute_53
      rw [nI_1]
      exact ih (k + 1) _ h' (by omega) (R.tr (keepM_frV f')) M' a1 a2 (fun h2 f2 => HQ h2 (frV_tr f' f2))
    rw [R.partner k kN]
    by_cases hp : E.partner k = -1
    · rw [nT hp]
      refine MO_alone_spec e R M kN (fun h' f' M' => nxt h' (frV_frm f' (fun _ z => z)) ?_ ?_ ?_)
      · unfold stepF; rw [if_pos hp]; exact M'
      · rw [f'.2 59 (by decide)]; exact hh
      · rw [f'.1, hl]
        show _ = if leadP E k ∧ 0 ≤ hd then lotN (lotAt E hd lot k) else lotAt E hd lot k
        rw [if_neg (fun z => z.1.1 hp)]
    · rw [nF hp]
      refine ⟨inb_nI (by omega) (by omega), ?_⟩
      rw [R.partner k kN]
      by_cases hq : E.partner k ≤ nI k
      · rw [pT hq]
        refine (pT rfl).mpr ?_
        refine nxt h frV_rf ?_ hh ?_
        · unfold stepF; rw [if_neg hp, if_pos hq]; exact M
        · rw [hl]
          show _ = if leadP E k ∧ 0 ≤ hd then lotN (lotAt E hd lot k) else lotAt E hd lot k
          rw [if_neg (fun z => z.1.2 hq)]
      · rw [pF hq]
        refine (pF (by decide)).mpr ?_
        refine ⟨inb_nI (by omega) (by omega), ?_⟩
        refine MO_catches_spec (fun h2 f2 e1 e2 => ?_)
        have R2 := R.tr (keepM_frV f2)
        have M2 := M.tr1 e1
        obtain ⟨j, hj, hpj⟩ := (e.partner k kN).resolve_left hp
        have hne : k ≠ j := fun z => hq (by rw [hpj, ← z]; exact Int32.le_refl _)
        rw [R.partner k kN, hpj]
        refine MO_chained_spec e R2 M2 kN hj hne (fun h' f' M' => nxt h' (frV_tr f2 (frV_frm f' (fun _ z => z))) ?_ ?_ ?_)
        · unfold stepF; rw [if_neg hp, if_neg hq, hpj, nI_clamp (by omega)]
          rw [hh, hl] at M'
          exact M'
        · rw [f'.2 59 (by decide), e1]; exact hh
        · rw [f'.1, e2, hh, hl]
          show _ = if leadP E k ∧ 0 ≤ hd then lotN (lotAt E hd lot k) else lotAt E hd lot k
          by_cases h0 : 0 ≤ hd
          · rw [if_pos h0, if_pos ⟨⟨hp, hq⟩, h0⟩]
          · rw [if_neg h0, if_neg (fun z => h0 z.2)]
theorem MO_minute_spec {E : EV} {m hd : Int32} {lot : Int64} {D : DS} {h : AH} {Q : AH → Prop} (e : E.ok) (R : MRep E h) (M : MD E.N D h) (hh : h.1 59 37 = hd) (hl : h.2.1 59 38 = lot)
    (HQ : ∀ h', frV h h' → MD E.N (minuteF E m (ctF E hd lot) D) h' → h'.1 59 37 = hd → h'.2.1 59 38 = lotAt E hd lot E.N → Q h') : p_MO_minute Q m h :=
  ⟨E.N + 1, MO_minute_loop e E.N 0 D h (by omega) R M hh hl HQ⟩
theorem MO_go_loop {E : EV} {hd : Int32} {lot : Int64} {n : Nat} {Q : AH → Prop} (e : E.ok) (hn : n ≤ 24) : ∀ (cnt m : Nat) (D : DS) (h : AH), m + cnt = n → MRep E h → MD E.N D h → h.1 59 37 = hd → h.2.1 59 38 = lotM E hd lot m →
    (∀ h', frV h h' → MD E.N (goF E (fun m => ctF E hd (lotM E hd lot m)) cnt m D) h' → Q h') → p_MO_livesBy_58 Q (cnt + 1) (nI n) (nI m) h := by
  intro cnt
  induction cnt with
  | zero =>
    intro m D h hk R M hh hl HQ
    have hk' : m = n := by omega
    subst hk'
    simp only [p_MO_livesBy_58]
    rw [pT (Int32.le_refl _)]
    exact HQ h frV_rf M
  | succ cnt ih =>
    intro m D h hk R M hh hl HQ
    obtain ⟨n', hn'⟩ : ∃ n', n' = cnt + 1 := ⟨_, rfl⟩
    rw [← hn']
    rw [← hn'] at ih
    simp only [p_MO_livesBy_58]
    rw [pF (fun z => by have := (nI_leN (by omega) (by omega)).mp z; omega)]
    refine MO_minute_spec e R M hh hl (fun h' f' M' a1 a2 => ?_)
    rw [nI_1]
    exact ih (m + 1) _ h' (by omega) (R.tr (keepM_frV f')) M' a1 a2 (fun h2 f2 => HQ h2 (frV_tr f' f2))
/-- the first k houses are born -/
theorem MO_born_loop {E : EV} {hi : Nat → Int32} {x : Int32} {Q : AH → Prop} (e : E.ok) : ∀ (cnt k : Nat) (h : AH), k + cnt = E.N → h.1 59 0 = nI E.N → rowR E.N (h.1 63) hi → MD k (bornF hi) h →
    (∀ h', frm [78, 79, 80, 81, 82] h h' → MD E.N (bornF hi) h' → ∃ n, p_MO_livesBy_58 Q n x 0 h') → p_MO_livesBy_2 Q (cnt + 1) x (nI k) h := by
  intro cnt
  have n7 := e.n7
  induction cnt with
  | zero =>
    intro k h hk hN hR M HQ
    have hk' : k = E.N := by omega
    subst hk'
    simp only [p_MO_livesBy_2]
    rw [hN, pT (Int32.le_refl _)]
    exact HQ h frm_rf M
  | succ cnt ih =>
    intro k h hk hN hR M HQ
    have kN : k < E.N := by omega
    obtain ⟨n', hn'⟩ : ∃ n', n' = cnt + 1 := ⟨_, rfl⟩
    rw [← hn']
    rw [← hn'] at ih
    simp only [p_MO_livesBy_2]
    rw [hN, pF (fun z => by have := (nI_leN (by omega) (by omega)).mp z; omega), nI_1, hR k kN]
    refine ⟨inb_nI (by omega) (by omega), ?_⟩
    have ext : ∀ (f : Int32 → Int32) (g : Nat → Int32) (x : Int32), rowR k f g → x = g k → rowR (k + 1) (up f (nI k) x) g := fun f g x hf hx j hj => by
      rw [up_a]
      by_cases ej : j = k
      · subst ej; rw [if_pos rfl]; exact hx
      · rw [if_neg (fun z => ej ((nI_inj (by omega) (by omega)).mp z))]; exact hf j (by omega)
    refine ih (k + 1) _ (by omega) hN hR ⟨ext _ _ _ M.hi rfl, ext _ _ _ M.mv rfl, ext _ _ _ M.run rfl, ext _ _ _ M.lh rfl, ext _ _ _ M.ht rfl⟩ (fun h' f' M' => HQ h' ?_ M')
    exact frm_tr (S := [78, 79, 80, 81, 82]) (frm_w (frm_w (frm_w (frm_w (frm_w frm_rf (by decide)) (by decide)) (by decide)) (by decide)) (by decide)) f' (fun _ z => z) (fun _ z => z)
theorem MO_livesBy_spec {E : EV} {hi : Nat → Int32} {hd : Int32} {lot : Int64} {n : Nat} {h : AH} {Q : AH → Prop} (e : E.ok) (hn : n ≤ 24) (R : MRep E h) (hR : rowR E.N (h.1 63) hi) (hh : h.1 59 37 = hd) (hl : h.2.1 59 38 = lot)
    (HQ : ∀ h', frV h h' → MD E.N (goF E (fun m => ctF E hd (lotM E hd lot m)) n 0 (bornF hi)) h' → Q h') : p_MO_livesBy Q (nI n) h := by
  refine ⟨E.N + 1, MO_born_loop e E.N 0 h (by omega) R.n hR ⟨fun k hk => absurd hk (by omega), fun k hk => absurd hk (by omega), fun k hk => absurd hk (by omega), fun k hk => absurd hk (by omega), fun k hk => absurd hk (by omega)⟩ (fun h' f' M' => ⟨n + 1, ?_⟩)⟩
  have g : frV h h' := frV_frm f' (by decide)
  refine MO_go_loop (lot := lot) e hn n 0 _ h' (by omega) (R.tr (keepM_frV g)) M' ?_ ?_ (fun h2 f2 M2 => HQ h2 (frV_tr g f2) M2)
  · rw [f'.2 59 (by decide)]; exact hh
  · rw [f'.1]; exact hl
theorem ctF_no {E : EV} {lot : Nat → Int64} : (fun m => ctF E (-1) (lot m)) = fun (_ _ : Nat) => (0 : Int32) := by
  funext m k
  unfold ctF caughtF
  rw [if_neg (by decide)]
def noC : Nat → Nat → Int32 := fun _ _ => 0
theorem MO_lives_spec {E : EV} {hi : Nat → Int32} {n : Nat} {h : AH} {Q : AH → Prop} (e : E.ok) (hn : n ≤ 24) (R : MRep E h) (hR : rowR E.N (h.1 63) hi)
    (HQ : ∀ h', frV h h' → MD E.N (goF E noC n 0 (bornF hi)) h' → Q h') : p_MO_lives Q (nI n) h := by
  have f1 : frV h (wI h 59 37 (-1)) := ⟨rfl, fun b hb => by rw [wI_r, if_neg (fun z => hb (by rw [z]; decide))], fun k hk => if_neg hk⟩
  refine MO_livesBy_spec (hi := hi) (hd := -1) (lot := h.2.1 59 38) e hn (R.tr (keepM_frV f1)) hR rfl rfl (fun h' f' M' => HQ h' (frV_tr f1 f') ?_)
  rw [ctF_no] at M'
  exact M'
