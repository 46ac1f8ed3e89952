/-! pure: drawn, odds -/
theorem bt7 : ∀ a b c d e f g : Bool, (bitF (bS g 6 (bS f 5 (bS e 4 (bS d 3 (bS c 2 (bS b 1 (bS a 0 0))))))) 0 = if a then 1 else 0) ∧ (bitF (bS g 6 (bS f 5 (bS e 4 (bS d 3 (bS c 2 (bS b 1 (bS a 0 0))))))) 1 = if b then 1 else 0) ∧ (bitF (bS g 6 (bS f 5 (bS e 4 (bS d 3 (bS c 2 (bS b 1 (bS a 0 0))))))) 2 = if c then 1 else 0) ∧ (bitF (bS g 6 (bS f 5 (bS e 4 (bS d 3 (bS c 2 (bS b 1 (bS a 0 0))))))) 3 = if d then 1 else 0) ∧ (bitF (bS g 6 (bS f 5 (bS e 4 (bS d 3 (bS c 2 (bS b 1 (bS a 0 0))))))) 4 = if e then 1 else 0) ∧ (bitF (bS g 6 (bS f 5 (bS e 4 (bS d 3 (bS c 2 (bS b 1 (bS a 0 0))))))) 5 = if f then 1 else 0) ∧ (bitF (bS g 6 (bS f 5 (bS e 4 (bS d 3 (bS c 2 (bS b 1 (bS a 0 0))))))) 6 = if g then 1 else 0) := by decide +kernel
theorem bS_ff {k : Nat} {a : Int32} : bS false k a = a := rfl
theorem bits_spec {b : Nat → Bool} : ∀ {N j : Nat}, N ≤ 7 → j < N → bitF (tally bS b N 0 0) j = if b j then 1 else 0 := by
  intro N j hN hj
  have key : ∀ a0 a1 a2 a3 a4 a5 a6 : Bool, ∀ i, i < 7 → bitF (bS a6 6 (bS a5 5 (bS a4 4 (bS a3 3 (bS a2 2 (bS a1 1 (bS a0 0 0))))))) i = if (match i with | 0 => a0 | 1 => a1 | 2 => a2 | 3 => a3 | 4 => a4 | 5 => a5 | _ => a6) then 1 else 0 := by
    intro a0 a1 a2 a3 a4 a5 a6 i hi
    obtain ⟨z0, z1, z2, z3, z4, z5, z6⟩ := bt7 a0 a1 a2 a3 a4 a5 a6
    match i, hi with
    | 0, _ => exact z0
    | 1, _ => exact z1
    | 2, _ => exact z2
    | 3, _ => exact z3
    | 4, _ => exact z4
    | 5, _ => exact z5
    | 6, _ => exact z6
    | n + 7, h => exact absurd h (by omega)
  match N, hN with
  | 0, _ => exact absurd hj (by omega)
  | 1, _ =>
    have := key (b 0) false false false false false false j (by omega)
    match j, hj with
    | 0, _ => exact this
    | n + 1, h => exact absurd h (by omega)
  | 2, _ =>
    have := key (b 0) (b 1) false false false false false j (by omega)
    match j, hj with
    | 0, _ => exact this
    | 1, _ => exact this
    | n + 2, h => exact absurd h (by omega)
  | 3, _ =>
    have := key (b 0) (b 1) (b 2) false false false false j (by omega)
    match j, hj with
    | 0, _ => exact this
    | 1, _ => exact this
    | 2, _ => exact this
    | n + 3, h => exact absurd h (by omega)
  | 4, _ =>
    have := key (b 0) (b 1) (b 2) (b 3) false false false j (by omega)
    match j, hj with
    | 0, _ => exact this
    | 1, _ => exact this
    | 2, _ => exact this
    | 3, _ => exact this
    | n + 4, h => exact absurd h (by omega)
  | 5, _ =>
    have := key (b 0) (b 1) (b 2) (b 3) (b 4) false false j (by omega)
    match j, hj with
    | 0, _ => exact this
    | 1, _ => exact this
    | 2, _ => exact this
    | 3, _ => exact this
    | 4, _ => exact this
    | n + 5, h => exact absurd h (by omega)
  | 6, _ =>
    have := key (b 0) (b 1) (b 2) (b 3) (b 4) (b 5) false j (by omega)
    match j, hj with
    | 0, _ => exact this
    | 1, _ => exact this
    | 2, _ => exact this
    | 3, _ => exact this
    | 4, _ => exact this
    | 5, _ => exact this
    | n + 6, h => exact absurd h (by omega)
  | 7, _ =>
    have := key (b 0) (b 1) (b 2) (b 3) (b 4) (b 5) (b 6) j (by omega)
    match j, hj with
    | 0, _ => exact this
    | 1, _ => exact this
    | 2, _ => exact this
    | 3, _ => exact this
    | 4, _ => exact this
    | 5, _ => exact this
    | 6, _ => exact this
    | n + 7, h => exact absurd h (by omega)
  | n + 8, h => exact absurd h (by omega)
def lotB (E : EV) (hd : Int32) (lot : Int64) (k : Nat) : Bool := decide (leadP E k ∧ ctF E hd lot k = 1)
theorem lotB_spec {E : EV} {hd : Int32} {lot : Int64} {k : Nat} (e : E.ok) (hk : k < E.N) (hl : leadP E k) : bitF (tally bS (lotB E hd lot) E.N 0 0) k = ctF E hd lot k := by
  rw [bits_spec e.n7 hk]
  unfold lotB
  by_cases c : ctF E hd lot k = 1
  · rw [c]; simp [hl]
  · simp only [c, and_false, decide_false, Bool.false_eq_true, if_false]
    unfold ctF caughtF at c ⊢
    by_cases c1 : 0 ≤ hd
    · rw [if_pos c1] at c ⊢
      by_cases c2 : 0 ≤ lg_cmp (lotN (lotAt E hd lot k) - lotN (lotAt E hd lot k) / 100 * 100) hd.toInt64
      · rw [if_pos c2]
      · rw [if_neg c2] at c; exact absurd rfl c
    · rw [if_neg c1]
theorem UF_drawn_inner {E : EV} {hi : Nat → Int32} {m hd x2 : Int32} {lot : Int64} {Q : Int32 → AH → Prop} {K : Int32 → Int32 → Int64 → Int32 → AH → Prop} {h : AH} (T : Tn E hi h) (hh : 0 ≤ hd) : ∀ (cnt k : Nat) (bits : Int32), k + cnt = E.N → p_Dusk_pass (fun h1 => K x2 hd (lotAt E hd lot E.N) (m + 1) h1) m (tally bS (lotB E hd lot) cnt k bits) h → p_UF_drawnDown_25 Q K (cnt + 1) x2 hd (lotAt E hd lot k) m bits (nI k) h := by
  intro cnt
  have n7 := T.1.n7
  induction cnt with
  | zero =>
    intro k bits hk H
    have hk' : k = E.N := by omega
    subst hk'
    simp only [p_UF_drawnDown_25]
    rw [T.2.2.1.1, pT (Int32.le_refl _)]
    exact H
  | succ cnt ih =>
    intro k bits hk H
    have kN : k < E.N := by omega
    obtain ⟨n', hn'⟩ : ∃ n', n' = cnt + 1 := ⟨_, rfl⟩
    rw [← hn']
    rw [← hn'] at ih
    have H' : p_Dusk_pass (fun h1 => K x2 hd (lotAt E hd lot E.N) (m + 1) h1) m (tally bS (lotB E hd lot) cnt (k + 1) (bS (lotB E hd lot k) k bits)) h := H
    simp only [p_UF_drawnDown_25]
    rw [T.2.2.1.1, pF (fun z => by have := (nI_leN (by omega) (by omega)).mp z; omega), leads5, T.2.2.1.2.2.2.1 k kN, T.2.2.1.1]
    refine ⟨inb_nI (by omega) (by omega), ?_⟩
    have ek : lotAt E hd lot (k + 1) = if leadP E k ∧ 0 ≤ hd then lotN (lotAt E hd lot k) else lotAt E hd lot k := rfl
    have nl : ¬ leadP E k → p_UF_drawnDown_85 Q K (p_UF_drawnDown_25 Q K n') x2 hd (lotAt E hd lot k) m bits (nI k) h := fun c => by
      unfold p_UF_drawnDown_85
      rw [nI_1]
      rw [if_neg (fun z => c z.1)] at ek
      have hb : lotB E hd lot k = false := by unfold lotB; simp [c]
      rw [hb] at H'
      rw [← ek]
      exact ih (k + 1) bits (by omega) H'
    by_cases c : E.partner k ≤ nI k
    · rw [pT c]
      exact (nT rfl).mpr (nl (fun z => z.2 c))
    · obtain ⟨j, hj, ej⟩ := leads_ex T.1 kN c
      have hl : leadP E k := ⟨by rw [ej]; exact nI_ne1 (by omega), c⟩
      rw [pF c, pF (fun z => by rw [ej] at z; have := (nI_leN (by omega) (by omega)).mp z; omega)]
      refine (nF (by decide)).mpr ?_
      rw [if_pos ⟨hl, hh⟩] at ek
      have hc : ctF E hd lot k = if 0 ≤ lg_cmp (lotN (lotAt E hd lot k) - lotN (lotAt E hd lot k) / 100 * 100) hd.toInt64 then 0 else 1 := by
        unfold ctF caughtF; rw [if_pos hh]
      show (0 ≤ lg_cmp (lotN (lotAt E hd lot k) - lotN (lotAt E hd lot k) / 100 * 100) hd.toInt64 → p_UF_drawnDown_85 Q K (p_UF_drawnDown_25 Q K n') x2 hd (lotN (lotAt E hd lot k)) m bits (nI k) h) ∧ (¬ 0 ≤ lg_cmp (lotN (lotAt E hd lot k) - lotN (lotAt E hd lot k) / 100 * 100) hd.toInt64 → p_UF_drawnDown_85 Q K (p_UF_drawnDown_25 Q K n') x2 hd (lotN (lotAt E hd lot k)) m (bits ||| (1 <<< (nI k &&& 31))) (nI k) h)
      rw [← ek] at hc ⊢
      by_cases c2 : 0 ≤ lg_cmp (lotAt E hd lot (k + 1) - lotAt E hd lot (k + 1) / 100 * 100) hd.toInt64
      · refine (pT c2).mpr ?_
        rw [if_pos c2] at hc
        have hb : lotB E hd lot k = false := by unfold lotB; rw [hc]; simp
        rw [hb] at H'
        unfold p_UF_drawnDown_85
        rw [nI_1]
        exact ih (k + 1) bits (by omega) H'
      · refine (pF c2).mpr ?_
        rw [if_neg c2] at hc
        have hb : lotB E hd lot k = true := by unfold lotB; rw [hc]; simp [hl]
        rw [hb] at H'
        unfold p_UF_drawnDown_85
        rw [nI_1]
        exact ih (k + 1) _ (by omega) H'
def ctD (E : EV) (hd : Int32) (lot : Int64) : Nat → Nat → Int32 := fun m => ctF E hd (lotM E hd lot m)
theorem UF_drawn_outer {E : EV} {hi : Nat → Int32} {hd : Int32} {lot : Int64} {n : Nat} {Q : Int32 → AH → Prop} {h0 : AH} (T0 : Tn E hi h0) (hh : 0 ≤ hd) (hn : n ≤ 24) (HQ : ∀ h', frR h0 h' → Q (downF E.N (goF E (ctD E hd lot) n 0 (bornF hi)).hi) h') : ∀ (cnt m : Nat) (h : AH), m + cnt = n → frR h0 h → CRep E h → CD E.N (goF E (ctD E hd lot) m 0 (bornF hi)) h → p_UF_drawnDown_13 Q (cnt + 1) (nI n) hd (lotM E hd lot m) (nI m) h := by
  intro cnt
  have n7 := T0.1.n7
  induction cnt with
  | zero =>
    intro m h hm f R M
    have hm' : m = n := by omega
    subst hm'
    simp only [p_UF_drawnDown_13]
    rw [pT (Int32.le_refl _)]
    exact downCount_spec n7 R.n M.hi (HQ h f)
  | succ cnt ih =>
    intro m h hm f R M
    obtain ⟨n', hn'⟩ : ∃ n', n' = cnt + 1 := ⟨_, rfl⟩
    rw [← hn']
    rw [← hn'] at ih
    have T := Tn_I (frI_R f) T0
    simp only [p_UF_drawnDown_13]
    rw [pF (fun z => by have := (nI_leN (by omega) (by omega)).mp z; omega)]
    refine ⟨E.N + 1, UF_drawn_inner (lot := lotM E hd lot m) T hh E.N 0 0 (by omega) ?_⟩
    have ok : hiOk E.N (goF E (ctD E hd lot) m 0 (bornF hi)) := hiOk_go T.1 m 0 _ T.hiOk
    refine Dusk_pass_spec T.1 R M ok (fun h1 f1 M1 => ?_)
    rw [nI_1]
    refine ih (m + 1) h1 (by omega) (frR_tr f (frR_SC f1)) (R.tr f1 (fun _ z => z)) ?_
    rw [goF_succ, Nat.zero_add]
    rw [minuteF_congr (ct' := ctD E hd lot m) (fun k hk hl => lotB_spec T.1 hk hl)] at M1
    exact M1
theorem UF_drawnDown_spec {E : EV} {hi : Nat → Int32} {hd x1 : Int32} {n : Nat} {Q : Int32 → AH → Prop} {h : AH} (T : Tn E hi h) (hh : 0 ≤ hd) (hn : n ≤ 24) (HQ : ∀ h', frR h h' → Q (downF E.N (goF E (ctD E hd (x1 + 1).toInt64) n 0 (bornF hi)).hi) h') : p_UF_drawnDown Q x1 (nI n) hd h := by
  refine UF_ready_spec T.1 T.2.2.1 (fun h1 f1 R1 M1 => ?_)
  exact ⟨n + 1, UF_drawn_outer (lot := (x1 + 1).toInt64) T hh hn HQ n 0 h1 (by omega) f1 R1 M1⟩
theorem frV_37 {h h' : AH} {l : Int64} {x : Int32} (f : frV (wI (wL h 59 38 l) 59 37 x) h') : frV h h' := by
  refine ⟨f.1, fun b hb => (f.2.1 b hb).trans ?_, fun k hk => (f.2.2 k hk).trans ?_⟩
  · rw [wI_r, if_neg (fun z => hb (by rw [z]; exact List.mem_cons_self))]; rfl
  · rw [wI_r, if_pos rfl]
    exact up_n hk
theorem lot_seed {x : Int32} (h0 : 0 ≤ x.toInt) (h1 : x.toInt ≤ 200000) : x.toInt64 + 1 = (x + 1).toInt64 := by
  apply Int64.toInt_inj.mp
  have e1 : (1 : Int32).toInt = 1 := by decide
  have e2 : (1 : Int64).toInt = 1 := by decide
  rw [Int64.toInt_add, Int32.toInt_toInt64, Int32.toInt_toInt64, Int32.toInt_add, e1, e2]
  rw [Int.bmod_eq_of_le (by omega) (by omega), Int.bmod_eq_of_le (by omega) (by omega)]
theorem MO_downsBy_spec {E : EV} {hi : Nat → Int32} {hd x1 : Int32} {n : Nat} {Q : Int32 → AH → Prop} {h : AH} (e : E.ok) (R : MTn E hi h) (hn : n ≤ 24) (x0 : 0 ≤ x1.toInt) (x2 : x1.toInt ≤ 200000) (HQ : ∀ h', frV h h' → Q (downF E.N (goF E (ctD E hd (x1 + 1).toInt64) n 0 (bornF hi)).hi) h') : p_MO_downsBy Q x1 (nI n) hd h := by
  unfold p_MO_downsBy
  have R1 : MRep E (wI (wL h 59 38 (x1.toInt64 + 1)) 59 37 hd) := R.1.tr ⟨rfl, rfl, rfl, rfl, rfl, rfl, rfl, rfl, rfl⟩
  refine MO_livesBy_spec (lot := (x1 + 1).toInt64) e hn R1 R.2 rfl (by rw [← lot_seed x0 x2]; rfl) (fun h1 f1 M1 => ?_)
  have f2 : frV h h1 := frV_37 f1
  exact downNow_spec e.n7 (R.1.tr (keepM_frV f2)).n M1.hi (HQ h1 f2)
theorem isDraw_of {x y z : Int32} (h : (0 ≤ x ∧ x ≤ 99999) ∧ (0 ≤ y ∧ y ≤ 24) ∧ (0 ≤ z ∧ z ≤ 100)) : 0 ≤ x.toInt ∧ x.toInt ≤ 99999 ∧ (∃ n, n ≤ 24 ∧ y = nI n) ∧ 0 ≤ z := by
  have e : (99999 : Int32).toInt = 99999 := by decide
  refine ⟨?_, ?_, spanN.mp h.2.1, h.2.2.1⟩
  · have := Int32.le_iff_toInt_le.mp h.1.1; rwa [Int32.toInt_zero] at this
  · have := Int32.le_iff_toInt_le.mp h.1.2; rwa [e] at this
theorem both_drawn {x1 x2 x3 : Int32} {h : AH} (I : Inv h) : p_UF_drawn (fun r1 h1 => p_MO_drawn (K2 r1) x1 x2 x3 h1) x1 x2 x3 h := by
  obtain ⟨E, hi, T⟩ := Tn_of I
  unfold p_UF_drawn
  rw [UF_isDraw_iff]
  by_cases c : (0 ≤ x1 ∧ x1 ≤ 99999) ∧ (0 ≤ x2 ∧ x2 ≤ 24) ∧ (0 ≤ x3 ∧ x3 ≤ 100)
  · rw [b01_t c]
    obtain ⟨d1, d2, ⟨n, hn, rfl⟩, d3⟩ := isDraw_of c
    refine (nF (by decide)).mpr ?_
    refine UF_drawnDown_spec T d3 hn (fun h1 f1 => ?_)
    have T1' := Tn_I (frI_R f1) T
    show p_MO_drawn (K2 _) _ _ _ _
    unfold p_MO_drawn
    rw [MO_isDrawn_iff, b01_t c]
    refine (pF (by decide)).mpr ?_
    exact MO_downsBy_spec T.1 T1'.2.2.2 hn d1 (by omega) (fun h2 f2 => ⟨rfl, Inv_I (frI_tr (frI_R f1) (frI_V f2)) I⟩)
  · rw [b01_f c]
    refine (nT rfl).mpr ?_
    show p_MO_drawn (K2 _) _ _ _ _
    unfold p_MO_drawn
    rw [MO_isDrawn_iff, b01_f c]
    exact (pT rfl).mpr ⟨rfl, I⟩
def cntF (V : Nat → Bool) : Nat → Nat → Nat → Nat
  | 0, _, a => a
  | c + 1, k, a => cntF V c (k + 1) (if V k then a + 1 else a)
theorem cntF_le {V : Nat → Bool} : ∀ (c k a : Nat), cntF V c k a ≤ a + c := by
  intro c
  induction c with
  | zero => intro k a; exact Nat.le_refl _
  | succ c ih =>
    intro k a
    show cntF V c (k + 1) (if V k then a + 1 else a) ≤ _
    by_cases h : V k
    · rw [if_pos h]; have := ih (k + 1) (a + 1); omega
    · rw [if_neg h]; have := ih (k + 1) a; omega
def oddV (E : EV) (hi : Nat → Int32) (hd x1 : Int32) (n k : Nat) : Bool := decide (downF E.N (goF E (ctD E hd (x1 + nI k + 1).toInt64) n 0 (bornF hi)).hi = nI E.N)
theorem seed_in {x1 : Int32} {k : Nat} (d1 : 0 ≤ x1.toInt) (d2 : x1.toInt ≤ 99999) (hk : k < 20) : 0 ≤ (x1 + nI k).toInt ∧ (x1 + nI k).toInt ≤ 200000 := by
  have e : (x1 + nI k).toInt = x1.toInt + k := by
    rw [Int32.toInt_add, nI_toInt (by omega)]
    exact Int.bmod_eq_of_le (by omega) (by omega)
  omega
theorem UF_odds_loop {E : EV} {hi : Nat → Int32} {hd x1 x4 : Int32} {n : Nat} {Q : Int64 → AH → Prop} {h0 : AH} (T0 : Tn E hi h0) (hh : 0 ≤ hd) (hn : n ≤ 24) (HQ : ∀ a h', frR h0 h' → a = cntF (oddV E hi hd x1 n) 20 0 0 → ∃ n, p_UF_odds_71 Q n x4 (nI a) 1 2 h') : ∀ (cnt k a : Nat) (h : AH), k + cnt = 20 → frR h0 h → cntF (oddV E hi hd x1 n) cnt k a = cntF (oddV E hi hd x1 n) 20 0 0 → p_UF_odds_29 Q (cnt + 1) x1 (nI n) hd x4 (nI a) (nI k) h := by
  intro cnt
  induction cnt with
  | zero =>
    intro k a h hk f ha
    have hk' : k = 20 := by omega
    subst hk'
    simp only [p_UF_odds_29]
    rw [pT (by decide)]
    exact HQ a h f ha
  | succ cnt ih =>
    intro k a h hk f ha
    obtain ⟨n', hn'⟩ : ∃ n', n' = cnt + 1 := ⟨_, rfl⟩
    rw [← hn']
    rw [← hn'] at ih
    have T := Tn_I (frI_R f) T0
    simp only [p_UF_odds_29]
    rw [pF (fun z => by have := (nI_leN (a := 20) (by decide) (by omega)).mp z; omega)]
    refine UF_drawnDown_spec T hh hn (fun h1 f1 => ?_)
    have f01 := frR_tr f f1
    have T1' := Tn_I (frI_R f01) T0
    have ha' : cntF (oddV E hi hd x1 n) cnt (k + 1) (if oddV E hi hd x1 n k then a + 1 else a) = cntF (oddV E hi hd x1 n) 20 0 0 := ha
    rw [T1'.2.2.1.1]
    by_cases c : downF E.N (goF E (ctD E hd (x1 + nI k + 1).toInt64) n 0 (bornF hi)).hi = nI E.N
    · have hv : oddV E hi hd x1 n k = true := by unfold oddV; simp [c]
      rw [hv] at ha'
      refine (nT c).mpr ?_
      unfold p_UF_odds_59
      rw [nI_1, nI_1]
      exact ih (k + 1) (a + 1) h1 (by omega) f01 ha'
    · have hv : oddV E hi hd x1 n k = false := by unfold oddV; simp [c]
      rw [hv] at ha'
      refine (nF c).mpr ?_
      unfold p_UF_odds_59
      rw [nI_1]
      exact ih (k + 1) a h1 (by omega) f01 ha'
def lI (n : Nat) : Int64 := Int64.ofNat n
theorem lI_1 (a : Nat) : lI a + 1 = lI (a + 1) := by
  unfold lI
  apply Int64.toBitVec_inj.mp
  simp [BitVec.ofNat_add]
theorem MO_odds_loop {E : EV} {hi : Nat → Int32} {hd x1 x4 : Int32} {n : Nat} {Q : Int64 → AH → Prop} {h0 : AH} (e : E.ok) (R0 : MTn E hi h0) (d1 : 0 ≤ x1.toInt) (d2 : x1.toInt ≤ 99999) (hn : n ≤ 24) (HQ : ∀ a h', frV h0 h' → a = cntF (oddV E hi hd x1 n) 20 0 0 → p_MO_lowest Q (lI a) 20 x4 h') : ∀ (cnt k a : Nat) (h : AH), k + cnt = 20 → frV h0 h → cntF (oddV E hi hd x1 n) cnt k a = cntF (oddV E hi hd x1 n) 20 0 0 → p_MO_odds_29 Q (cnt + 1) x1 (nI n) hd x4 (lI a) (nI k) h := by
  intro cnt
  induction cnt with
  | zero =>
    intro k a h hk f ha
    have hk' : k = 20 := by omega
    subst hk'
    simp only [p_MO_odds_29]
    rw [pT (by decide)]
    exact HQ a h f ha
  | succ cnt ih =>
    intro k a h hk f ha
    obtain ⟨n', hn'⟩ : ∃ n', n' = cnt + 1 := ⟨_, rfl⟩
    rw [← hn']
    rw [← hn'] at ih
    have R : MTn E hi h := MTn_I (frI_V f) R0
    simp only [p_MO_odds_29]
    rw [pF (fun z => by have := (nI_leN (a := 20) (by decide) (by omega)).mp z; omega)]
    obtain ⟨s1, s2⟩ := seed_in (k := k) d1 d2 (by omega)
    refine MO_downsBy_spec e R hn s1 s2 (fun h1 f1 => ?_)
    have f01 := frV_tr f f1
    have R1 : MTn E hi h1 := MTn_I (frI_V f01) R0
    have ha' : cntF (oddV E hi hd x1 n) cnt (k + 1) (if oddV E hi hd x1 n k then a + 1 else a) = cntF (oddV E hi hd x1 n) 20 0 0 := ha
    rw [R1.1.n]
    by_cases c : downF E.N (goF E (ctD E hd (x1 + nI k + 1).toInt64) n 0 (bornF hi)).hi = nI E.N
    · have hv : oddV E hi hd x1 n k = true := by unfold oddV; simp [c]
      rw [hv] at ha'
      refine (nT c).mpr ?_
      unfold p_MO_odds_60
      rw [nI_1, lI_1]
      exact ih (k + 1) (a + 1) h1 (by omega) f01 ha'
    · have hv : oddV E hi hd x1 n k = false := by unfold oddV; simp [c]
      rw [hv] at ha'
      refine (nF c).mpr ?_
      unfold p_MO_odds_60
      rw [nI_1, Int64.add_zero]
      exact ih (k + 1) a h1 (by omega) f01 ha'
def comF (a : Int32) : Nat → Nat → Int32 → Int32
  | 0, _, x6 => x6
  | c + 1, k, x6 => if a - a / nI k * nI k = 0 ∧ (20 : Int32) - 20 / nI k * nI k = 0 then comF a c (k + 1) (nI k) else comF a c (k + 1) x6
theorem UF_common_loop {x4 a : Int32} {Q : Int64 → AH → Prop} {h : AH} : ∀ (cnt k : Nat) (x6 : Int32), k + cnt = 21 → 1 ≤ k → ¬ comF a cnt k x6 = 0 → Q ((if x4 = 0 then a else 20) / comF a cnt k x6).toInt64 h → p_UF_odds_71 Q (cnt + 1) x4 a x6 (nI k) h := by
  intro cnt
  induction cnt with
  | zero =>
    intro k x6 hk h1 h0 H
    have hk' : k = 21 := by omega
    subst hk'
    simp only [p_UF_odds_71]
    rw [pT (by decide)]
    have H' : Q ((if x4 = 0 then a else 20) / x6).toInt64 h := H
    by_cases c : x4 = 0
    · rw [if_pos c] at H'; exact (nT c).mpr ⟨h0, H'⟩
    · rw [if_neg c] at H'; exact (nF c).mpr ⟨h0, H'⟩
  | succ cnt ih =>
    intro k x6 hk h1 h0 H
    obtain ⟨n', hn'⟩ : ∃ n', n' = cnt + 1 := ⟨_, rfl⟩
    rw [← hn']
    rw [← hn'] at ih
    simp only [p_UF_odds_71]
    rw [pF (fun z => by have := (nI_ltI (a := 20) (by decide) (by omega)).mp z; omega)]
    refine ⟨fun z => by have := (nI_inj (b := 0) (by omega) (by decide)).mp z; omega, ?_⟩
    unfold p_UF_odds_98
    rw [nI_1]
    by_cases c : a - a / nI k * nI k = 0
    · refine (nT c).mpr ?_
      by_cases c2 : (20 : Int32) - 20 / nI k * nI k = 0
      · have e : comF a (cnt + 1) k x6 = comF a cnt (k + 1) (nI k) := if_pos ⟨c, c2⟩
        rw [e] at h0 H
        exact (nT c2).mpr (ih (k + 1) _ (by omega) (by omega) h0 H)
      · have e : comF a (cnt + 1) k x6 = comF a cnt (k + 1) x6 := if_neg (fun z => c2 z.2)
        rw [e] at h0 H
        exact (nF c2).mpr (ih (k + 1) _ (by omega) (by omega) h0 H)
    · have e : comF a (cnt + 1) k x6 = comF a cnt (k + 1) x6 := if_neg (fun z => c z.1)
      rw [e] at h0 H
      exact (nF c).mpr (ih (k + 1) _ (by omega) (by omega) h0 H)
def euF : Nat → Int64 → Int64 → Int64
  | 0, _, _ => 0
  | n + 1, a, b => if lg_cmp b 0 = 0 then a else euF n b (a - a / b * b)
theorem MO_lowest_loop {y0 y2 : Int64} {x4 : Int32} {Q : Int64 → AH → Prop} {h : AH} : ∀ (n : Nat) (a b : Int64), ¬ euF n a b = 0 → Q ((if x4 = 0 then y0 else y2) / euF n a b) h → p_MO_lowest_16 Q n y0 y2 x4 a b h := by
  intro n
  induction n with
  | zero => intro a b h0 _; exact absurd rfl h0
  | succ n ih =>
    intro a b h0 H
    unfold euF at h0 H
    simp only [p_MO_lowest_16]
    by_cases c : lg_cmp b 0 = 0
    · rw [if_pos c] at h0 H
      refine (pT c).mpr ?_
      by_cases d : x4 = 0
      · rw [if_pos d] at H; exact (nT d).mpr ⟨h0, H⟩
      · rw [if_neg d] at H; exact (nF d).mpr ⟨h0, H⟩
    · rw [if_neg c] at h0 H
      exact (pF c).mpr ⟨fun z => c (by rw [z]; decide), ih _ _ h0 H⟩
abbrev oddsOk (a : Nat) (x4 : Int32) : Prop := ¬ comF (nI a) 19 2 1 = 0 ∧ (lg_cmp (lI a) 0 = 0 → ((if x4 = 0 then nI a else 20) / comF (nI a) 19 2 1).toInt64 = x4.toInt64) ∧ (¬ lg_cmp (lI a) 0 = 0 → ¬ euF 10 (lI a) 20 = 0 ∧ ((if x4 = 0 then nI a else 20) / comF (nI a) 19 2 1).toInt64 = (if x4 = 0 then lI a else 20) / euF 10 (lI a) 20)
theorem odds_all : ∀ a : Fin 21, oddsOk a.val 0 ∧ oddsOk a.val 1 := by decide +kernel
abbrev K2L (r1 : Int64) : Int64 → AH → Prop := fun r2 h2 => r1 = r2 ∧ Inv h2
theorem both_odds {x1 x2 x3 x4 : Int32} {h : AH} (I : Inv h) : p_UF_odds (fun r1 h1 => p_MO_odds (K2L r1) x1 x2 x3 x4 h1) x1 x2 x3 x4 h := by
  obtain ⟨E, hi, T⟩ := Tn_of I
  unfold p_UF_odds
  rw [UF_isDraw_iff]
  by_cases c : (0 ≤ x1 ∧ x1 ≤ 99999) ∧ (0 ≤ x2 ∧ x2 ≤ 24) ∧ (0 ≤ x3 ∧ x3 ≤ 100)
  · rw [b01_t c]
    refine (pF (by decide)).mpr ?_
    rw [UF_within_iff]
    by_cases c4 : 0 ≤ x4 ∧ x4 ≤ 1
    · rw [b01_t c4]
      obtain ⟨d1, d2, ⟨n, hn, rfl⟩, d3⟩ := isDraw_of c
      refine (nF (by decide)).mpr ⟨21, UF_odds_loop T d3 hn (fun a h1 f1 ha => ?_) 20 0 0 h (by omega) frR_rf rfl⟩
      have a20 : a ≤ 20 := by have := cntF_le (V := oddV E hi x3 x1 n) 20 0 0; omega
      have ok : oddsOk a x4 := by
        obtain ⟨o1, o2⟩ := odds_all ⟨a, by omega⟩
        obtain ⟨p, hp, ep⟩ := (upto (n := 1) (by decide)).mp c4
        match p, hp with
        | 0, _ => rw [ep]; exact o1
        | 1, _ => rw [ep]; exact o2
      have T1' := Tn_I (frI_R f1) T
      refine ⟨20, UF_common_loop 19 2 1 (by omega) (by omega) ok.1 ?_⟩
      show p_MO_odds (K2L _) _ _ _ _ _
      unfold p_MO_odds
      rw [MO_isDrawn_iff, b01_t c]
      refine (pF (by decide)).mpr ?_
      rw [MO_in_iff, b01_t c4]
      refine (nF (by decide)).mpr ⟨21, MO_odds_loop (a := 0) T.1 T1'.2.2.2 d1 d2 hn (fun b h2 f2 hb => ?_) 20 0 h1 (by omega) frV_rf rfl⟩
      have eb : b = a := by rw [ha, hb]
      subst eb
      have I2 : Inv h2 := Inv_I (frI_tr (frI_R f1) (frI_V f2)) I
      exact ⟨fun z => ⟨10, MO_lowest_loop 10 _ _ (ok.2.2 z).1 ⟨(ok.2.2 z).2, I2⟩⟩, fun z => ⟨ok.2.1 z, I2⟩⟩
    · rw [b01_f c4]
      refine (nT rfl).mpr ?_
      show p_MO_odds (K2L _) _ _ _ _ _
      unfold p_MO_odds
      rw [MO_isDrawn_iff, b01_t c]
      refine (pF (by decide)).mpr ?_
      rw [MO_in_iff, b01_f c4]
      exact (nT rfl).mpr ⟨rfl, I⟩
  · rw [b01_f c]
    refine (pT rfl).mpr ?_
    show p_MO_odds (K2L _) _ _ _ _ _
    unfold p_MO_odds
    rw [MO_isDrawn_iff, b01_f c]
    exact (pT rfl).mpr ⟨rfl, I⟩
