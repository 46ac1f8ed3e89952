/-! pure: night, dawn, count -/
theorem isDown5 {Q : Int32 → AH → Prop} {x : Int32} {h : AH} : p_Town_isDown Q 5 x h ↔ (inb x 7 ∧ ((¬ h.1 6 x = 0 → Q 0 h) ∧ (h.1 6 x = 0 → Q 1 h))) := by
  constructor
  · rintro ⟨_, _, _, _, _, H⟩; exact H
  · intro H; exact ⟨vA_s (show 5 < 84 by decide), rfl, Nat.succ_pos _, vA_s (show 6 < 84 by decide), rfl, H⟩
theorem downBits5_loop {N : Nat} {hi : Nat → Int32} {Q : Int32 → AH → Prop} {h : AH} (n7 : N ≤ 7) (hN : h.1 5 3 = nI N) (M : rowR N (h.1 6) hi) : ∀ (cnt k : Nat) (a : Int32), k + cnt = N → Q (tally bS (zB hi) cnt k a) h → p_Town_downBits_4 Q (cnt + 1) 5 a (nI k) h := by
  intro cnt
  induction cnt with
  | zero =>
    intro k a hk HQ
    have hk' : k = N := by omega
    subst hk'
    simp only [p_Town_downBits_4]
    rw [hN, pT (Int32.le_refl _)]
    exact ⟨vA_s (show 5 < 84 by decide), rfl, HQ⟩
  | succ cnt ih =>
    intro k a hk HQ
    obtain ⟨n', hn'⟩ : ∃ n', n' = cnt + 1 := ⟨_, rfl⟩
    rw [← hn']
    rw [← hn'] at ih
    simp only [p_Town_downBits_4]
    rw [hN, pF (fun z => by have := (nI_leN (by omega) (by omega)).mp z; omega), isDown5, M k (by omega)]
    refine ⟨vA_s (show 5 < 84 by decide), rfl, inb_nI (by omega) (by omega), ?_⟩
    unfold p_Town_downBits_26
    rw [nI_1]
    have HQ' : Q (tally bS (zB hi) cnt (k + 1) (bS (zB hi k) k a)) h := HQ
    by_cases hz : hi k = 0
    · rw [nT hz]; rw [bS_t hz] at HQ'
      exact (pF (by decide)).mpr (ih (k + 1) _ (by omega) HQ')
    · rw [nF hz]; rw [bS_f hz] at HQ'
      exact (pT rfl).mpr (ih (k + 1) _ (by omega) HQ')
theorem downCount5_spec {N : Nat} {hi : Nat → Int32} {Q : Int32 → AH → Prop} {h : AH} (n7 : N ≤ 7) (hN : h.1 5 3 = nI N) (M : rowR N (h.1 6) hi) (HQ : Q (downF N hi) h) : p_Town_downCount Q 5 h := by
  refine ⟨vA_s (show 5 < 84 by decide), rfl, ⟨N + 1, downBits5_loop n7 hN M N 0 0 (by omega) ?_⟩⟩
  rw [bitCount_iff, (tally_eq n7).2]
  exact HQ
theorem UF_night_loop {N : Nat} {hi : Nat → Int32} {Q : Int32 → AH → Prop} {h0 : AH} (n7 : N ≤ 7) (hN : h0.1 5 3 = nI N) (M : rowR N (h0.1 15) hi) (HQ : ∀ h', frm [6] h0 h' → rowR N (h'.1 6) hi → Q (downF N hi) h') : ∀ (cnt k : Nat) (h : AH), k + cnt = N → frm [6] h0 h → rowR k (h.1 6) hi → p_UF_night_24 Q (cnt + 1) (nI k) h := by
  intro cnt
  induction cnt with
  | zero =>
    intro k h hk f R
    have hk' : k = N := by omega
    subst hk'
    simp only [p_UF_night_24]
    rw [show h.1 5 3 = nI k by rw [f.2 5 (by decide)]; exact hN, pT (Int32.le_refl _)]
    exact downCount5_spec n7 (by rw [f.2 5 (by decide)]; exact hN) R (HQ h f R)
  | succ cnt ih =>
    intro k h hk f R
    obtain ⟨n', hn'⟩ : ∃ n', n' = cnt + 1 := ⟨_, rfl⟩
    rw [← hn']
    rw [← hn'] at ih
    simp only [p_UF_night_24]
    rw [show h.1 5 3 = nI N by rw [f.2 5 (by decide)]; exact hN, pF (fun z => by have := (nI_leN (by omega) (by omega)).mp z; omega), nI_1]
    refine ⟨inb_nI (by omega) (by omega), ih (k + 1) _ (by omega) (frm_w f (by decide)) (rowR_ext (by omega) R ?_)⟩
    rw [f.2 15 (by decide)]; exact M k (by omega)
theorem MO_night_loop {N : Nat} {hi : Nat → Int32} {Q : Int32 → AH → Prop} {h0 : AH} (n7 : N ≤ 7) (hN : h0.1 59 0 = nI N) (M : rowR N (h0.1 78) hi) (HQ : ∀ h', frm [63] h0 h' → rowR N (h'.1 63) hi → Q (downF N hi) h') : ∀ (cnt k : Nat) (h : AH), k + cnt = N → frm [63] h0 h → rowR k (h.1 63) hi → p_MO_night_17 Q (cnt + 1) (nI k) h := by
  intro cnt
  induction cnt with
  | zero =>
    intro k h hk f R
    have hk' : k = N := by omega
    subst hk'
    simp only [p_MO_night_17]
    rw [show h.1 59 0 = nI k by rw [f.2 59 (by decide)]; exact hN, pT (Int32.le_refl _)]
    exact downNow_spec n7 (by rw [f.2 59 (by decide)]; exact hN) (by rw [f.2 78 (by decide)]; exact M) (HQ h f R)
  | succ cnt ih =>
    intro k h hk f R
    obtain ⟨n', hn'⟩ : ∃ n', n' = cnt + 1 := ⟨_, rfl⟩
    rw [← hn']
    rw [← hn'] at ih
    simp only [p_MO_night_17]
    rw [show h.1 59 0 = nI N by rw [f.2 59 (by decide)]; exact hN, pF (fun z => by have := (nI_leN (by omega) (by omega)).mp z; omega), nI_1]
    refine ⟨inb_nI (by omega) (by omega), ih (k + 1) _ (by omega) (frm_w f (by decide)) (rowR_ext (by omega) R ?_)⟩
    rw [f.2 78 (by decide)]; exact M k (by omega)
theorem both_night {x : Int32} {h : AH} (I : Inv h) : p_UF_night (fun r1 h1 => p_MO_night (K2 r1) x h1) x h := by
  have I0 := I
  obtain ⟨E, hi, tN, r, C, IB⟩ := I
  have T : Tn E hi h := ⟨IB.1, IB.2.2.1, IB.2.2.2.1, IB.2.2.2.2.1⟩
  have n7 := T.1.n7
  unfold p_UF_night
  rw [UF_isSpan_iff]
  by_cases c : 0 ≤ x ∧ x ≤ 24
  · rw [b01_t c]
    refine (nF (by decide)).mpr ?_
    obtain ⟨n, hn, rfl⟩ := spanN.mp c
    refine UF_ready_spec T.1 T.2.2.1 (fun h1 f1 R1 M1 => ?_)
    refine Dusk_go_spec T.1 hn R1 M1 T.hiOk (fun h2 f2 M2 => ?_)
    have f12 : frR h h2 := frR_tr f1 (frR_SC f2)
    have T2 := Tn_I (frI_R f12) T
    refine ⟨E.N + 1, UF_night_loop n7 T2.2.2.1.1 M2.hi (fun h3 f3 R3 => ?_) E.N 0 h2 (by omega) frm_rf (fun k hk => absurd hk (by omega))⟩
    have g3 : ∀ b, ¬ b = 6 → h3.1 b = h2.1 b := fun b hb => f3.2 b (by simpa using hb)
    show p_MO_night (K2 _) _ _
    unfold p_MO_night
    rw [MO_isMany_iff, b01_t c]
    refine (nF (by decide)).mpr ?_
    have K3 : keepM h2 h3 := ⟨by rw [g3 59 (by decide)], by rw [g3 59 (by decide)], g3 60 (by decide), g3 61 (by decide), g3 62 (by decide), g3 64 (by decide), g3 65 (by decide), g3 67 (by decide), g3 68 (by decide)⟩
    have RM : MRep E h3 := T2.2.2.2.1.tr K3
    refine MO_lives_spec T.1 hn RM (by rw [g3 63 (by decide)]; exact T2.2.2.2.2) (fun h4 f4 M4 => ?_)
    refine ⟨E.N + 1, MO_night_loop n7 (RM.tr (keepM_frV f4)).n M4.hi (fun h5 f5 R5 => ⟨rfl, ?_⟩) E.N 0 h4 (by omega) frm_rf (fun k hk => absurd hk (by omega))⟩
    have g5 : ∀ b, ¬ b = 63 → h5.1 b = h4.1 b := fun b hb => f5.2 b (by simpa using hb)
    have hok := hiOk_go (ct := noC) T.1 n 0 _ T.hiOk
    refine Inv_town (hi' := (goD E hi n).hi) (pe' := E.people) (pa' := E.partner) IB (frT_tr (frT_R f12) (frT_tr (frT_frm f3 (by decide)) (frT_tr (frT_V f4) (frT_frm f5 (by decide))))) (fun k hk => ⟨hok k hk, (T.2.1 k hk).2⟩) ?_ ?_ ?_ R5 ?_ ?_
    · rw [g5 6 (by decide), f4.2.1 6 (by decide)]; exact R3
    · rw [g5 7 (by decide), f4.2.1 7 (by decide), g3 7 (by decide)]; exact T2.2.2.1.2.2.1
    · rw [g5 8 (by decide), f4.2.1 8 (by decide), g3 8 (by decide)]; exact T2.2.2.1.2.2.2.1
    · rw [g5 64 (by decide), f4.2.1 64 (by decide), g3 64 (by decide)]; exact T2.2.2.2.1.people
    · rw [g5 65 (by decide), f4.2.1 65 (by decide), g3 65 (by decide)]; exact T2.2.2.2.1.partner
  · rw [b01_f c]
    refine (nT rfl).mpr ?_
    show p_MO_night (K2 _) _ _
    unfold p_MO_night
    rw [MO_isMany_iff, b01_f c]
    exact (nT rfl).mpr ⟨rfl, I0⟩
def riseTo (x v : Int32) : Int32 := if v + x < 9 then v + x else 9
def dawnS (x : Int32) (hi : Nat → Int32) : Nat → Nat → Int32 → Int32
  | 0, _, a => a
  | c + 1, k, a => dawnS x hi c (k + 1) (a + (riseTo x (hi k) - hi k))
theorem riseTo_in {x v : Int32} (hx : 0 ≤ x.toInt ∧ x.toInt ≤ 9) (hv : 0 ≤ v.toInt ∧ v.toInt ≤ 9) : (v + x).toInt = v.toInt + x.toInt ∧ 0 ≤ (riseTo x v).toInt ∧ (riseTo x v).toInt ≤ 9 := by
  have e := add_in (A := 9) (B := 9) hv hx (by decide)
  have e9 : (9 : Int32).toInt = 9 := by decide
  refine ⟨e, ?_⟩
  unfold riseTo
  by_cases c : v + x < 9
  · rw [if_pos c]; rw [Int32.lt_iff_toInt_lt, e, e9] at c; omega
  · rw [if_neg c]; omega
theorem UF_dawn_loop {N : Nat} {x : Int32} {hi : Nat → Int32} {Q : Int32 → AH → Prop} {h0 : AH} (n7 : N ≤ 7) (hN : h0.1 5 3 = nI N) (M : rowR N (h0.1 6) hi) : ∀ (cnt k : Nat) (a : Int32) (h : AH), k + cnt = N → frm [6] h0 h → (∀ j, j < N → h.1 6 (nI j) = if j < k then riseTo x (hi j) else hi j) → (∀ h', frm [6] h0 h' → rowR N (h'.1 6) (fun j => riseTo x (hi j)) → Q (dawnS x hi cnt k a) h') → p_UF_dawn_17 Q (cnt + 1) x a (nI k) h := by
  intro cnt
  induction cnt with
  | zero =>
    intro k a h hk f R HQ
    have hk' : k = N := by omega
    subst hk'
    simp only [p_UF_dawn_17]
    rw [show h.1 5 3 = nI k by rw [f.2 5 (by decide)]; exact hN, pT (Int32.le_refl _)]
    exact HQ h f (fun j hj => by rw [R j hj, if_pos hj])
  | succ cnt ih =>
    intro k a h hk f R HQ
    obtain ⟨n', hn'⟩ : ∃ n', n' = cnt + 1 := ⟨_, rfl⟩
    rw [← hn']
    rw [← hn'] at ih
    have ek : h.1 6 (nI k) = hi k := by rw [R k (by omega), if_neg (Nat.lt_irrefl k)]
    have ik : inb (nI k) 7 := inb_nI (by omega) (by omega)
    simp only [p_UF_dawn_17]
    rw [show h.1 5 3 = nI N by rw [f.2 5 (by decide)]; exact hN, pF (fun z => by have := (nI_leN (by omega) (by omega)).mp z; omega), ek, nI_1]
    refine ⟨ik, ?_⟩
    have go : ∀ v, riseTo x (hi k) = v → inb (nI k) 7 ∧ p_UF_dawn_17 Q n' x (a + (v - h.1 6 (nI k))) (nI (k + 1)) (wI h 6 (nI k) (h.1 6 (nI k) + (v - h.1 6 (nI k)))) := fun v hv => by
      rw [ek]
      refine ⟨ik, ih (k + 1) _ _ (by omega) (frm_w f (by decide)) (fun j hj => ?_) (fun h' f' R' => ?_)⟩
      · rw [wI_r, if_pos rfl, up_a]
        by_cases e : j = k
        · subst e; rw [if_pos rfl, if_pos (by omega), hv, Int32.add_comm, Int32.sub_add_cancel]
        · rw [if_neg (fun z => e ((nI_inj (by omega) (by omega)).mp z)), R j hj]
          by_cases e2 : j < k
          · rw [if_pos e2, if_pos (by omega)]
          · rw [if_neg e2, if_neg (by omega)]
      · have H := HQ h' f' R'
        unfold dawnS at H
        rwa [hv] at H
    unfold p_Math_min
    by_cases c : hi k + x < 9
    · rw [pT c]; exact go _ (if_pos c)
    · rw [pF c]; exact go _ (if_neg c)
theorem MO_dawn_loop {N : Nat} {x : Int32} {hi : Nat → Int32} {Q : Int32 → AH → Prop} {h0 : AH} (n7 : N ≤ 7) (hx : 0 ≤ x.toInt ∧ x.toInt ≤ 9) (hr : ∀ k, k < N → 0 ≤ (hi k).toInt ∧ (hi k).toInt ≤ 9) (hN : h0.1 59 0 = nI N) (M : rowR N (h0.1 63) hi) : ∀ (cnt k : Nat) (a : Int32) (h : AH), k + cnt = N → frm [63] h0 h → (∀ j, j < N → h.1 63 (nI j) = if j < k then riseTo x (hi j) else hi j) → (∀ h', frm [63] h0 h' → rowR N (h'.1 63) (fun j => riseTo x (hi j)) → Q (dawnS x hi cnt k a) h') → p_MO_dawn_17 Q (cnt + 1) x a (nI k) h := by
  intro cnt
  induction cnt with
  | zero =>
    intro k a h hk f R HQ
    have hk' : k = N := by omega
    subst hk'
    simp only [p_MO_dawn_17]
    rw [show h.1 59 0 = nI k by rw [f.2 59 (by decide)]; exact hN, pT (Int32.le_refl _)]
    exact HQ h f (fun j hj => by rw [R j hj, if_pos hj])
  | succ cnt ih =>
    intro k a h hk f R HQ
    obtain ⟨n', hn'⟩ : ∃ n', n' = cnt + 1 := ⟨_, rfl⟩
    rw [← hn']
    rw [← hn'] at ih
    have ek : h.1 63 (nI k) = hi k := by rw [R k (by omega), if_neg (Nat.lt_irrefl k)]
    have ik : inb (nI k) 7 := inb_nI (by omega) (by omega)
    simp only [p_MO_dawn_17]
    rw [show h.1 59 0 = nI N by rw [f.2 59 (by decide)]; exact hN, pF (fun z => by have := (nI_leN (by omega) (by omega)).mp z; omega), ek, nI_1]
    refine ⟨ik, ?_⟩
    have e9 : (9 : Int32).toInt = 9 := by decide
    have hrk := hr k (by omega)
    obtain ⟨ea, ri⟩ := riseTo_in hx hrk
    have cl : clip 9 (hi k + x) = riseTo x (hi k) := by
      unfold clip riseTo
      rw [if_neg (fun z => by rw [Int32.lt_iff_toInt_lt, ea, Int32.toInt_zero] at z; omega)]
      by_cases c : hi k + x < 9
      · rw [if_pos c, if_neg (fun z => by rw [Int32.lt_iff_toInt_lt] at z c; omega)]
      · rw [if_neg c]
        by_cases c2 : 9 < hi k + x
        · rw [if_pos c2]
        · rw [if_neg c2]; exact Int32.toInt_inj.mp (by rw [Int32.lt_iff_toInt_lt] at c c2; omega)
    rw [within_iff, cl, ek]
    refine ⟨ik, ih (k + 1) _ _ (by omega) (frm_w f (by decide)) (fun j hj => ?_) (fun h' f' R' => HQ h' f' R')⟩
    rw [wI_r, if_pos rfl, up_a]
    by_cases e : j = k
    · subst e; rw [if_pos rfl, if_pos (by omega)]
    · rw [if_neg (fun z => e ((nI_inj (by omega) (by omega)).mp z)), R j hj]
      by_cases e2 : j < k
      · rw [if_pos e2, if_pos (by omega)]
      · rw [if_neg e2, if_neg (by omega)]
theorem both_dawn {x : Int32} {h : AH} (I : Inv h) : p_UF_dawn (fun r1 h1 => p_MO_dawn (K2 r1) x h1) x h := by
  have I0 := I
  obtain ⟨E, hi, tN, r, C, IB⟩ := I
  have T : Tn E hi h := ⟨IB.1, IB.2.2.1, IB.2.2.2.1, IB.2.2.2.2.1⟩
  have n7 := T.1.n7
  unfold p_UF_dawn
  rw [UF_within_iff]
  by_cases c : 0 ≤ x ∧ x ≤ 9
  · rw [b01_t c]
    refine (nF (by decide)).mpr ?_
    have hx := rg (n := 9) (by decide) c
    have hr : ∀ k, k < E.N → 0 ≤ (hi k).toInt ∧ (hi k).toInt ≤ 9 := fun k hk => (T.2.1 k hk).1
    refine ⟨E.N + 1, UF_dawn_loop n7 T.2.2.1.1 T.2.2.1.2.1 E.N 0 0 h (by omega) frm_rf (fun j hj => by rw [if_neg (by omega)]; exact T.2.2.1.2.1 j hj) (fun h3 f3 R3 => ?_)⟩
    have g3 : ∀ b, ¬ b = 6 → h3.1 b = h.1 b := fun b hb => f3.2 b (by simpa using hb)
    show p_MO_dawn (K2 _) _ _
    unfold p_MO_dawn
    rw [MO_in_iff, b01_t c]
    have m63 : rowR E.N (h3.1 63) hi := by rw [g3 63 (by decide)]; exact T.2.2.2.2
    refine (nF (by decide)).mpr ⟨E.N + 1, MO_dawn_loop n7 hx hr (by rw [g3 59 (by decide)]; exact T.2.2.2.1.n) m63 E.N 0 0 h3 (by omega) frm_rf (fun j hj => by rw [if_neg (by omega)]; exact m63 j hj) (fun h5 f5 R5 => ⟨rfl, ?_⟩)⟩
    have g5 : ∀ b, ¬ b = 63 → h5.1 b = h3.1 b := fun b hb => f5.2 b (by simpa using hb)
    refine Inv_town (hi' := fun j => riseTo x (hi j)) (pe' := E.people) (pa' := E.partner) IB (frT_tr (frT_frm f3 (by decide)) (frT_frm f5 (by decide))) (fun k hk => ⟨(riseTo_in hx (hr k hk)).2, (T.2.1 k hk).2⟩) ?_ ?_ ?_ R5 ?_ ?_
    · rw [g5 6 (by decide)]; exact R3
    · rw [g5 7 (by decide), g3 7 (by decide)]; exact T.2.2.1.2.2.1
    · rw [g5 8 (by decide), g3 8 (by decide)]; exact T.2.2.1.2.2.2.1
    · rw [g5 64 (by decide), g3 64 (by decide)]; exact T.2.2.2.1.people
    · rw [g5 65 (by decide), g3 65 (by decide)]; exact T.2.2.2.1.partner
  · rw [b01_f c]
    refine (nT rfl).mpr ?_
    show p_MO_dawn (K2 _) _ _
    unfold p_MO_dawn
    rw [MO_in_iff, b01_f c]
    exact (nT rfl).mpr ⟨rfl, I0⟩
