/-! pure: bring, weight, first: both sides together -/
theorem both_bring {x1 x2 : Int32} {h : AH} (I : Inv h) : p_UF_bring (fun r1 h1 => p_MO_bring (K2 r1) x1 x2 h1) x1 x2 h := by
  obtain ⟨E, hi, T⟩ := Tn_of I
  have n7 := T.1.n7
  unfold p_UF_bring
  rw [UF_isHouse_iff]
  by_cases c1 : 0 ≤ x1 ∧ x1 ≤ h.1 5 3 - 1
  · rw [b01_t c1]
    refine (nF (by decide)).mpr ?_
    rw [UF_isSpan_iff]
    by_cases c2 : 0 ≤ x2 ∧ x2 ≤ 24
    · rw [b01_t c2]
      refine (nF (by decide)).mpr ?_
      obtain ⟨n, hn, rfl⟩ := spanN.mp c2
      obtain ⟨k, hk, rfl⟩ := (houseC T).mp c1
      refine ⟨22, UF_bring_loop T hk hn 21 0 h (by omega) frR_rf (fun h1 f1 => ?_)⟩
      have T1' := Tn_I (frI_R f1) T
      show p_MO_bring (K2 _) _ _ _
      unfold p_MO_bring
      rw [MO_isHouse_iff, b01_t ((houseM T1').mpr ⟨k, hk, rfl⟩)]
      refine (nF (by decide)).mpr ?_
      rw [MO_isMany_iff, b01_t c2]
      refine (nF (by decide)).mpr ⟨inb_nI (by omega) (by omega), 22, ?_⟩
      rw [T1'.2.2.2.1.people k hk]
      refine MO_bring_loop T.1 T1'.2.2.2 hk hn 21 0 h1 (by omega) ⟨h1.1 64 (nI k), ?_⟩ (fun h2 f2 => ⟨rfl, Inv_I (frI_tr (frI_R f1) (frI_V f2)) I⟩)
      refine ⟨rfl, fun b hb => ?_, fun j hj => rfl⟩
      rw [wI_r]
      by_cases e : b = 64
      · subst e; rw [if_pos rfl, up_id rfl]
      · rw [if_neg e]
    · rw [b01_f c2]
      refine (nT rfl).mpr ?_
      show p_MO_bring (K2 _) _ _ _
      unfold p_MO_bring
      rw [MO_isHouse_iff, b01_t ((houseM T).mpr ((houseC T).mp c1))]
      refine (nF (by decide)).mpr ?_
      rw [MO_isMany_iff, b01_f c2]
      exact (nT rfl).mpr ⟨rfl, I⟩
  · rw [b01_f c1]
    refine (nT rfl).mpr ?_
    show p_MO_bring (K2 _) _ _ _
    unfold p_MO_bring
    rw [MO_isHouse_iff, b01_f (fun z => c1 ((houseC T).mpr ((houseM T).mp z)))]
    exact (nT rfl).mpr ⟨rfl, I⟩
/-- the best so far, and which it is -/
def bestL (v : Nat → Int32) (code : Nat → Int32) : Nat → Nat → Int32 → Int32 → Int32 × Int32
  | 0, _, b, w => (b, w)
  | c + 1, k, b, w => if v k ≤ b then bestL v code c (k + 1) b w else bestL v code c (k + 1) (v k) (code k)
def weightV (E : EV) (hi : Nat → Int32) (n : Nat) (x : Int32) (k : Nat) : Int32 := downF E.N (goD (moreE E k x) hi n).hi
theorem UF_weight_loop {E : EV} {hi : Nat → Int32} {n : Nat} {x what : Int32} {Q : Int32 → AH → Prop} {h0 : AH} (T0 : Tn E hi h0) (hn : n ≤ 24) : ∀ (cnt k : Nat) (b w : Int32) (h : AH), k + cnt = E.N → frR h0 h → (∀ h', frR h0 h' → Q (if what = 0 then (bestL (weightV E hi n x) nI cnt k b w).2 else (bestL (weightV E hi n x) nI cnt k b w).1) h') → p_UF_weight_38 Q (cnt + 1) x (nI n) what b w (nI k) h := by
  intro cnt
  have n7 := T0.1.n7
  induction cnt with
  | zero =>
    intro k b w h hk f HQ
    have hk' : k = E.N := by omega
    subst hk'
    have T := Tn_I (frI_R f) T0
    simp only [p_UF_weight_38]
    rw [T.2.2.1.1, pT (Int32.le_refl _)]
    have H := HQ h f
    by_cases c : what = 0
    · rw [nT c]; rwa [if_pos c] at H
    · rw [nF c]; rwa [if_neg c] at H
  | succ cnt ih =>
    intro k b w h hk f HQ
    have kN : k < E.N := by omega
    obtain ⟨n', hn'⟩ : ∃ n', n' = cnt + 1 := ⟨_, rfl⟩
    rw [← hn']
    rw [← hn'] at ih
    have T := Tn_I (frI_R f) T0
    simp only [p_UF_weight_38]
    rw [T.2.2.1.1, pF (fun z => by have := (nI_leN (by omega) (by omega)).mp z; omega)]
    refine UF_ready_spec T.1 T.2.2.1 (fun h1 f1 R1 M1 => ⟨inb_nI (by omega) (by omega), ?_⟩)
    rw [R1.people k kN]
    have M1' : CD E.N (bornF hi) (wI h1 16 (nI k) (E.people k + x)) := M1
    refine UF_downs_spec (E := moreE E k x) T.1 hn (R1.addP (x := E.people k + x) n7 kN) M1' T.hiOk (fun h3 f3 => ?_)
    have f03 : frR h0 h3 := frR_tr f (frR_tr (frR_w f1 (by decide)) f3)
    by_cases c : weightV E hi n x k ≤ b
    · refine (pT c).mpr ?_
      unfold p_UF_weight_106
      rw [nI_1]
      refine ih (k + 1) b w h3 (by omega) f03 (fun h' f' => ?_)
      have H := HQ h' f'
      unfold bestL at H
      rwa [if_pos c] at H
    · refine (pF c).mpr ?_
      unfold p_UF_weight_106
      rw [nI_1]
      refine ih (k + 1) _ _ h3 (by omega) f03 (fun h' f' => ?_)
      have H := HQ h' f'
      unfold bestL at H
      rwa [if_neg c] at H
theorem MO_weight_loop {E : EV} {hi : Nat → Int32} {n : Nat} {x what : Int32} {Q : Int32 → AH → Prop} {h0 : AH} (e : E.ok) (R0 : MTn E hi h0) (hn : n ≤ 24) : ∀ (cnt k : Nat) (b w : Int32) (h : AH), k + cnt = E.N → frV h0 h → (∀ h', frV h0 h' → Q (if what = 0 then (bestL (weightV E hi n x) nI cnt k b w).2 else (bestL (weightV E hi n x) nI cnt k b w).1) h') → p_MO_weight_38 Q (cnt + 1) x (nI n) what w b (nI k) h := by
  intro cnt
  have n7 := e.n7
  induction cnt with
  | zero =>
    intro k b w h hk f HQ
    have hk' : k = E.N := by omega
    subst hk'
    have R : MTn E hi h := MTn_I (frI_V f) R0
    simp only [p_MO_weight_38]
    rw [R.1.n, pT (Int32.le_refl _)]
    have H := HQ h f
    by_cases c : what = 0
    · rw [nT c]; rwa [if_pos c] at H
    · rw [nF c]; rwa [if_neg c] at H
  | succ cnt ih =>
    intro k b w h hk f HQ
    have kN : k < E.N := by omega
    obtain ⟨n', hn'⟩ : ∃ n', n' = cnt + 1 := ⟨_, rfl⟩
    rw [← hn']
    rw [← hn'] at ih
    have R : MTn E hi h := MTn_I (frI_V f) R0
    have ik : inb (nI k) 7 := inb_nI (by omega) (by omega)
    simp only [p_MO_weight_38]
    rw [R.1.n, pF (fun z => by have := (nI_leN (by omega) (by omega)).mp z; omega)]
    refine ⟨ik, ?_⟩
    rw [R.1.people k kN]
    have R2 : MTn (moreE E k x) hi (wI h 64 (nI k) (E.people k + x)) := ⟨R.1.addP n7 kN, R.2⟩
    refine MO_downs_spec (E := moreE E k x) e hn R2 (fun h2 f2 => ⟨ik, ?_⟩)
    have e2 : h2.1 64 (nI k) - x = h.1 64 (nI k) := by
      rw [f2.2.1 64 (by decide), wI_r, if_pos rfl, up_s, Int32.add_sub_cancel, R.1.people k kN]
    have f3 : frV h0 (wI h2 64 (nI k) (h2.1 64 (nI k) - x)) := frV_tr f (frV_back f2 (by decide) e2)
    by_cases c : weightV E hi n x k ≤ b
    · refine (pT c).mpr ?_
      unfold p_MO_weight_90
      refine (pT c).mpr ?_
      unfold p_MO_weight_106
      rw [nI_1]
      refine ih (k + 1) b w _ (by omega) f3 (fun h' f' => ?_)
      have H := HQ h' f'
      unfold bestL at H
      rwa [if_pos c] at H
    · refine (pF c).mpr ?_
      unfold p_MO_weight_90
      refine (pF c).mpr ?_
      unfold p_MO_weight_106
      rw [nI_1]
      refine ih (k + 1) _ _ _ (by omega) f3 (fun h' f' => ?_)
      have H := HQ h' f'
      unfold bestL at H
      rwa [if_neg c] at H
theorem both_weight {x1 x2 x3 : Int32} {h : AH} (I : Inv h) : p_UF_weight (fun r1 h1 => p_MO_weight (K2 r1) x1 x2 x3 h1) x1 x2 x3 h := by
  obtain ⟨E, hi, T⟩ := Tn_of I
  unfold p_UF_weight
  rw [UF_within_iff]
  by_cases c1 : 0 ≤ x1 ∧ x1 ≤ 20
  · rw [b01_t c1]
    refine (pF (by decide)).mpr ?_
    rw [UF_isSpan_iff]
    by_cases c2 : 0 ≤ x2 ∧ x2 ≤ 24
    · rw [b01_t c2]
      refine (pF (by decide)).mpr ?_
      rw [UF_within_iff]
      by_cases c3 : 0 ≤ x3 ∧ x3 ≤ 1
      · rw [b01_t c3]
        refine (nF (by decide)).mpr ?_
        obtain ⟨n, hn, rfl⟩ := spanN.mp c2
        refine ⟨E.N + 1, UF_weight_loop T hn E.N 0 (-1) (-1) h (by omega) frR_rf (fun h1 f1 => ?_)⟩
        have T1' := Tn_I (frI_R f1) T
        show p_MO_weight (K2 _) _ _ _ _
        unfold p_MO_weight
        rw [MO_in_iff, b01_t c1]
        refine (pF (by decide)).mpr ?_
        rw [MO_isMany_iff, b01_t c2]
        refine (pF (by decide)).mpr ?_
        rw [MO_in_iff, b01_t c3]
        refine (nF (by decide)).mpr ⟨E.N + 1, ?_⟩
        exact MO_weight_loop T.1 T1'.2.2.2 hn E.N 0 (-1) (-1) h1 (by omega) frV_rf (fun h2 f2 => ⟨rfl, Inv_I (frI_tr (frI_R f1) (frI_V f2)) I⟩)
      · rw [b01_f c3]
        refine (nT rfl).mpr ?_
        show p_MO_weight (K2 _) _ _ _ _
        unfold p_MO_weight
        rw [MO_in_iff, b01_t c1]
        refine (pF (by decide)).mpr ?_
        rw [MO_isMany_iff, b01_t c2]
        refine (pF (by decide)).mpr ?_
        rw [MO_in_iff, b01_f c3]
        exact (nT rfl).mpr ⟨rfl, I⟩
    · rw [b01_f c2]
      refine (pT rfl).mpr ?_
      show p_MO_weight (K2 _) _ _ _ _
      unfold p_MO_weight
      rw [MO_in_iff, b01_t c1]
      refine (pF (by decide)).mpr ?_
      rw [MO_isMany_iff, b01_f c2]
      exact (pT rfl).mpr ⟨rfl, I⟩
  · rw [b01_f c1]
    refine (pT rfl).mpr ?_
    show p_MO_weight (K2 _) _ _ _ _
    unfold p_MO_weight
    rw [MO_in_iff, b01_f c1]
    exact (pT rfl).mpr ⟨rfl, I⟩
