/-! pure: hang -/
def hgW (E : EV) (hi : Nat → Int32) (k w v : Nat) : Int32 := whenN E (bornF (upN hi w (nI v))) k 25 0
def hgR (W : Nat → Int32) (S : Nat → Prop) (b g : Int32) : Prop := (g = -1 ∧ b = -1 ∧ ∀ i, S i → W i = -1) ∨ ∃ j, S j ∧ j < 10 ∧ g = nI j ∧ b = W j ∧ ¬ W j = -1 ∧ ∀ i, S i → ¬ W i = -1 → W j ≤ W i ∧ (W i ≤ W j → i ≤ j)
theorem hgR_uniq {W : Nat → Int32} {S : Nat → Prop} {b g b' g' : Int32} (A : hgR W S b g) (B : hgR W S b' g') : b = b' ∧ g = g' := by
  rcases A with ⟨a1, a2, a3⟩ | ⟨j, s1, _, a1, a2, a3, a4⟩
  · rcases B with ⟨b1, b2, b3⟩ | ⟨j, s1, _, b1, b2, b3, b4⟩
    · exact ⟨a2.trans b2.symm, a1.trans b1.symm⟩
    · exact absurd (a3 j s1) b3
  · rcases B with ⟨b1, b2, b3⟩ | ⟨i, s2, _, b1, b2, b3, b4⟩
    · exact absurd (b3 j s1) a3
    · have p := a4 i s2 b3
      have q := b4 j s1 a3
      have e : j = i := Nat.le_antisymm (q.2 p.1) (p.2 q.1)
      subst e
      exact ⟨a2.trans b2.symm, a1.trans b1.symm⟩
theorem hiOk_upN {N w v : Nat} {hi : Nat → Int32} (H : hiOk N (bornF hi)) (hv : v < 10) : hiOk N (bornF (upN hi w (nI v))) := fun j hj => by
  show 0 ≤ (upN hi w (nI v) j).toInt ∧ (upN hi w (nI v) j).toInt ≤ 9
  unfold upN
  by_cases e : j = w
  · rw [if_pos e, nI_toInt (by omega)]; omega
  · rw [if_neg e]; exact H j hj
theorem UF_hang_loop {E : EV} {hi : Nat → Int32} {k w : Nat} {what : Int32} {Q : Int32 → AH → Prop} {h0 : AH} (T0 : Tn E hi h0) (hk : k < E.N) (hw : w < E.N) : ∀ (cnt v : Nat) (b g : Int32) (h : AH), v + cnt = 10 → frR h0 h → hgR (hgW E hi k w) (fun i => i < v) b g → (∀ b g h', frR h0 h' → hgR (hgW E hi k w) (fun i => i < 10) b g → Q (if what = 0 then g else b) h') → p_UF_hang_40 Q (cnt + 1) (nI k) (nI w) what b g (nI v) h := by
  intro cnt
  have n7 := T0.1.n7
  induction cnt with
  | zero =>
    intro v b g h hv f R HQ
    have hv' : v = 10 := by omega
    subst hv'
    simp only [p_UF_hang_40]
    rw [pT (by decide)]
    have H := HQ b g h f R
    by_cases c : what = 0
    · rw [if_pos c] at H; exact (nT c).mpr H
    · rw [if_neg c] at H; exact (nF c).mpr H
  | succ cnt ih =>
    intro v b g h hv f R HQ
    obtain ⟨n', hn'⟩ : ∃ n', n' = cnt + 1 := ⟨_, rfl⟩
    rw [← hn']
    rw [← hn'] at ih
    have T := Tn_I (frI_R f) T0
    have c9 : ¬ (9 : Int32) < nI v := fun z => by have := (nI_ltI (a := 9) (by decide) (by omega)).mp z; omega
    simp only [p_UF_hang_40]
    rw [pF c9]
    refine UF_ready_spec T.1 T.2.2.1 (fun h1 f1 R1 M1 => ?_)
    have M2 : CD E.N (bornF (upN hi w (nI v))) (wI h1 15 (nI w) (nI v)) := M1.w15 n7 hw
    have R2 := R1.tr (S := [15]) (h' := wI h1 15 (nI w) (nI v)) (frm_w frm_rf (by decide)) (by decide)
    refine ⟨inb_nI (by omega) (by omega), ?_⟩
    refine Dusk_firstDown_spec T.1 hk (hiOk_upN T.hiOk (by omega)) R2 M2 (fun h2 f2 => ?_)
    have f02 : frR h0 h2 := frR_tr f (frR_tr f1 (frR_tr (frR_w frR_rf (by decide)) (frR_SC f2)))
    show (whenN E (bornF (upN hi w (nI v))) k 25 0 = -1 → _) ∧ _
    obtain ⟨x, hx⟩ : ∃ x, x = whenN E (bornF (upN hi w (nI v))) k 25 0 := ⟨_, rfl⟩
    rw [← hx]
    have hx' : hgW E hi k w v = x := hx.symm
    have yes : ¬ x = -1 → (g = -1 ∨ x ≤ b) → p_UF_hang_94 Q (p_UF_hang_40 Q n') (nI k) (nI w) what (nI v) x h2 := fun c1 c2 => by
      unfold p_UF_hang_94 p_UF_hang_102
      rw [nI_1]
      refine ih (v + 1) _ _ h2 (by omega) f02 (Or.inr ⟨v, Nat.lt_succ_self v, by omega, rfl, hx'.symm, by rw [hx']; exact c1, fun i hi' hw' => ⟨?_, fun _ => Nat.le_of_lt_succ hi'⟩⟩) HQ
      rw [hx']
      by_cases e : i = v
      · rw [e, hx']; exact Int32.le_refl _
      · have hi2 : i < v := Nat.lt_of_le_of_ne (Nat.le_of_lt_succ hi') e
        rcases R with ⟨a1, a2, a3⟩ | ⟨j, s1, s2, a1, a2, a3, a4⟩
        · exact absurd (a3 i hi2) hw'
        · rcases c2 with c2 | c2
          · rw [a1] at c2; exact absurd c2 (nI_ne1 (by omega))
          · rw [a2] at c2; exact Int32.le_trans c2 (a4 i hi2 hw').1
    have no : (x = -1 ∨ (¬ g = -1 ∧ b < x)) → p_UF_hang_102 Q (p_UF_hang_40 Q n') (nI k) (nI w) what b g (nI v) h2 := fun c => by
      unfold p_UF_hang_102
      rw [nI_1]
      refine ih (v + 1) _ _ h2 (by omega) f02 ?_ HQ
      rcases R with ⟨a1, a2, a3⟩ | ⟨j, s1, s2, a1, a2, a3, a4⟩
      · refine Or.inl ⟨a1, a2, fun i hi' => ?_⟩
        by_cases e : i = v
        · rw [e, hx']; exact c.resolve_right (fun z => z.1 a1)
        · exact a3 i (Nat.lt_of_le_of_ne (Nat.le_of_lt_succ hi') e)
      · refine Or.inr ⟨j, Nat.lt_succ_of_lt s1, s2, a1, a2, a3, fun i hi' hw' => ?_⟩
        by_cases e : i = v
        · rw [e, hx'] at hw' ⊢
          rcases c with c | c
          · exact absurd c hw'
          · have cb : hgW E hi k w j < x := by rw [← a2]; exact c.2
            exact ⟨Int32.le_of_lt cb, fun z => absurd z (Int32.not_le.mpr cb)⟩
        · exact a4 i (Nat.lt_of_le_of_ne (Nat.le_of_lt_succ hi') e) hw'
    by_cases c1 : x = -1
    · exact (pT c1).mpr (no (Or.inl c1))
    · refine (pF c1).mpr ?_
      by_cases c2 : g = -1
      · exact (pT c2).mpr (yes c1 (Or.inl c2))
      · refine (pF c2).mpr ?_
        by_cases c3 : b < x
        · exact (pT c3).mpr (no (Or.inr ⟨c2, c3⟩))
        · exact (pF c3).mpr (yes c1 (Or.inr (Int32.not_lt.mp c3)))
theorem MO_hang_loop {E : EV} {hi : Nat → Int32} {k w : Nat} {what : Int32} {Q : Int32 → AH → Prop} {h0 : AH} (e : E.ok) (R0 : MTn E hi h0) (hk : k < E.N) (hw : w < E.N) : ∀ (cnt : Nat) (b g x : Int32) (h : AH), cnt ≤ 10 → frV (wI h0 63 (nI w) x) h → hgR (hgW E hi k w) (fun i => cnt ≤ i ∧ i < 10) b g → (∀ b g h', frV h0 h' → hgR (hgW E hi k w) (fun i => i < 10) b g → Q (if what = 0 then g else b) h') → p_MO_hang_49 Q (cnt + 1) (nI k) (nI w) what (h0.1 63 (nI w)) g b (nI cnt - 1) h := by
  intro cnt
  have n7 := e.n7
  have h63 : 63 ∉ (59 :: SM) := by decide
  induction cnt with
  | zero =>
    intro b g x h hc f R HQ
    simp only [p_MO_hang_49]
    rw [pT (by decide)]
    refine ⟨inb_nI (by omega) (by omega), ?_⟩
    have f' : frV h0 (wI h 63 (nI w) (h0.1 63 (nI w))) := frV_back f h63 rfl
    have R' : hgR (hgW E hi k w) (fun i => i < 10) b g := by
      rcases R with ⟨a1, a2, a3⟩ | ⟨j, s1, s2, a1, a2, a3, a4⟩
      · exact Or.inl ⟨a1, a2, fun i hi' => a3 i ⟨Nat.zero_le _, hi'⟩⟩
      · exact Or.inr ⟨j, s1.2, s2, a1, a2, a3, fun i hi' => a4 i ⟨Nat.zero_le _, hi'⟩⟩
    have H := HQ b g _ f' R'
    by_cases c : what = 0
    · rw [if_pos c] at H; exact (nT c).mpr H
    · rw [if_neg c] at H; exact (nF c).mpr H
  | succ cnt ih =>
    intro b g x0 h hc f R HQ
    obtain ⟨n', hn'⟩ : ∃ n', n' = cnt + 1 := ⟨_, rfl⟩
    rw [← hn', hn', nI_sub1]
    rw [← hn'] at ih
    rw [← hn']
    have c0 : ¬ nI cnt < 0 := fun z => by rw [Int32.lt_iff_toInt_lt, nI_toInt (by omega), Int32.toInt_zero] at z; omega
    simp only [p_MO_hang_49]
    rw [pF c0]
    refine ⟨inb_nI (by omega) (by omega), ?_⟩
    have f1 : frV (wI h0 63 (nI w) (nI cnt)) (wI h 63 (nI w) (nI cnt)) := frV_re f h63
    have R1 : MRep E (wI h0 63 (nI w) (nI cnt)) := ⟨R0.1.n, R0.1.kind, R0.1.told, R0.1.more, R0.1.people, R0.1.partner, R0.1.text⟩
    have R2 : MRep E (wI h 63 (nI w) (nI cnt)) := R1.tr (keepM_frV f1)
    have R3 : rowR E.N ((wI h 63 (nI w) (nI cnt)).1 63) (upN hi w (nI cnt)) := by
      rw [f1.2.1 63 h63]
      show rowR E.N (up (h0.1 63) (nI w) (nI cnt)) _
      exact rowR_up (by omega) hw R0.2
    refine MO_whenOf_spec e hk R2 R3 (fun h2 f2 => ?_)
    have f02 : frV (wI h0 63 (nI w) (nI cnt)) h2 := frV_tr f1 f2
    show (whenN E (bornF (upN hi w (nI cnt))) k 25 0 = -1 → _) ∧ _
    obtain ⟨x, hx⟩ : ∃ x, x = whenN E (bornF (upN hi w (nI cnt))) k 25 0 := ⟨_, rfl⟩
    rw [← hx]
    have hx' : hgW E hi k w cnt = x := hx.symm
    have em : nI cnt + (-1) = nI cnt - 1 := (Int32.sub_eq_add_neg _ _).symm
    have yes : ¬ x = -1 → (b = -1 ∨ x < b) → p_MO_hang_88 Q (p_MO_hang_49 Q n') (nI k) (nI w) what (h0.1 63 (nI w)) g b (nI cnt) x h2 := fun c1 c2 => by
      unfold p_MO_hang_88 p_MO_hang_93 p_MO_hang_107 p_MO_hang_121
      refine (pF (by decide)).mpr ((pF (by decide)).mpr ?_)
      rw [em]
      refine ih _ _ _ h2 (by omega) f02 (Or.inr ⟨cnt, ⟨Nat.le_refl _, by omega⟩, by omega, rfl, hx'.symm, by rw [hx']; exact c1, fun i hi' hw' => ?_⟩) HQ
      rw [hx']
      by_cases e2 : i = cnt
      · rw [e2, hx']; exact ⟨Int32.le_refl _, fun _ => Nat.le_refl _⟩
      · have hi2 : cnt + 1 ≤ i ∧ i < 10 := ⟨by omega, hi'.2⟩
        rcases R with ⟨a1, a2, a3⟩ | ⟨j, s1, s2, a1, a2, a3, a4⟩
        · exact absurd (a3 i hi2) hw'
        · rcases c2 with c2 | c2
          · rw [a2] at c2; exact absurd c2 a3
          · rw [a2] at c2
            have lt := Int32.lt_of_lt_of_le c2 (a4 i hi2 hw').1
            exact ⟨Int32.le_of_lt lt, fun z => absurd z (Int32.not_le.mpr lt)⟩
    have no : (x = -1 ∨ (¬ b = -1 ∧ b ≤ x)) → p_MO_hang_92 Q (p_MO_hang_49 Q n') (nI k) (nI w) what (h0.1 63 (nI w)) g b (nI cnt) x h2 := fun c => by
      unfold p_MO_hang_92 p_MO_hang_93 p_MO_hang_107 p_MO_hang_121
      refine (pT rfl).mpr ((pT rfl).mpr ?_)
      rw [em]
      refine ih _ _ _ h2 (by omega) f02 ?_ HQ
      rcases R with ⟨a1, a2, a3⟩ | ⟨j, s1, s2, a1, a2, a3, a4⟩
      · refine Or.inl ⟨a1, a2, fun i hi' => ?_⟩
        by_cases e2 : i = cnt
        · rw [e2, hx']; exact c.resolve_right (fun z => z.1 a2)
        · exact a3 i ⟨by omega, hi'.2⟩
      · refine Or.inr ⟨j, ⟨by omega, s1.2⟩, s2, a1, a2, a3, fun i hi' hw' => ?_⟩
        by_cases e2 : i = cnt
        · rw [e2, hx'] at hw' ⊢
          rcases c with c | c
          · exact absurd c hw'
          · rw [← a2]
            exact ⟨c.2, fun _ => by omega⟩
        · exact a4 i ⟨by omega, hi'.2⟩ hw'
    by_cases c1 : x = -1
    · exact (pT c1).mpr (no (Or.inl c1))
    · refine (pF c1).mpr ?_
      by_cases c2 : b = -1
      · exact (pT c2).mpr (yes c1 (Or.inl c2))
      · refine (pF c2).mpr ?_
        by_cases c3 : b ≤ x
        · exact (pT c3).mpr (no (Or.inr ⟨c2, c3⟩))
        · exact (pF c3).mpr (yes c1 (Or.inr (Int32.not_le.mp c3)))
theorem both_hang {x1 x2 x3 : Int32} {h : AH} (I : Inv h) : p_UF_hang (fun r1 h1 => p_MO_hang (K2 r1) x1 x2 x3 h1) x1 x2 x3 h := by
  obtain ⟨E, hi, T⟩ := Tn_of I
  unfold p_UF_hang
  rw [UF_isHouse_iff]
  by_cases c1 : 0 ≤ x1 ∧ x1 ≤ h.1 5 3 - 1
  · rw [b01_t c1]
    refine (pF (by decide)).mpr ?_
    rw [UF_isHouse_iff]
    obtain ⟨k, hk, rfl⟩ := (houseC T).mp c1
    by_cases c2 : 0 ≤ x2 ∧ x2 ≤ h.1 5 3 - 1
    · rw [b01_t c2]
      refine (nF (by decide)).mpr ?_
      rw [UF_within_iff]
      obtain ⟨w, hw, rfl⟩ := (houseC T).mp c2
      by_cases c3 : 0 ≤ x3 ∧ x3 ≤ 1
      · rw [b01_t c3]
        refine (nF (by decide)).mpr ⟨11, UF_hang_loop T hk hw 10 0 (-1) (-1) h rfl frR_rf (Or.inl ⟨rfl, rfl, fun i hi' => absurd hi' (Nat.not_lt_zero i)⟩) (fun b1 g1 h1 f1 A => ?_)⟩
        have T3 := Tn_I (frI_R f1) T
        show p_MO_hang (K2 _) _ _ _ _
        unfold p_MO_hang
        rw [MO_isHouse_iff, b01_t ((houseM T3).mpr ⟨k, hk, rfl⟩)]
        refine (pF (by decide)).mpr ?_
        rw [MO_isHouse_iff, b01_t ((houseM T3).mpr ⟨w, hw, rfl⟩)]
        refine (nF (by decide)).mpr ?_
        rw [MO_in_iff, b01_t c3]
        refine (nF (by decide)).mpr ⟨inb_nI (by have := T.1.n7; omega) (by have := T.1.n7; omega), 11, ?_⟩
        have f0 : frV (wI h1 63 (nI w) (h1.1 63 (nI w))) h1 := ⟨rfl, fun c hc => by
          rw [wI_r]
          by_cases e : c = 63
          · subst e; rw [if_pos rfl, up_id rfl]
          · rw [if_neg e], fun j hj => rfl⟩
        refine MO_hang_loop T.1 T3.2.2.2 hk hw 10 (-1) (-1) _ h1 (Nat.le_refl _) f0 (Or.inl ⟨rfl, rfl, fun i hi' => absurd hi'.2 (by omega)⟩) (fun b2 g2 h2 f2 B => ⟨?_, Inv_I (frI_tr (frI_R f1) (frI_V f2)) I⟩)
        obtain ⟨u1, u2⟩ := hgR_uniq A B
        rw [u1, u2]
      · rw [b01_f c3]
        refine (nT rfl).mpr ?_
        show p_MO_hang (K2 _) _ _ _ _
        unfold p_MO_hang
        rw [MO_isHouse_iff, b01_t ((houseM T).mpr ⟨k, hk, rfl⟩)]
        refine (pF (by decide)).mpr ?_
        rw [MO_isHouse_iff, b01_t ((houseM T).mpr ⟨w, hw, rfl⟩)]
        refine (nF (by decide)).mpr ?_
        rw [MO_in_iff, b01_f c3]
        exact (nT rfl).mpr ⟨rfl, I⟩
    · rw [b01_f c2]
      refine (nT rfl).mpr ?_
      show p_MO_hang (K2 _) _ _ _ _
      unfold p_MO_hang
      rw [MO_isHouse_iff, b01_t ((houseM T).mpr ⟨k, hk, rfl⟩)]
      refine (pF (by decide)).mpr ?_
      rw [MO_isHouse_iff, b01_f (fun z => c2 ((houseC T).mpr ((houseM T).mp z)))]
      exact (nT rfl).mpr ⟨rfl, I⟩
  · rw [b01_f c1]
    refine (pT rfl).mpr ?_
    show p_MO_hang (K2 _) _ _ _ _
    unfold p_MO_hang
    rw [MO_isHouse_iff, b01_f (fun z => c1 ((houseC T).mpr ((houseM T).mp z)))]
    exact (pT rfl).mpr ⟨rfl, I⟩
