/-! pure: a text's part, both sides -/
def mapC (c : Int32) : Int32 := if 100000 ≤ c then c - 100000 else if c < 11 then -1 - c else if c = 11 then -20 else if c = 12 then -21 else if c = 13 then -11 else if c = 14 then -22 else if c = 15 then -23 else if c = 16 then -24 else if c = 17 then -25 else if c = 18 then -26 else -10
def clip (m v : Int32) : Int32 := if v < 0 then 0 else if m < v then m else v
def mx (p : Nat) : Int32 := if p = 0 then 999 else 99
theorem lawT {t : Nat} (ht : t < 6) (h : AH) : vA T1 h (33 + 3 * t) ∧ (rS T1 h (33 + 3 * t)).1 = 6 ∧ rR T1 h (33 + 3 * t) 0 = 34 + 3 * t + 1 ∧ rR T1 h (33 + 3 * t) 1 = 35 + 3 * t + 1 ∧ vA T1 h (34 + 3 * t) ∧ rS T1 h (34 + 3 * t) = (100, 160) ∧ vA T1 h (35 + 3 * t) ∧ rS T1 h (35 + 3 * t) = (100, 4) := by
  have h6 : t = 0 ∨ t = 1 ∨ t = 2 ∨ t = 3 ∨ t = 4 ∨ t = 5 := by omega
  refine ⟨vA_s (show _ < 84 by omega), ?_, ?_, ?_, vA_s (show _ < 84 by omega), ?_, vA_s (show _ < 84 by omega), ?_⟩ <;> (rcases h6 with rfl | rfl | rfl | rfl | rfl | rfl <;> rfl)
theorem sml6 {c : Int32} (h0 : 0 ≤ c.toInt) (h6 : c.toInt < 6) : c = 0 ∨ c = 1 ∨ c = 2 ∨ c = 3 ∨ c = 4 ∨ c = 5 := by
  have e0 : (0 : Int32).toInt = 0 := by decide
  have e1 : (1 : Int32).toInt = 1 := by decide
  have e2 : (2 : Int32).toInt = 2 := by decide
  have e3 : (3 : Int32).toInt = 3 := by decide
  have e4 : (4 : Int32).toInt = 4 := by decide
  have e5 : (5 : Int32).toInt = 5 := by decide
  have : c.toInt = 0 ∨ c.toInt = 1 ∨ c.toInt = 2 ∨ c.toInt = 3 ∨ c.toInt = 4 ∨ c.toInt = 5 := by omega
  rcases this with z | z | z | z | z | z
  · exact Or.inl (Int32.toInt_inj.mp (z.trans e0.symm))
  · exact Or.inr (Or.inl (Int32.toInt_inj.mp (z.trans e1.symm)))
  · exact Or.inr (Or.inr (Or.inl (Int32.toInt_inj.mp (z.trans e2.symm))))
  · exact Or.inr (Or.inr (Or.inr (Or.inl (Int32.toInt_inj.mp (z.trans e3.symm)))))
  · exact Or.inr (Or.inr (Or.inr (Or.inr (Or.inl (Int32.toInt_inj.mp (z.trans e4.symm))))))
  · exact Or.inr (Or.inr (Or.inr (Or.inr (Or.inr (Int32.toInt_inj.mp (z.trans e5.symm))))))
theorem mapC_big {c : Int32} (g1 : 100000 ≤ c.toInt) (g2 : c.toInt ≤ 109999) : mapC c = c - 100000 ∧ ¬ mapC c < -6 ∧ ¬ mapC c < 0 := by
  have e : mapC c = c - 100000 := if_pos (pushC_big g1)
  have e2 : (c - 100000).toInt = c.toInt - 100000 := by
    rw [Int32.toInt_sub]
    have : (100000 : Int32).toInt = 100000 := by decide
    rw [this]
    exact Int.bmod_eq_of_le (by omega) (by omega)
  have e6 : (-6 : Int32).toInt = -6 := by decide
  have e0 : (0 : Int32).toInt = 0 := by decide
  rw [e]
  exact ⟨rfl, fun z => by rw [Int32.lt_iff_toInt_lt] at z; omega, fun z => by rw [Int32.lt_iff_toInt_lt] at z; omega⟩
theorem mapC_sml {c : Int32} (g1 : 0 ≤ c.toInt) (g2 : c.toInt < 6) : ¬ mapC c < -6 ∧ mapC c < 0 ∧ -1 - mapC c = c := by
  rcases sml6 g1 g2 with rfl | rfl | rfl | rfl | rfl | rfl <;> decide
theorem joined_iff {Q : Int32 → AH → Prop} {c a b : Int32} {h : AH} (hc : binC c) : p_Law_joined Q (mapC c) a b h ↔ Q (two c a b) h := by
  unfold p_Law_joined two
  rcases hc with rfl | rfl | rfl | rfl | rfl | rfl | rfl
  · rw [show mapC 11 = -20 from rfl]
    by_cases h1 : a = 0 <;> by_cases h2 : b = 0 <;> simp [h1, h2, b01]
  · rw [show mapC 12 = -21 from rfl]
    by_cases h1 : a = 0 <;> by_cases h2 : b = 0 <;> simp [h1, h2, b01]
  · rw [show mapC 14 = -22 from rfl]
    by_cases h1 : b ≤ a
    · have : ¬ a < b := Int32.not_lt.mpr h1
      simp [h1, this, b01]
    · have : a < b := Int32.not_le.mp h1
      simp [h1, this, b01]
  · rw [show mapC 15 = -23 from rfl]
    by_cases h1 : a = b <;> simp [h1, b01]
  · rw [show mapC 16 = -24 from rfl]; simp
  · rw [show mapC 17 = -25 from rfl]; simp
  · rw [show mapC 18 = -26 from rfl]; simp
theorem clip_iff {Q : Int32 → AH → Prop} {m v : Int32} {h : AH} (hm : 0 ≤ m) : p_Math_min (fun r5 h4 => p_Math_max (fun r7 h6 => Q r7 h6) 0 r5 h4) m v h ↔ Q (clip m v) h := by
  have hm0 : 0 ≤ m.toInt := by have := Int32.le_iff_toInt_le.mp hm; rwa [Int32.toInt_zero] at this
  unfold p_Math_min clip
  by_cases h1 : v < m
  · have h2 : ¬ m < v := fun z => by rw [Int32.lt_iff_toInt_lt] at z h1; omega
    simp only [h1, h2, forall_const, not_true_eq_false, false_implies, and_true, if_false]
    unfold p_Math_max
    by_cases h3 : 0 < v
    · have h4 : ¬ v < 0 := fun z => by rw [Int32.lt_iff_toInt_lt] at z h3; omega
      simp [h3, h4]
    · by_cases h4 : v < 0
      · simp [h3, h4]
      · have : v = 0 := Int32.toInt_inj.mp (by rw [Int32.lt_iff_toInt_lt] at h3 h4; rw [Int32.toInt_zero] at *; omega)
        simp [this]
  · simp only [h1, not_false_eq_true, forall_const, false_implies, true_and]
    unfold p_Math_max
    have h4 : ¬ v < 0 := fun z => by rw [Int32.lt_iff_toInt_lt] at z h1; rw [Int32.toInt_zero] at z; omega
    have e : (if m < v then m else v) = m := by
      by_cases h2 : m < v
      · exact if_pos h2
      · rw [if_neg h2]; exact Int32.toInt_inj.mp (by rw [Int32.lt_iff_toInt_lt] at h1 h2; omega)
    rw [if_neg h4, e]
    by_cases h3 : 0 < m
    · simp [h3]
    · have : m = 0 := Int32.toInt_inj.mp (by rw [Int32.lt_iff_toInt_lt] at h3; rw [Int32.toInt_zero] at *; omega)
      simp [this]
theorem pT {c A B : Prop} (h : c) : ((c → A) ∧ (¬ c → B)) ↔ A := ⟨fun z => z.1 h, fun a => ⟨fun _ => a, fun z => absurd h z⟩⟩
theorem pF {c A B : Prop} (h : ¬ c) : ((c → A) ∧ (¬ c → B)) ↔ B := ⟨fun z => z.2 h, fun b => ⟨fun z => absurd z h, fun _ => b⟩⟩
theorem nT {c A B : Prop} (h : c) : ((¬ c → A) ∧ (c → B)) ↔ B := ⟨fun z => z.2 h, fun a => ⟨fun z => absurd h z, fun _ => a⟩⟩
theorem nF {c A B : Prop} (h : ¬ c) : ((¬ c → A) ∧ (c → B)) ↔ A := ⟨fun z => z.1 h, fun b => ⟨fun _ => b, fun z => absurd z h⟩⟩
theorem within_iff {Q : Int32 → AH → Prop} {m v : Int32} {h : AH} : p_MO_within Q v 0 m h ↔ Q (clip m v) h := by
  unfold p_MO_within clip
  by_cases h1 : v < 0
  · rw [pF (Int32.not_le.mpr h1), if_pos h1]
  · rw [pT (Int32.not_lt.mp h1), if_neg h1]
    by_cases h2 : m < v
    · rw [pF (Int32.not_le.mpr h2), if_pos h2]
    · rw [pT (Int32.not_lt.mp h2), if_neg h2]
theorem mx_0 {p : Nat} : (0 : Int32) ≤ mx p := by unfold mx; by_cases h : p = 0 <;> simp [h] <;> decide
theorem Law_end {Q : Int32 → AH → Prop} {p : Nat} {x4 : Int32} {h : AH} (hp : p < 3) (h4 : 1 ≤ x4) (H : Q (clip (mx p) (h.1 24 0)) h) : p_Law_answer_169 Q (nI p) 24 x4 h := by
  refine ⟨fun _ => ?_, fun z => absurd h4 z⟩
  have i0 : inb 0 160 := by decide
  refine ⟨fun z => ?_, fun z => ?_⟩
  · have hp0 : ¬ p = 0 := fun e => z (by subst e; rfl)
    exact ⟨vA_s (show _ < 84 by decide), rfl, i0, (clip_iff (by decide)).mpr (by rwa [mx, if_neg hp0] at H)⟩
  · have hp0 : p = 0 := (nI_inj (by omega) (by omega)).mp z
    exact ⟨vA_s (show _ < 84 by decide), rfl, i0, (clip_iff (by decide)).mpr (by rwa [mx, if_pos hp0] at H)⟩
theorem nI_sub2 (k : Nat) : nI (k + 2) - 2 = nI k := by
  rw [← nI_add, show (2 : Int32) = nI 2 from rfl, Int32.add_sub_cancel]
theorem nI_2le {k : Nat} (h : 2 ≤ k) (hk : k < 2147483648) : 2 ≤ nI k := (nI_leN (a := 2) (by decide) hk).mpr h
set_option maxRecDepth 20000 in
theorem Law_loop {Q : Int32 → AH → Prop} {t p b : Nat} (ht : t < 6) (hp : p < 3) (hb : b ≤ 160) : ∀ (cs : List Int32) (k : Nat) (st : List Int32) (h : AH),
    k + cs.length = b → h.1 (35 + 3 * t) (nI (p + 1)) = nI b → (∀ j, j < cs.length → h.1 (34 + 3 * t) (nI (k + j)) = mapC (cs.getD j 0)) → wfS cs st.length → st.length + cs.length ≤ 160 → holds (h.1 24) st →
    (∀ v h', frm [24] h h' → runS (h.1 23) cs st = [v] → Q (clip (mx p) v) h') → p_Law_answer_22 Q (cs.length + 1) (33 + 3 * t) (nI p) 23 24 (nI st.length) (nI k) h := by
  intro cs
  have i3 : inb (nI (p + 1)) 4 := inb_nI (by omega) (by omega)
  have e3 : nI p + 1 = nI (p + 1) := by rw [nI_1]
  have v23 : ∀ h, vA T1 h 23 := fun h => vA_s (show _ < 84 by decide)
  have v24 : ∀ h, vA T1 h 24 := fun h => vA_s (show _ < 84 by decide)
  have s23 : ∀ h, rS T1 h 23 = (100, 6) := fun _ => rfl
  have s24 : ∀ h, rS T1 h 24 = (100, 160) := fun _ => rfl
  induction cs with
  | nil =>
    intro k st h hk hr1 hcode hwf hd hst hQ
    obtain ⟨l1, l2, l3, l4, l5, l6, l7, l8⟩ := lawT ht h
    have hkb : k = b := by simpa using hk
    subst hkb
    have hl : st.length = 1 := hwf
    match st, hl, hst with
    | [v], _, hst =>
      simp only [List.length_nil, p_Law_answer_22, l1, l2, l4, l7, l8, e3, Nat.add_sub_cancel, hr1, true_and]
      refine ⟨Nat.succ_pos _, i3, fun _ => ?_, fun z => absurd ((nI_leN (by omega) (by omega)).mpr (Nat.le_refl k)) z⟩
      have e2 : h.1 24 0 = v := hst.1
      refine Law_end hp (show (1 : Int32) ≤ nI 1 by decide) ?_
      rw [e2]
      exact hQ v h frm_rf rfl
  | cons c cs ih =>
    intro k st h hk hr1 hcode hwf hd hst hQ
    obtain ⟨l1, l2, l3, l4, l5, l6, l7, l8⟩ := lawT ht h
    have hk' : k + (cs.length + 1) = b := hk
    have hd' : st.length + (cs.length + 1) ≤ 160 := hd
    obtain ⟨n, hn⟩ : ∃ n, n = cs.length + 1 := ⟨_, rfl⟩
    rw [List.length_cons, ← hn]
    rw [← hn] at ih
    have hc : h.1 (34 + 3 * t) (nI k) = mapC c := hcode 0 (Nat.zero_lt_succ _)
    have ne34 : ¬ 34 + 3 * t = 24 := by omega
    have ne35 : ¬ 35 + 3 * t = 24 := by omega
    have hcode' : ∀ x y : Int32, ∀ j, j < cs.length → (wI h 24 x y).1 (34 + 3 * t) (nI (k + 1 + j)) = mapC (cs.getD j 0) := fun x y j hj => by
      have := hcode (j + 1) (by simpa using hj)
      rw [show k + 1 + j = k + (j + 1) by omega, wI_r, if_neg ne34]
      exact this
    have i1 : inb (nI k) 160 := inb_nI (by omega) (by omega)
    have nle : ¬ nI b ≤ nI k := fun z => by have := (nI_leN (by omega) (by omega)).mp z; omega
    have nle2 : ¬ 160 ≤ nI k := fun z => by have := (nI_leN (a := 160) (by omega) (by omega)).mp z; omega
    have fin : ∀ (x y : Int32) (st' : List Int32), opS (h.1 23) c st = st' → wfS cs st'.length → st'.length ≤ st.length + 1 → holds (up (h.1 24) x y) st' → p_Law_answer_22 Q n (33 + 3 * t) (nI p) 23 24 (nI st'.length) (nI k + 1) (wI h 24 x y) := fun x y st' hop hw hle hh => by
      rw [nI_1]
      refine ih (k + 1) st' (wI h 24 x y) (by omega) (by rw [wI_r, if_neg ne35]; exact hr1) (hcode' x y) hw (by omega) hh (fun v h' hf hrun => hQ v h' ?_ ?_)
      · exact ⟨hf.1, fun b hb => (hf.2 b hb).trans (by have : ¬ b = 24 := fun e => hb (by simp [e]); rw [wI_r, if_neg this])⟩
      · show runS (h.1 23) cs (opS (h.1 23) c st) = [v]
        rw [hop]
        exact hrun
    simp only [p_Law_answer_22, l1, l2, l3, l4, l5, l6, l7, l8, e3, Nat.add_sub_cancel, hr1, true_and, hc, v24, s24, v23, s23]
    refine ⟨Nat.succ_pos _, i3, fun z => absurd z nle, fun _ => ⟨fun z => absurd z nle2, fun _ => ⟨Nat.succ_pos _, i1, ?_⟩⟩⟩
    have d1 : st.length < 160 := by omega
    have lt1 : nI st.length < Int32.ofNat 160 := (nI_ltI (b := 160) (by omega) (by omega)).mpr d1
    rcases hwf with ⟨hpu, hw⟩ | ⟨hun, h1, hw⟩ | ⟨hbi, h2, hw⟩
    · rcases hpu with ⟨g1, g2⟩ | ⟨g1, g2⟩
      · have b1 := pushC_big g1
        obtain ⟨m1, m2, m3⟩ := mapC_big g1 g2
        rw [pF m2, pT lt1, pF m3]
        simp only [p_Law_answer_87, p_Law_answer_163, s24, v24, true_and]
        refine ⟨inb_nI d1 (by omega), ?_⟩
        have := fin (nI st.length) (mapC c) (mapC c :: st) (by simp [opS, b1, m1]) hw (by simp) ⟨up_s, holds_up (by omega) (Nat.le_refl _) hst⟩
        rwa [List.length_cons, ← nI_1] at this
      · obtain ⟨b1, b2, b3⟩ := pushC_sml g2
        obtain ⟨m1, m2, m3⟩ := mapC_sml g1 g2
        rw [pF m1, pT lt1, pT m2]
        simp only [p_Law_answer_87, p_Law_answer_163, s24, v24, m3, true_and]
        refine ⟨⟨g1, g2⟩, inb_nI d1 (by omega), ?_⟩
        have := fin (nI st.length) (h.1 23 c) (h.1 23 c :: st) (by simp [opS, b1, b2]) hw (by simp) ⟨up_s, holds_up (by omega) (Nat.le_refl _) hst⟩
        rwa [List.length_cons, ← nI_1] at this
    · match st, h1, hst, hw, fin, d1 with
      | a :: st, _, hst, hw, fin, d1 =>
        have e3 : nI (a :: st).length - 1 = nI st.length := nI_sub1 st.length
        have d2 : st.length + 1 < 160 := d1
        have e4 : h.1 24 (nI st.length) = a := hst.1
        have le1 : 1 ≤ nI (a :: st).length := (nI_leN (a := 1) (by omega) (by simp; omega)).mpr (by simp)
        have c1 : mapC c < -6 ∧ ¬ mapC c < -11 := by rcases hun with rfl | rfl <;> decide
        rw [pT c1.1, pF c1.2, pT le1, e3, e4]
        refine ⟨inb_nI (by omega) (by omega), ?_⟩
        have key : ∀ y, opS (h.1 23) c (a :: st) = y :: st → inb (nI st.length) 160 ∧ p_Law_answer_163 Q (p_Law_answer_22 Q n) (33 + 3 * t) (nI p) 23 24 (nI (a :: st).length) (nI k) (wI h 24 (nI st.length) y) := fun y hy =>
          ⟨inb_nI (by omega) (by omega), fin (nI st.length) y (y :: st) hy hw (by simp) ⟨up_s, holds_up (by omega) (Nat.le_refl _) hst.2⟩⟩
        rcases hun with rfl | rfl
        · refine ⟨fun _ => ⟨fun z => ?_, fun z => ?_⟩, fun z => absurd z (by decide)⟩
          · exact key 0 (by simp [opS, b01, z])
          · exact key 1 (by simp [opS, b01, z])
        · refine ⟨fun z => absurd rfl z, fun _ => ?_⟩
          exact key (-a) (by simp [opS])
    · match st, h2, hst, hw, fin, d1 with
      | x2 :: x1 :: st, _, hst, hw, fin, d1 =>
        have e3 : nI (x2 :: x1 :: st).length + (-1) = nI (st.length + 1) := nI_m1 (st.length + 1)
        have e4 : nI (x2 :: x1 :: st).length - 1 = nI (st.length + 1) := nI_sub1 (st.length + 1)
        have e7 : nI (x2 :: x1 :: st).length - 2 = nI st.length := nI_sub2 st.length
        have d2 : st.length + 2 < 160 := d1
        have e5 : h.1 24 (nI (st.length + 1)) = x2 := hst.1
        have e6 : h.1 24 (nI st.length) = x1 := hst.2.1
        have c1 : ¬ (100000 : Int32) ≤ c ∧ (11 : Int32) ≤ c ∧ ¬ c = 13 ∧ ¬ c = 19 ∧ ¬ c < 11 := by rcases hbi with rfl | rfl | rfl | rfl | rfl | rfl | rfl <;> decide
        obtain ⟨c1, c2, c3, c4, c5⟩ := c1
        have c6 : mapC c < -6 ∧ mapC c < -11 := by rcases hbi with rfl | rfl | rfl | rfl | rfl | rfl | rfl <;> decide
        have le1 : 2 ≤ nI (x2 :: x1 :: st).length := nI_2le (Nat.le_add_left 2 st.length) (Nat.lt_of_lt_of_le d2 (by decide))
        rw [pT c6.1, pT c6.2, pT le1, e7, e4, e5, e6, e3, joined_iff hbi]
        refine ⟨inb_nI (by omega) (by omega), inb_nI (by omega) (by omega), inb_nI (by omega) (by omega), ?_⟩
        have := fin (nI st.length) (two c x1 x2) (two c x1 x2 :: st) (by simp [opS, c1, c3, c4, c5]) hw (by simp) ⟨up_s, holds_up (by omega) (Nat.le_refl _) hst.2.2⟩
        exact this
