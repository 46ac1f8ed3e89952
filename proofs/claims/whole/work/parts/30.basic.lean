/-! pure: numbers, rows, the small predicates -/
def b01 (P : Prop) [Decidable P] : Int32 := if P then 1 else 0
theorem b01_t {P : Prop} [Decidable P] (h : P) : b01 P = 1 := if_pos h
theorem b01_f {P : Prop} [Decidable P] (h : ¬ P) : b01 P = 0 := if_neg h
theorem b01_0 {P : Prop} [Decidable P] : b01 P = 0 ↔ ¬ P := by
  unfold b01; by_cases h : P <;> simp [h]
theorem b01_z {P : Prop} [Decidable P] : narrow .boolean (.int (b01 P)) = .int (b01 P) := by
  unfold b01; by_cases h : P <;> simp [h] <;> rfl
theorem wI_r {h : AH} {a b : Nat} {k x : Int32} : (wI h a k x).1 b = if b = a then up (h.1 a) k x else h.1 b := rfl
theorem wI_2 {h : AH} {a : Nat} {k x : Int32} : (wI h a k x).2 = h.2 := rfl
theorem up_a {f : Int32 → Int32} {k x j : Int32} : up f k x j = if j = k then x else f j := rfl
theorem up_s {f : Int32 → Int32} {k x : Int32} : up f k x k = x := if_pos rfl
theorem up_n {f : Int32 → Int32} {k x j : Int32} (h : ¬ j = k) : up f k x j = f j := if_neg h
theorem MO_in_iff {Q : Int32 → AH → Prop} {x lo hi : Int32} {h : AH} : p_MO_in Q x lo hi h ↔ Q (b01 (lo ≤ x ∧ x ≤ hi)) h := by
  unfold p_MO_in
  by_cases h1 : x < lo
  · have : ¬ lo ≤ x := Int32.not_le.mpr h1
    simp [h1, this, b01]
  · have h1' : lo ≤ x := Int32.not_lt.mp h1
    by_cases h2 : hi < x
    · have : ¬ x ≤ hi := Int32.not_le.mpr h2
      simp [h1, h2, this, b01]
    · have : x ≤ hi := Int32.not_lt.mp h2
      simp [h1, h2, this, h1', b01]
theorem UF_within_iff {Q : Int32 → AH → Prop} {x lo hi : Int32} {h : AH} : p_UF_within Q x lo hi h ↔ Q (b01 (lo ≤ x ∧ x ≤ hi)) h := by
  unfold p_UF_within
  by_cases h1 : x < lo
  · have : ¬ lo ≤ x := Int32.not_le.mpr h1
    simp [h1, this, b01]
  · have h1' : lo ≤ x := Int32.not_lt.mp h1
    by_cases h2 : hi < x
    · have : ¬ x ≤ hi := Int32.not_le.mpr h2
      simp [h1, h2, this, b01]
    · have : x ≤ hi := Int32.not_lt.mp h2
      simp [h1, h2, this, h1', b01]
theorem MO_isHouse_iff {Q : Int32 → AH → Prop} {x : Int32} {h : AH} : p_MO_isHouse Q x h ↔ Q (b01 (0 ≤ x ∧ x ≤ h.1 59 0 - 1)) h := by
  unfold p_MO_isHouse; rw [MO_in_iff]; simp only [b01_z, true_and]
theorem MO_isMany_iff {Q : Int32 → AH → Prop} {x : Int32} {h : AH} : p_MO_isMany Q x h ↔ Q (b01 (0 ≤ x ∧ x ≤ 24)) h := by
  unfold p_MO_isMany; rw [MO_in_iff]; simp only [b01_z, true_and]
theorem MO_isByte_iff {Q : Int32 → AH → Prop} {x : Int32} {h : AH} : p_MO_isByte Q x h ↔ Q (b01 (0 ≤ x ∧ x ≤ 255)) h := by
  unfold p_MO_isByte; rw [MO_in_iff]; simp only [b01_z, true_and]
theorem UF_isHouse_iff {Q : Int32 → AH → Prop} {x : Int32} {h : AH} : p_UF_isHouse Q x h ↔ Q (b01 (0 ≤ x ∧ x ≤ h.1 5 3 - 1)) h := by
  unfold p_UF_isHouse; rw [UF_within_iff]; simp only [b01_z, true_and]
theorem UF_isSpan_iff {Q : Int32 → AH → Prop} {x : Int32} {h : AH} : p_UF_isSpan Q x h ↔ Q (b01 (0 ≤ x ∧ x ≤ 24)) h := by
  unfold p_UF_isSpan; rw [UF_within_iff]; simp only [b01_z, true_and]
theorem UF_isSheet_iff {Q : Int32 → AH → Prop} {x : Int32} {h : AH} : p_UF_isSheet Q x h ↔ Q (b01 (0 ≤ x ∧ x ≤ 3)) h := by
  unfold p_UF_isSheet; rw [UF_within_iff]; simp only [b01_z, true_and]
theorem UF_isByte_iff {Q : Int32 → AH → Prop} {x : Int32} {h : AH} : p_UF_isByte Q x h ↔ Q (b01 (0 ≤ x ∧ x ≤ 255)) h := by
  unfold p_UF_isByte; rw [UF_within_iff]; simp only [b01_z, true_and]
theorem UF_isDraw_iff {Q : Int32 → AH → Prop} {x y z : Int32} {h : AH} : p_UF_isDraw Q x y z h ↔ Q (b01 ((0 ≤ x ∧ x ≤ 99999) ∧ (0 ≤ y ∧ y ≤ 24) ∧ (0 ≤ z ∧ z ≤ 100))) h := by
  unfold p_UF_isDraw
  simp only [UF_within_iff, UF_isSpan_iff, b01_0]
  by_cases h1 : 0 ≤ x ∧ x ≤ 99999 <;> by_cases h2 : 0 ≤ y ∧ y ≤ 24 <;> by_cases h3 : 0 ≤ z ∧ z ≤ 100 <;> simp [h1, h2, h3, b01]
theorem MO_isDrawn_iff {Q : Int32 → AH → Prop} {x y z : Int32} {h : AH} : p_MO_isDrawn Q x y z h ↔ Q (b01 ((0 ≤ x ∧ x ≤ 99999) ∧ (0 ≤ y ∧ y ≤ 24) ∧ (0 ≤ z ∧ z ≤ 100))) h := by
  unfold p_MO_isDrawn
  simp only [MO_in_iff, MO_isMany_iff, b01_0]
  by_cases h1 : 0 ≤ x ∧ x ≤ 99999 <;> by_cases h2 : 0 ≤ y ∧ y ≤ 24 <;> by_cases h3 : 0 ≤ z ∧ z ≤ 100 <;> simp [h1, h2, h3, b01]
/-- x is a place below n, n an Int32 of 0 .. 2^31 - 1 -/
theorem in_of {x n : Int32} (hn : 0 ≤ n.toInt) : (0 ≤ x ∧ x ≤ n - 1) ↔ (0 ≤ x.toInt ∧ x.toInt < n.toInt) := by
  have e : (n - 1).toInt = n.toInt - 1 := by
    rw [Int32.toInt_sub]
    have h1 := Int32.toInt_lt n
    have : (1 : Int32).toInt = 1 := by decide
    rw [this]
    exact Int.bmod_eq_of_le (by omega) (by omega)
  rw [Int32.le_iff_toInt_le, Int32.le_iff_toInt_le, e, Int32.toInt_zero]
  omega
theorem inb_of {x n : Int32} {N : Nat} (h : 0 ≤ x.toInt ∧ x.toInt < n.toInt) (hN : n.toInt ≤ N) : inb x N := ⟨h.1, by omega⟩
theorem up_up {f : Int32 → Int32} {k x y : Int32} : up (up f k x) k y = up f k y := by
  funext j; unfold up; by_cases h : j = k <;> simp [h]
theorem up_comm {f : Int32 → Int32} {k l x y : Int32} (h : ¬ k = l) : up (up f k x) l y = up (up f l y) k x := by
  funext j; unfold up
  by_cases h1 : j = k
  · have : ¬ j = l := fun e => h (h1.symm.trans e)
    simp [h1, h]
  · simp [h1]
theorem up_id {f : Int32 → Int32} {k x : Int32} (h : f k = x) : up f k x = f := by
  funext j; unfold up; by_cases hj : j = k <;> simp [hj, h]
/-- the rows outside the list are as before, and nothing but rows has changed -/
def frm (S : List Nat) (h h' : AH) : Prop := h'.2 = h.2 ∧ ∀ b, b ∉ S → h'.1 b = h.1 b
theorem frm_rf {S : List Nat} {h : AH} : frm S h h := ⟨rfl, fun _ _ => rfl⟩
theorem frm_tr {S S' S2 : List Nat} {h h' h2 : AH} (a : frm S h h') (b : frm S' h' h2) (h1 : ∀ x ∈ S, x ∈ S2) (h3 : ∀ x ∈ S', x ∈ S2) : frm S2 h h2 :=
  ⟨b.1.trans a.1, fun c hc => (b.2 c (fun z => hc (h3 c z))).trans (a.2 c (fun z => hc (h1 c z)))⟩
theorem frm_w {S : List Nat} {h h' : AH} {a : Nat} {k x : Int32} (f : frm S h h') (ha : a ∈ S) : frm S h (wI h' a k x) :=
  ⟨f.1, fun b hb => by
    have : ¬ b = a := fun e => hb (e ▸ ha)
    rw [wI_r, if_neg this]; exact f.2 b hb⟩
