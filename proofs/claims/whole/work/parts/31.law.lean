/-! pure: numbers again; the stack machine of a text -/
theorem nI_mul (a b : Nat) : nI a * nI b = nI (a * b) := by
  unfold nI
  apply Int32.toBitVec_inj.mp
  simp [BitVec.ofNat_mul]
theorem inb_nI {k n : Nat} (h : k < n) (hn : n < 2147483648) : inb (nI k) n := by
  have e : (nI k).toInt = k := nI_toInt (by omega)
  exact ⟨by omega, by omega⟩
theorem nI_sub1 (k : Nat) : nI (k + 1) - 1 = nI k := nI_pred k
theorem nI_m1 (k : Nat) : nI (k + 1) + (-1) = nI k := by
  rw [← Int32.sub_eq_add_neg]; exact nI_pred k
theorem nI_inj {a b : Nat} (ha : a < 2147483648) (hb : b < 2147483648) : nI a = nI b ↔ a = b := nI_eq ha hb
theorem nI_leN {a b : Nat} (ha : a < 2147483648) (hb : b < 2147483648) : nI a ≤ nI b ↔ a ≤ b := nI_leI ha hb
/-- two, as both sides reckon it -/
def two (c a b : Int32) : Int32 := if c = 11 then b01 (¬ a = 0 ∨ ¬ b = 0) else if c = 12 then b01 (¬ a = 0 ∧ ¬ b = 0) else if c = 14 then b01 (a < b) else if c = 15 then b01 (a = b) else if c = 16 then a + b else if c = 17 then a - b else a * b
def pushC (c : Int32) : Prop := (100000 ≤ c.toInt ∧ c.toInt ≤ 109999) ∨ (0 ≤ c.toInt ∧ c.toInt < 6)
def unC (c : Int32) : Prop := c = 13 ∨ c = 19
def binC (c : Int32) : Prop := c = 11 ∨ c = 12 ∨ c = 14 ∨ c = 15 ∨ c = 16 ∨ c = 17 ∨ c = 18
def opS (nm : Int32 → Int32) (c : Int32) (st : List Int32) : List Int32 :=
  if 100000 ≤ c then (c - 100000) :: st else if c < 11 then nm c :: st
  else if c = 13 then (match st with | a :: r => b01 (a = 0) :: r | [] => [])
  else if c = 19 then (match st with | a :: r => (-a) :: r | [] => [])
  else (match st with | b :: a :: r => two c a b :: r | st => st)
def runS (nm : Int32 → Int32) : List Int32 → List Int32 → List Int32
  | [], st => st
  | c :: cs, st => runS nm cs (opS nm c st)
def wfS : List Int32 → Nat → Prop
  | [], d => d = 1
  | c :: cs, d => (pushC c ∧ wfS cs (d + 1)) ∨ (unC c ∧ 1 ≤ d ∧ wfS cs d) ∨ (binC c ∧ 2 ≤ d ∧ wfS cs (d - 1))
/-- a row holds a stack, its top first in the list -/
def holds (f : Int32 → Int32) : List Int32 → Prop
  | [] => True
  | x :: st => f (nI st.length) = x ∧ holds f st
theorem holds_up {f : Int32 → Int32} {x : Int32} {k : Nat} (hk : k < 2147483648) : ∀ {st : List Int32}, st.length ≤ k → holds f st → holds (up f (nI k) x) st := by
  intro st
  induction st with
  | nil => intro _ _; trivial
  | cons a st ih =>
    intro hl h
    have hl' : st.length + 1 ≤ k := hl
    refine ⟨?_, ih (by omega) h.2⟩
    rw [up_n (fun e => by have := (nI_inj (by omega) hk).mp e; omega)]
    exact h.1
theorem pushC_big {c : Int32} (h : 100000 ≤ c.toInt) : (100000 : Int32) ≤ c := by
  rw [Int32.le_iff_toInt_le]; exact h
theorem pushC_sml {c : Int32} (h : c.toInt < 6) : ¬ (100000 : Int32) ≤ c ∧ c < 11 ∧ ¬ (11 : Int32) ≤ c := by
  have e1 : (100000 : Int32).toInt = 100000 := by decide
  have e2 : (11 : Int32).toInt = 11 := by decide
  refine ⟨?_, ?_, ?_⟩
  · rw [Int32.le_iff_toInt_le]; omega
  · rw [Int32.lt_iff_toInt_lt]; omega
  · rw [Int32.le_iff_toInt_le]; omega
theorem ge11_of_big {c : Int32} (h : 100000 ≤ c.toInt) : (11 : Int32) ≤ c := by
  have e2 : (11 : Int32).toInt = 11 := by decide
  rw [Int32.le_iff_toInt_le]; omega
theorem MO_two_iff {Q : Int32 → AH → Prop} {c a b : Int32} {h : AH} (hc : binC c) : p_MO_two Q c a b h ↔ Q (two c a b) h := by
  unfold p_MO_two two
  rcases hc with rfl | rfl | rfl | rfl | rfl | rfl | rfl
  · by_cases h1 : a = 0 <;> by_cases h2 : b = 0 <;> simp [h1, h2, b01]
  · by_cases h1 : a = 0 <;> by_cases h2 : b = 0 <;> simp [h1, h2, b01]
  · by_cases h1 : b ≤ a
    · have : ¬ a < b := Int32.not_lt.mpr h1
      simp [h1, this, b01]
    · have : a < b := Int32.not_le.mp h1
      simp [h1, this, b01]
  · by_cases h1 : a = b <;> simp [h1, b01]
  · simp
  · simp
  · simp
theorem MO_says_loop {Q : Int32 → AH → Prop} {r p b : Nat} (hr : r < 6) (hp : p < 3) (hb : b ≤ 160) : ∀ (cs : List Int32) (k : Nat) (st : List Int32) (h : AH),
    k + cs.length = b → h.1 59 12 = nI r → h.1 68 (nI (4 * r + p + 1)) = nI b → (∀ j, j < cs.length → h.1 67 (nI (200 * r + (k + j))) = cs.getD j 0) → wfS cs st.length → st.length + cs.length ≤ 160 → holds (h.1 76) st →
    (∀ v h', frm [76] h h' → runS (h.1 77) cs st = [v] → Q v h') → p_MO_says_16 Q (cs.length + 1) (nI p) (nI st.length) (nI k) h := by
  intro cs
  induction cs with
  | nil =>
    intro k st h hk hr1 h68 hcode hwf hd hst hQ
    have hkb : k = b := by simpa using hk
    subst hkb
    have hl : st.length = 1 := hwf
    have e1 : (4 : Int32) * nI r + nI p + 1 = nI (4 * r + p + 1) := by
      rw [show (4 : Int32) = nI 4 from rfl, nI_mul, nI_add, nI_1]
    match st, hl, hst with
    | [v], _, hst =>
      simp only [List.length_nil, p_MO_says_16, hr1, e1, h68]
      refine ⟨inb_nI (by omega) (by omega), fun _ => ?_, fun z => absurd ((nI_leN (by omega) (by omega)).mpr (Nat.le_refl k)) z⟩
      have e2 : h.1 76 0 = v := hst.1
      rw [e2]
      exact hQ v h frm_rf rfl
  | cons c cs ih =>
    intro k st h hk hr1 h68 hcode hwf hd hst hQ
    have hk' : k + (cs.length + 1) = b := hk
    have hd' : st.length + (cs.length + 1) ≤ 160 := hd
    obtain ⟨n, hn⟩ : ∃ n, n = cs.length + 1 := ⟨_, rfl⟩
    rw [List.length_cons, ← hn]
    rw [← hn] at ih
    have e1 : (4 : Int32) * nI r + nI p + 1 = nI (4 * r + p + 1) := by
      rw [show (4 : Int32) = nI 4 from rfl, nI_mul, nI_add, nI_1]
    have e2 : (200 : Int32) * nI r + nI k = nI (200 * r + k) := by
      rw [show (200 : Int32) = nI 200 from rfl, nI_mul, nI_add]
    have hc : h.1 67 (nI (200 * r + k)) = c := hcode 0 (Nat.zero_lt_succ _)
    have hcode' : ∀ x y : Int32, ∀ j, j < cs.length → (wI h 76 x y).1 67 (nI (200 * r + (k + 1 + j))) = cs.getD j 0 := fun x y j hj => by
      have := hcode (j + 1) (by simpa using hj)
      rw [show k + 1 + j = k + (j + 1) by omega]
      exact this
    have i1 : inb (nI (4 * r + p + 1)) 24 := inb_nI (by omega) (by omega)
    have i2 : inb (nI (200 * r + k)) 1200 := inb_nI (by omega) (by omega)
    have nle : ¬ nI b ≤ nI k := fun z => by have := (nI_leN (by omega) (by omega)).mp z; omega
    have fin : ∀ (x y : Int32) (st' : List Int32), opS (h.1 77) c st = st' → wfS cs st'.length → st'.length ≤ st.length + 1 → holds (up (h.1 76) x y) st' → p_MO_says_16 Q n (nI p) (nI st'.length) (nI k + 1) (wI h 76 x y) := fun x y st' hop hw hle hh => by
      rw [nI_1]
      refine ih (k + 1) st' (wI h 76 x y) (by omega) hr1 h68 (hcode' x y) hw (by omega) hh (fun v h' hf hrun => hQ v h' ?_ ?_)
      · exact ⟨hf.1, fun b hb => (hf.2 b hb).trans (by have : ¬ b = 76 := fun e => hb (by simp [e]); rw [wI_r, if_neg this])⟩
      · show runS (h.1 77) cs (opS (h.1 77) c st) = [v]
        rw [hop]
        exact hrun
    simp only [p_MO_says_16, hr1, e1, h68, e2, hc]
    refine ⟨i1, fun z => absurd z nle, fun _ => ⟨i2, ?_⟩⟩
    have d1 : st.length < 200 := by omega
    rcases hwf with ⟨hpu, hw⟩ | ⟨hun, h1, hw⟩ | ⟨hbi, h2, hw⟩
    · rcases hpu with ⟨g1, g2⟩ | ⟨g1, g2⟩
      · have b1 := pushC_big g1
        refine ⟨fun _ => ?_, fun z => absurd b1 z⟩
        simp only [p_MO_says_66, p_MO_says_93, p_MO_says_191]
        refine ⟨fun _ => ⟨inb_nI d1 (by omega), ?_⟩, fun z => absurd (ge11_of_big g1) z⟩
        have := fin (nI st.length) (c - 100000) ((c - 100000) :: st) (by simp [opS, b1]) hw (by simp) ⟨up_s, holds_up (by omega) (Nat.le_refl _) hst⟩
        rwa [List.length_cons, ← nI_1] at this
      · obtain ⟨b1, b2, b3⟩ := pushC_sml g2
        refine ⟨fun z => absurd z b1, fun _ => ⟨fun z => absurd z b3, fun _ => ?_⟩⟩
        simp only [p_MO_says_66, p_MO_says_93, p_MO_says_191]
        refine ⟨fun z => absurd z b3, fun _ => ⟨⟨g1, g2⟩, inb_nI d1 (by omega), ?_⟩⟩
        have := fin (nI st.length) (h.1 77 c) (h.1 77 c :: st) (by simp [opS, b1, b2]) hw (by simp) ⟨up_s, holds_up (by omega) (Nat.le_refl _) hst⟩
        rwa [List.length_cons, ← nI_1] at this
    · match st, h1, hst, hw, fin, d1 with
      | a :: st, _, hst, hw, fin, d1 =>
        have e3 : nI (a :: st).length - 1 = nI st.length := nI_sub1 st.length
        have d2 : st.length + 1 < 200 := d1
        have e4 : h.1 76 (nI st.length) = a := hst.1
        rcases hun with rfl | rfl
        · refine ⟨fun z => absurd z (by decide), fun _ => ⟨fun _ => ⟨fun z => absurd rfl z, fun _ => ?_⟩, fun z => absurd (by decide) z⟩⟩
          simp only [p_MO_says_130, p_MO_says_191, e3, e4]
          refine ⟨inb_nI (by omega) (by omega), fun z => ⟨inb_nI (by omega) (by omega), ?_⟩, fun z => ⟨inb_nI (by omega) (by omega), ?_⟩⟩
          · exact fin (nI st.length) 0 (0 :: st) (by simp [opS, b01, z]) hw (by simp) ⟨up_s, holds_up (by omega) (Nat.le_refl _) hst.2⟩
          · exact fin (nI st.length) 1 (1 :: st) (by simp [opS, b01, z]) hw (by simp) ⟨up_s, holds_up (by omega) (Nat.le_refl _) hst.2⟩
        · refine ⟨fun z => absurd z (by decide), fun _ => ⟨fun _ => ⟨fun _ => ⟨fun z => absurd rfl z, fun _ => ?_⟩, fun z => absurd z (by decide)⟩, fun z => absurd (by decide) z⟩⟩
          simp only [p_MO_says_191, e3, e4]
          refine ⟨inb_nI (by omega) (by omega), ?_⟩
          exact fin (nI st.length) (-a) ((-a) :: st) (by simp [opS]) hw (by simp) ⟨up_s, holds_up (by omega) (Nat.le_refl _) hst.2⟩
    · match st, h2, hst, hw, fin, d1 with
      | x2 :: x1 :: st, _, hst, hw, fin, d1 =>
        have e3 : nI (x2 :: x1 :: st).length + (-1) = nI (st.length + 1) := nI_m1 (st.length + 1)
        have e4 : nI (st.length + 1) - 1 = nI st.length := nI_sub1 st.length
        have d2 : st.length + 2 < 200 := d1
        have e5 : h.1 76 (nI (st.length + 1)) = x2 := hst.1
        have e6 : h.1 76 (nI st.length) = x1 := hst.2.1
        have c1 : ¬ (100000 : Int32) ≤ c ∧ (11 : Int32) ≤ c ∧ ¬ c = 13 ∧ ¬ c = 19 ∧ ¬ c < 11 := by rcases hbi with rfl | rfl | rfl | rfl | rfl | rfl | rfl <;> decide
        obtain ⟨c1, c2, c3, c4, c5⟩ := c1
        refine ⟨fun z => absurd z c1, fun _ => ⟨fun _ => ⟨fun _ => ⟨fun _ => ?_, fun z => absurd z c4⟩, fun z => absurd z c3⟩, fun z => absurd c2 z⟩⟩
        simp only [p_MO_says_191, e3, e4, e5, e6]
        refine ⟨inb_nI (by omega) (by omega), inb_nI (by omega) (by omega), ?_⟩
        rw [MO_two_iff hbi]
        refine ⟨inb_nI (by omega) (by omega), ?_⟩
        have := fin (nI st.length) (two c x1 x2) (two c x1 x2 :: st) (by simp [opS, c1, c3, c4, c5]) hw (by simp) ⟨up_s, holds_up (by omega) (Nat.le_refl _) hst.2.2⟩
        exact this
