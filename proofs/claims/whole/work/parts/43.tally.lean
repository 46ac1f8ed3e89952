/-! pure: tallies over the houses, on both sides -/
def popc (x0 : Int32) : Int32 := (((((((x0 - ((((x0 : Int32).toUInt32 >>> ((1 : Int32).toUInt32 &&& Int32.toUInt32 31)).toInt32) &&& 1431655765)) &&& 858993459) + (((((x0 - ((((x0 : Int32).toUInt32 >>> ((1 : Int32).toUInt32 &&& Int32.toUInt32 31)).toInt32) &&& 1431655765)) : Int32).toUInt32 >>> ((2 : Int32).toUInt32 &&& Int32.toUInt32 31)).toInt32) &&& 858993459)) + ((((((x0 - ((((x0 : Int32).toUInt32 >>> ((1 : Int32).toUInt32 &&& Int32.toUInt32 31)).toInt32) &&& 1431655765)) &&& 858993459) + (((((x0 - ((((x0 : Int32).toUInt32 >>> ((1 : Int32).toUInt32 &&& Int32.toUInt32 31)).toInt32) &&& 1431655765)) : Int32).toUInt32 >>> ((2 : Int32).toUInt32 &&& Int32.toUInt32 31)).toInt32) &&& 858993459)) : Int32).toUInt32 >>> ((4 : Int32).toUInt32 &&& Int32.toUInt32 31)).toInt32)) &&& 252645135) + ((((((((x0 - ((((x0 : Int32).toUInt32 >>> ((1 : Int32).toUInt32 &&& Int32.toUInt32 31)).toInt32) &&& 1431655765)) &&& 858993459) + (((((x0 - ((((x0 : Int32).toUInt32 >>> ((1 : Int32).toUInt32 &&& Int32.toUInt32 31)).toInt32) &&& 1431655765)) : Int32).toUInt32 >>> ((2 : Int32).toUInt32 &&& Int32.toUInt32 31)).toInt32) &&& 858993459)) + ((((((x0 - ((((x0 : Int32).toUInt32 >>> ((1 : Int32).toUInt32 &&& Int32.toUInt32 31)).toInt32) &&& 1431655765)) &&& 858993459) + (((((x0 - ((((x0 : Int32).toUInt32 >>> ((1 : Int32).toUInt32 &&& Int32.toUInt32 31)).toInt32) &&& 1431655765)) : Int32).toUInt32 >>> ((2 : Int32).toUInt32 &&& Int32.toUInt32 31)).toInt32) &&& 858993459)) : Int32).toUInt32 >>> ((4 : Int32).toUInt32 &&& Int32.toUInt32 31)).toInt32)) &&& 252645135) : Int32).toUInt32 >>> ((8 : Int32).toUInt32 &&& Int32.toUInt32 31)).toInt32)) + (((((((((x0 - ((((x0 : Int32).toUInt32 >>> ((1 : Int32).toUInt32 &&& Int32.toUInt32 31)).toInt32) &&& 1431655765)) &&& 858993459) + (((((x0 - ((((x0 : Int32).toUInt32 >>> ((1 : Int32).toUInt32 &&& Int32.toUInt32 31)).toInt32) &&& 1431655765)) : Int32).toUInt32 >>> ((2 : Int32).toUInt32 &&& Int32.toUInt32 31)).toInt32) &&& 858993459)) + ((((((x0 - ((((x0 : Int32).toUInt32 >>> ((1 : Int32).toUInt32 &&& Int32.toUInt32 31)).toInt32) &&& 1431655765)) &&& 858993459) + (((((x0 - ((((x0 : Int32).toUInt32 >>> ((1 : Int32).toUInt32 &&& Int32.toUInt32 31)).toInt32) &&& 1431655765)) : Int32).toUInt32 >>> ((2 : Int32).toUInt32 &&& Int32.toUInt32 31)).toInt32) &&& 858993459)) : Int32).toUInt32 >>> ((4 : Int32).toUInt32 &&& Int32.toUInt32 31)).toInt32)) &&& 252645135) + ((((((((x0 - ((((x0 : Int32).toUInt32 >>> ((1 : Int32).toUInt32 &&& Int32.toUInt32 31)).toInt32) &&& 1431655765)) &&& 858993459) + (((((x0 - ((((x0 : Int32).toUInt32 >>> ((1 : Int32).toUInt32 &&& Int32.toUInt32 31)).toInt32) &&& 1431655765)) : Int32).toUInt32 >>> ((2 : Int32).toUInt32 &&& Int32.toUInt32 31)).toInt32) &&& 858993459)) + ((((((x0 - ((((x0 : Int32).toUInt32 >>> ((1 : Int32).toUInt32 &&& Int32.toUInt32 31)).toInt32) &&& 1431655765)) &&& 858993459) + (((((x0 - ((((x0 : Int32).toUInt32 >>> ((1 : Int32).toUInt32 &&& Int32.toUInt32 31)).toInt32) &&& 1431655765)) : Int32).toUInt32 >>> ((2 : Int32).toUInt32 &&& Int32.toUInt32 31)).toInt32) &&& 858993459)) : Int32).toUInt32 >>> ((4 : Int32).toUInt32 &&& Int32.toUInt32 31)).toInt32)) &&& 252645135) : Int32).toUInt32 >>> ((8 : Int32).toUInt32 &&& Int32.toUInt32 31)).toInt32)) : Int32).toUInt32 >>> ((16 : Int32).toUInt32 &&& Int32.toUInt32 31)).toInt32)) &&& 63
theorem bitCount_iff {Q : Int32 → AH → Prop} {x : Int32} {h : AH} : p_Integer_bitCount Q x h ↔ Q (popc x) h := Iff.rfl
def bS (b : Bool) (k : Nat) (a : Int32) : Int32 := if b then a ||| (1 <<< (nI k &&& 31)) else a
def sS (b : Bool) (k : Nat) (a : Int32) : Int32 := a + (if b then 1 <<< (nI k &&& 31) else 0)
def cS (b : Bool) (k : Nat) (a : Int32) : Int32 := a + (if b then 1 else 0)
def tally (S : Bool → Nat → Int32 → Int32) (b : Nat → Bool) : Nat → Nat → Int32 → Int32
  | 0, _, a => a
  | c + 1, k, a => tally S b c (k + 1) (S (b k) k a)
theorem tl0 : 0 = 0 ∧ popc 0 = 0 := by decide +kernel
theorem tl1 : ∀ a : Bool, (sS a 0 0) = (bS a 0 0) ∧ popc (bS a 0 0) = (cS a 0 0) := by decide +kernel
theorem tl2 : ∀ a b : Bool, (sS b 1 (sS a 0 0)) = (bS b 1 (bS a 0 0)) ∧ popc (bS b 1 (bS a 0 0)) = (cS b 1 (cS a 0 0)) := by decide +kernel
theorem tl3 : ∀ a b c : Bool, (sS c 2 (sS b 1 (sS a 0 0))) = (bS c 2 (bS b 1 (bS a 0 0))) ∧ popc (bS c 2 (bS b 1 (bS a 0 0))) = (cS c 2 (cS b 1 (cS a 0 0))) := by decide +kernel
theorem tl4 : ∀ a b c d : Bool, (sS d 3 (sS c 2 (sS b 1 (sS a 0 0)))) = (bS d 3 (bS c 2 (bS b 1 (bS a 0 0)))) ∧ popc (bS d 3 (bS c 2 (bS b 1 (bS a 0 0)))) = (cS d 3 (cS c 2 (cS b 1 (cS a 0 0)))) := by decide +kernel
theorem tl5 : ∀ a b c d e : Bool, (sS e 4 (sS d 3 (sS c 2 (sS b 1 (sS a 0 0))))) = (bS e 4 (bS d 3 (bS c 2 (bS b 1 (bS a 0 0))))) ∧ popc (bS e 4 (bS d 3 (bS c 2 (bS b 1 (bS a 0 0))))) = (cS e 4 (cS d 3 (cS c 2 (cS b 1 (cS a 0 0))))) := by decide +kernel
theorem tl6 : ∀ a b c d e f : Bool, (sS f 5 (sS e 4 (sS d 3 (sS c 2 (sS b 1 (sS a 0 0)))))) = (bS f 5 (bS e 4 (bS d 3 (bS c 2 (bS b 1 (bS a 0 0)))))) ∧ popc (bS f 5 (bS e 4 (bS d 3 (bS c 2 (bS b 1 (bS a 0 0)))))) = (cS f 5 (cS e 4 (cS d 3 (cS c 2 (cS b 1 (cS a 0 0)))))) := by decide +kernel
theorem tl7 : ∀ a b c d e f g : Bool, (sS g 6 (sS f 5 (sS e 4 (sS d 3 (sS c 2 (sS b 1 (sS a 0 0))))))) = (bS g 6 (bS f 5 (bS e 4 (bS d 3 (bS c 2 (bS b 1 (bS a 0 0))))))) ∧ popc (bS g 6 (bS f 5 (bS e 4 (bS d 3 (bS c 2 (bS b 1 (bS a 0 0))))))) = (cS g 6 (cS f 5 (cS e 4 (cS d 3 (cS c 2 (cS b 1 (cS a 0 0))))))) := by decide +kernel
theorem tally_eq {b : Nat → Bool} : ∀ {N : Nat}, N ≤ 7 → tally sS b N 0 0 = tally bS b N 0 0 ∧ popc (tally bS b N 0 0) = tally cS b N 0 0
  | 0, _ => by simp only [tally]; exact ⟨trivial, tl0.2⟩
  | 1, _ => tl1 (b 0)
  | 2, _ => tl2 (b 0) (b 1)
  | 3, _ => tl3 (b 0) (b 1) (b 2)
  | 4, _ => tl4 (b 0) (b 1) (b 2) (b 3)
  | 5, _ => tl5 (b 0) (b 1) (b 2) (b 3) (b 4)
  | 6, _ => tl6 (b 0) (b 1) (b 2) (b 3) (b 4) (b 5)
  | 7, _ => tl7 (b 0) (b 1) (b 2) (b 3) (b 4) (b 5) (b 6)
  | n + 8, h => absurd h (by omega)
def sumL (f : Nat → Int32) : Nat → Nat → Int32 → Int32
  | 0, _, a => a
  | c + 1, k, a => sumL f c (k + 1) (a + f k)
def zB (f : Nat → Int32) : Nat → Bool := fun k => decide (f k = 0)
theorem bS_t {f : Nat → Int32} {k : Nat} {a : Int32} (h : f k = 0) : bS (zB f k) k a = a ||| (1 <<< (nI k &&& 31)) := by simp [bS, zB, h]
theorem bS_f {f : Nat → Int32} {k : Nat} {a : Int32} (h : ¬ f k = 0) : bS (zB f k) k a = a := by simp [bS, zB, h]
theorem downBits_loop {N : Nat} {hi : Nat → Int32} {Q : Int32 → AH → Prop} {h : AH} (n7 : N ≤ 7) (hN : h.1 14 3 = nI N) (M : rowR N (h.1 15) hi) : ∀ (cnt k : Nat) (a : Int32), k + cnt = N → Q (tally bS (zB hi) cnt k a) h → p_Town_downBits_4 Q (cnt + 1) 14 a (nI k) h := by
  intro cnt
  induction cnt with
  | zero =>
    intro k a hk HQ
    have hk' : k = N := by omega
    subst hk'
    simp only [p_Town_downBits_4]
    rw [hN, pT (Int32.le_refl _)]
    exact ⟨vA_s (show 14 < 84 by decide), rfl, HQ⟩
  | succ cnt ih =>
    intro k a hk HQ
    obtain ⟨n', hn'⟩ : ∃ n', n' = cnt + 1 := ⟨_, rfl⟩
    rw [← hn']
    rw [← hn'] at ih
    simp only [p_Town_downBits_4]
    rw [hN, pF (fun z => by have := (nI_leN (by omega) (by omega)).mp z; omega), isDown14, M k (by omega)]
    refine ⟨vA_s (show 14 < 84 by decide), rfl, inb_nI (by omega) (by omega), ?_⟩
    unfold p_Town_downBits_26
    rw [nI_1]
    have HQ' : Q (tally bS (zB hi) cnt (k + 1) (bS (zB hi k) k a)) h := HQ
    by_cases hz : hi k = 0
    · rw [nT hz]; rw [bS_t hz] at HQ'
      exact (pF (by decide)).mpr (ih (k + 1) _ (by omega) HQ')
    · rw [nF hz]; rw [bS_f hz] at HQ'
      exact (pT rfl).mpr (ih (k + 1) _ (by omega) HQ')
theorem downBits_spec {N : Nat} {hi : Nat → Int32} {Q : Int32 → AH → Prop} {h : AH} (n7 : N ≤ 7) (hN : h.1 14 3 = nI N) (M : rowR N (h.1 15) hi) (HQ : Q (tally bS (zB hi) N 0 0) h) : p_Town_downBits Q 14 h :=
  ⟨N + 1, downBits_loop n7 hN M N 0 0 (by omega) HQ⟩
def downF (N : Nat) (hi : Nat → Int32) : Int32 := tally cS (zB hi) N 0 0
theorem downCount_spec {N : Nat} {hi : Nat → Int32} {Q : Int32 → AH → Prop} {h : AH} (n7 : N ≤ 7) (hN : h.1 14 3 = nI N) (M : rowR N (h.1 15) hi) (HQ : Q (downF N hi) h) : p_Town_downCount Q 14 h := by
  refine ⟨vA_s (show 14 < 84 by decide), rfl, downBits_spec n7 hN M ?_⟩
  rw [bitCount_iff, (tally_eq n7).2]
  exact HQ
theorem stillBits_loop {N : Nat} {mv : Nat → Int32} {Q : Int32 → AH → Prop} {h : AH} (n7 : N ≤ 7) (hN : h.1 14 3 = nI N) (M : rowR N (h.1 20) mv) : ∀ (cnt k : Nat) (a : Int32), k + cnt = N → Q (tally bS (zB mv) cnt k a) h → p_Dusk_stillBits_4 Q (cnt + 1) a (nI k) h := by
  intro cnt
  induction cnt with
  | zero =>
    intro k a hk HQ
    have hk' : k = N := by omega
    subst hk'
    simp only [p_Dusk_stillBits_4]
    rw [hN, pT (Int32.le_refl _)]
    exact HQ
  | succ cnt ih =>
    intro k a hk HQ
    obtain ⟨n', hn'⟩ : ∃ n', n' = cnt + 1 := ⟨_, rfl⟩
    rw [← hn']
    rw [← hn'] at ih
    simp only [p_Dusk_stillBits_4]
    rw [hN, pF (fun z => by have := (nI_leN (by omega) (by omega)).mp z; omega), M k (by omega)]
    refine ⟨inb_nI (by omega) (by omega), ?_⟩
    unfold p_Dusk_stillBits_30
    rw [nI_1]
    have HQ' : Q (tally bS (zB mv) cnt (k + 1) (bS (zB mv k) k a)) h := HQ
    by_cases hz : mv k = 0
    · rw [nT hz]; rw [bS_t hz] at HQ'
      exact ih (k + 1) _ (by omega) HQ'
    · rw [nF hz]; rw [bS_f hz] at HQ'
      exact ih (k + 1) _ (by omega) HQ'
theorem stillBits_spec {N : Nat} {mv : Nat → Int32} {Q : Int32 → AH → Prop} {h : AH} (n7 : N ≤ 7) (hN : h.1 14 3 = nI N) (M : rowR N (h.1 20) mv) (HQ : Q (tally bS (zB mv) N 0 0) h) : p_Dusk_stillBits Q h :=
  ⟨N + 1, stillBits_loop n7 hN M N 0 0 (by omega) HQ⟩
theorem hits_loop {N : Nat} {f : Nat → Int32} {Q : Int32 → AH → Prop} {h : AH} (n7 : N ≤ 7) (hN : h.1 14 3 = nI N) (M : rowR N (h.1 21) f) : ∀ (cnt k : Nat) (a : Int32), k + cnt = N → Q (sumL f cnt k a) h → p_Dusk_hitsTogether_4 Q (cnt + 1) a (nI k) h := by
  intro cnt
  induction cnt with
  | zero =>
    intro k a hk HQ
    have hk' : k = N := by omega
    subst hk'
    simp only [p_Dusk_hitsTogether_4]
    rw [hN, pT (Int32.le_refl _)]
    exact HQ
  | succ cnt ih =>
    intro k a hk HQ
    obtain ⟨n', hn'⟩ : ∃ n', n' = cnt + 1 := ⟨_, rfl⟩
    rw [← hn']
    rw [← hn'] at ih
    simp only [p_Dusk_hitsTogether_4]
    rw [hN, pF (fun z => by have := (nI_leN (by omega) (by omega)).mp z; omega), M k (by omega), nI_1]
    exact ⟨inb_nI (by omega) (by omega), ih (k + 1) _ (by omega) HQ⟩
theorem high_loop {N : Nat} {f : Nat → Int32} {Q : Int32 → AH → Prop} {h : AH} (n7 : N ≤ 7) (hN : h.1 14 3 = nI N) (M : rowR N (h.1 15) f) : ∀ (cnt k : Nat) (a : Int32), k + cnt = N → Q (sumL f cnt k a) h → p_Town_highTogether_4 Q (cnt + 1) 14 a (nI k) h := by
  intro cnt
  induction cnt with
  | zero =>
    intro k a hk HQ
    have hk' : k = N := by omega
    subst hk'
    simp only [p_Town_highTogether_4]
    rw [hN, pT (Int32.le_refl _)]
    exact ⟨vA_s (show 14 < 84 by decide), rfl, HQ⟩
  | succ cnt ih =>
    intro k a hk HQ
    obtain ⟨n', hn'⟩ : ∃ n', n' = cnt + 1 := ⟨_, rfl⟩
    rw [← hn']
    rw [← hn'] at ih
    simp only [p_Town_highTogether_4]
    have e15 : h.1 (rR T1 h 14 0 - 1) (nI k) = f k := M k (by omega)
    rw [hN, pF (fun z => by have := (nI_leN (by omega) (by omega)).mp z; omega), e15, nI_1]
    exact ⟨vA_s (show 14 < 84 by decide), rfl, Nat.succ_pos _, vA_s (show 15 < 84 by decide), rfl, inb_nI (n := 7) (by omega) (by omega), ih (k + 1) _ (by omega) HQ⟩
theorem downNow_loop {N : Nat} {f : Nat → Int32} {Q : Int32 → AH → Prop} {h : AH} (n7 : N ≤ 7) (hN : h.1 59 0 = nI N) (M : rowR N (h.1 78) f) : ∀ (cnt k : Nat) (a : Int32), k + cnt = N → Q (tally cS (zB f) cnt k a) h → p_MO_downNow_4 Q (cnt + 1) a (nI k) h := by
  intro cnt
  induction cnt with
  | zero =>
    intro k a hk HQ
    have hk' : k = N := by omega
    subst hk'
    simp only [p_MO_downNow_4]
    rw [hN, pT (Int32.le_refl _)]
    exact HQ
  | succ cnt ih =>
    intro k a hk HQ
    obtain ⟨n', hn'⟩ : ∃ n', n' = cnt + 1 := ⟨_, rfl⟩
    rw [← hn']
    rw [← hn'] at ih
    simp only [p_MO_downNow_4]
    rw [hN, pF (fun z => by have := (nI_leN (by omega) (by omega)).mp z; omega), M k (by omega)]
    refine ⟨inb_nI (by omega) (by omega), ?_⟩
    unfold p_MO_downNow_27
    rw [nI_1]
    have HQ' : Q (tally cS (zB f) cnt (k + 1) (cS (zB f k) k a)) h := HQ
    by_cases hz : f k = 0
    · rw [nT hz]
      have e1 : cS (zB f k) k a = a + 1 := by simp [cS, zB, hz]
      rw [e1] at HQ'
      exact ih (k + 1) _ (by omega) HQ'
    · rw [nF hz]
      have e1 : cS (zB f k) k a = a + 0 := by simp [cS, zB, hz]
      rw [e1] at HQ'
      exact ih (k + 1) _ (by omega) HQ'
theorem downNow_spec {N : Nat} {f : Nat → Int32} {Q : Int32 → AH → Prop} {h : AH} (n7 : N ≤ 7) (hN : h.1 59 0 = nI N) (M : rowR N (h.1 78) f) (HQ : Q (downF N f) h) : p_MO_downNow Q h :=
  ⟨N + 1, downNow_loop n7 hN M N 0 0 (by omega) HQ⟩
