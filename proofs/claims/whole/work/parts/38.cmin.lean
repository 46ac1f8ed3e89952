/-! pure: the class's side of a minute -/
section CDW
variable {N k : Nat} {x : Int32} {D : DS} {h : AH}
theorem CD.w15 (hN : N ≤ 7) (hk : k < N) (R : CD N D h) : CD N (upN D.hi k x, D.run, D.mv, D.ht, D.lh) (wI h 15 (nI k) x) := ⟨rowR_up (by omega) hk R.hi, R.mv, R.run, R.lh, R.ht⟩
theorem CD.w20 (hN : N ≤ 7) (hk : k < N) (R : CD N D h) : CD N (D.hi, D.run, upN D.mv k x, D.ht, D.lh) (wI h 20 (nI k) x) := ⟨R.hi, rowR_up (by omega) hk R.mv, R.run, R.lh, R.ht⟩
theorem CD.w19 (hN : N ≤ 7) (hk : k < N) (R : CD N D h) : CD N (D.hi, upN D.run k x, D.mv, D.ht, D.lh) (wI h 19 (nI k) x) := ⟨R.hi, R.mv, rowR_up (by omega) hk R.run, R.lh, R.ht⟩
theorem CD.w22 (hN : N ≤ 7) (hk : k < N) (R : CD N D h) : CD N (D.hi, D.run, D.mv, D.ht, upN D.lh k x) (wI h 22 (nI k) x) := ⟨R.hi, R.mv, R.run, rowR_up (by omega) hk R.lh, R.ht⟩
theorem CD.w21 (hN : N ≤ 7) (hk : k < N) (R : CD N D h) : CD N (D.hi, D.run, D.mv, upN D.ht k x, D.lh) (wI h 21 (nI k) x) := ⟨R.hi, R.mv, R.run, R.lh, rowR_up (by omega) hk R.ht⟩
end CDW
theorem sub1_le0 {x : Int32} (h : 0 < x) : x - 1 ≤ 0 ↔ x - 1 = 0 := by
  have e1 : (1 : Int32).toInt = 1 := by decide
  have h1 := Int32.toInt_lt x
  rw [Int32.lt_iff_toInt_lt, Int32.toInt_zero] at h
  have e : (x - 1).toInt = x.toInt - 1 := by
    rw [Int32.toInt_sub, e1]; exact Int.bmod_eq_of_le (by omega) (by omega)
  rw [Int32.le_iff_toInt_le, e, Int32.toInt_zero, ← Int32.toInt_inj, e, Int32.toInt_zero]
  omega
theorem Dusk_sink_spec {E : EV} {h : AH} {k : Nat} {m : Int32} {D : DS} {Q : AH → Prop} (e : E.ok) (R : CRep E h) (M : CD E.N D h) (hk : k < E.N) (hpos : 0 < D.hi k) (HQ : ∀ h', frm SC h h' → CD E.N (sinkF E k m D) h' → Q h') : p_Dusk_sink Q (nI k) m h := by
  have n7 := e.n7
  have i : inb (nI k) 7 := inb_nI (by omega) (by omega)
  refine ⟨i, ?_⟩
  rw [M.hi k hk, M.mv k hk, M.run k hk]
  have f1 : frm SC h (wI (wI (wI h 15 (nI k) (D.hi k - 1)) 20 (nI k) (D.mv k + 1)) 19 (nI k) (D.run k + 1)) := frm_w (frm_w (frm_w frm_rf (by decide)) (by decide)) (by decide)
  have M1 : CD E.N (upN D.hi k (D.hi k - 1), upN D.run k (D.run k + 1), upN D.mv k (D.mv k + 1), D.ht, D.lh) _ := CD.w19 (x := D.run k + 1) n7 hk (CD.w20 (x := D.mv k + 1) n7 hk (CD.w15 (x := D.hi k - 1) n7 hk M))
  have R1 := R.tr f1 (fun _ z => z)
  by_cases h0 : D.hi k - 1 = 0
  · rw [pT ((sub1_le0 hpos).mpr h0)]
    refine Dusk_says_spec (p := 2) e R1 M1 (by decide) hk (fun h2 f2 => ⟨i, ?_⟩)
    have M2 := M1.tr f2
    have ehi : DS.hi (upN D.hi k (D.hi k - 1), upN D.run k (D.run k + 1), upN D.mv k (D.mv k + 1), D.ht, D.lh) k = 0 := upN_s.trans h0
    rw [ehi, M.ht k hk]
    refine HQ _ (frm_w (frm_w (frm_w (frm_tr f1 f2 (fun _ z => z) (by decide)) (by decide)) (by decide)) (by decide)) ?_
    have M3 := CD.w19 (x := 0) n7 hk (CD.w22 (x := m) n7 hk (CD.w21 (x := D.ht k + evF E 2 k 0 m (D.run k + 1)) n7 hk M2))
    unfold sinkF
    rw [if_pos h0, if_pos h0, if_pos h0]
    rw [show upN D.run k 0 = upN (upN D.run k (D.run k + 1)) k 0 from upN_up.symm]
    exact M3
  · rw [pF (fun z => h0 ((sub1_le0 hpos).mp z))]
    refine HQ _ f1 ?_
    unfold sinkF
    rw [if_neg h0, if_neg h0, if_neg h0]
    exact M1
theorem Dusk_rise_spec {E : EV} {h : AH} {k : Nat} {D : DS} {Q : AH → Prop} (e : E.ok) (M : CD E.N D h) (hk : k < E.N) (HQ : ∀ h', frm SC h h' → CD E.N (riseF k D) h' → Q h') : p_Dusk_rise Q (nI k) h := by
  have n7 := e.n7
  have i : inb (nI k) 7 := inb_nI (by omega) (by omega)
  refine ⟨i, ?_⟩
  rw [M.hi k hk, M.mv k hk]
  exact HQ _ (frm_w (frm_w (frm_w frm_rf (by decide)) (by decide)) (by decide)) (CD.w19 n7 hk (CD.w20 n7 hk (CD.w15 n7 hk M)))
theorem Dusk_alone_spec {E : EV} {h : AH} {k : Nat} {m : Int32} {D : DS} {Q : AH → Prop} (e : E.ok) (R : CRep E h) (M : CD E.N D h) (hk : k < E.N) (HQ : ∀ h', frm SC h h' → CD E.N (aloneF E k m D) h' → Q h') : p_Dusk_alone Q (nI k) m h := by
  have n7 := e.n7
  have i : inb (nI k) 7 := inb_nI (by omega) (by omega)
  have rest : ∀ h2, frm SC h h2 → CD E.N D h2 → ¬ aloneP E k m D → p_Dusk_alone_53 Q (nI k) m h2 := fun h2 f M2 hn =>
    (pT rfl).mpr ⟨i, HQ _ (frm_w f (by decide)) (by unfold aloneF; rw [if_neg hn]; exact CD.w19 n7 hk M2)⟩
  unfold p_Dusk_alone
  rw [nI_clamp (by omega)]
  refine ⟨i, ?_⟩
  rw [M.hi k hk]
  by_cases h0 : D.hi k ≤ 0
  · rw [pT h0]
    exact rest h frm_rf M (fun z => absurd z.1 (Int32.not_lt.mpr h0))
  · rw [pF h0]
    refine ⟨(R.ho k hk).1, isFree_spec e R hk ?_⟩
    by_cases hf : freeP E k (D.hi k) m
    · rw [b01_t hf]
      refine (pF (by decide)).mpr ?_
      refine Dusk_weighs_spec e R M hk (fun h5 f5 => ?_)
      have R5 := R.tr f5 (by decide)
      have M5 := M.tr f5
      refine Dusk_holds_spec e R5 M5 hk (fun h7 f7 => ?_)
      have R7 := R5.tr f7 (by decide)
      have M7 := M5.tr f7
      have f57 : frm SC h h7 := frm_tr f5 f7 (by decide) (by decide)
      by_cases hw : weighsF E k (D.hi k) m ≤ holdsF E k (D.hi k) m
      · rw [pT hw]
        exact rest h7 f57 M7 (fun z => absurd z.2.2 (Int32.not_lt.mpr hw))
      · rw [pF hw]
        refine (pF (by decide)).mpr ?_
        refine Dusk_sink_spec e R7 M7 hk (Int32.not_le.mp h0) (fun h8 f8 M8 => HQ h8 (frm_tr f57 f8 (fun _ z => z) (fun _ z => z)) ?_)
        unfold aloneF
        rw [if_pos ⟨Int32.not_le.mp h0, hf, Int32.not_le.mp hw⟩]
        exact M8
    · rw [b01_f hf]
      exact (pT rfl).mpr (rest h frm_rf M (fun z => hf z.2.1))
/-- what a law says of a house lies in 0 .. 999 -/
theorem clip_in {m v : Int32} (hm : 0 ≤ m.toInt) : 0 ≤ (clip m v).toInt ∧ (clip m v).toInt ≤ m.toInt := by
  unfold clip
  by_cases h1 : v < 0
  · rw [if_pos h1, Int32.toInt_zero]; omega
  · rw [if_neg h1]
    rw [Int32.lt_iff_toInt_lt, Int32.toInt_zero] at h1
    by_cases h2 : m < v
    · rw [if_pos h2]; omega
    · rw [if_neg h2]; rw [Int32.lt_iff_toInt_lt] at h2; omega
theorem evF_in {E : EV} {p k : Nat} {hi m sp : Int32} : 0 ≤ (evF E p k hi m sp).toInt ∧ (evF E p k hi m sp).toInt ≤ 999 := by
  have h := clip_in (m := mx p) (v := (runS (nmF (E.told k) (E.people k) (E.more k) hi m sp) (E.c p) []).headD 0) (by unfold mx; by_cases h : p = 0 <;> simp [h])
  refine ⟨h.1, Int.le_trans h.2 ?_⟩
  unfold mx; by_cases h : p = 0 <;> simp [h]
theorem add_in {a b : Int32} {A B : Nat} (ha : 0 ≤ a.toInt ∧ a.toInt ≤ A) (hb : 0 ≤ b.toInt ∧ b.toInt ≤ B) (h : A + B < 100000) : (a + b).toInt = a.toInt + b.toInt := by
  rw [Int32.toInt_add]; exact Int.bmod_eq_of_le (by omega) (by omega)
theorem mul_in {a b : Int32} {A B : Nat} (ha : 0 ≤ a.toInt ∧ a.toInt ≤ A) (hb : 0 ≤ b.toInt ∧ b.toInt ≤ B) (h : A * B < 100000) : (a * b).toInt = a.toInt * b.toInt ∧ 0 ≤ a.toInt * b.toInt ∧ a.toInt * b.toInt ≤ A * B := by
  have h1 : 0 ≤ a.toInt * b.toInt := Int.mul_nonneg ha.1 hb.1
  have h2 : a.toInt * b.toInt ≤ A * B := Int.mul_le_mul ha.2 hb.2 hb.1 (by omega)
  have h3 : ((A * B : Nat) : Int) = (A : Int) * B := Int.natCast_mul A B
  refine ⟨?_, h1, h2⟩
  rw [Int32.toInt_mul]; exact Int.bmod_eq_of_le (by omega) (by omega)
theorem weighsF_in {E : EV} {k : Nat} {hi m : Int32} (e : E.ok) (hk : k < E.N) (hh : 0 ≤ hi.toInt ∧ hi.toInt ≤ 9) : 0 ≤ (weighsF E k hi m).toInt ∧ (weighsF E k hi m).toInt ≤ 5000 := by
  have h1 := evF_in (E := E) (p := 0) (k := k) (hi := hi) (m := m) (sp := 0)
  have h2 := e.more k hk
  have e3 : (3 : Int32).toInt = 3 := by decide
  have e2 : (2 : Int32).toInt = 2 := by decide
  have m1 := mul_in (a := 3) (b := E.more k) (A := 3) (B := 9) (by rw [e3]; omega) ⟨h2.1, by omega⟩ (by decide)
  have m1' : 0 ≤ ((3 : Int32) * E.more k).toInt ∧ ((3 : Int32) * E.more k).toInt ≤ (27 : Nat) := by rw [m1.1]; omega
  have a1 := add_in (A := 999) (B := 27) ⟨h1.1, by omega⟩ m1' (by decide)
  have s1 : 0 ≤ (evF E 0 k hi m 0 + 3 * E.more k).toInt ∧ (evF E 0 k hi m 0 + 3 * E.more k).toInt ≤ (1026 : Nat) := by rw [a1]; omega
  have m2 := mul_in (a := 2) (A := 2) (B := 1026) (by rw [e2]; omega) s1 (by decide)
  have a2 := add_in (A := 999) (B := 9) (a := evF E 0 k hi m 0) ⟨h1.1, by omega⟩ ⟨hh.1, by omega⟩ (by decide)
  unfold weighsF
  by_cases c1 : E.kind k = 1
  · rw [if_pos c1]; omega
  · rw [if_neg c1]
    by_cases c3 : E.kind k = 3
    · rw [if_pos c3]
      by_cases c5 : hi < 5
      · rw [if_pos c5, m2.1]; omega
      · rw [if_neg c5]; omega
    · rw [if_neg c3]
      by_cases c5 : E.kind k = 5
      · rw [if_pos c5, a2]; omega
      · rw [if_neg c5]; omega
theorem sub_in {a b : Int32} (ha : 0 ≤ a.toInt ∧ a.toInt ≤ 5000) (hb : 0 ≤ b.toInt ∧ b.toInt ≤ 5000) : (a - b).toInt = a.toInt - b.toInt := by
  rw [Int32.toInt_sub]; exact Int.bmod_eq_of_le (by omega) (by omega)
