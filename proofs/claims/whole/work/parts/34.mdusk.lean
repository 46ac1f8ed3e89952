/-! pure: a dusk's minute, and the model's side of it -/
def weighsF (E : EV) (k : Nat) (hi m : Int32) : Int32 := if E.kind k = 1 then evF E 0 k hi m 0 + 3 * E.more k else if E.kind k = 3 then (if hi < 5 then 2 * (evF E 0 k hi m 0 + 3 * E.more k) else evF E 0 k hi m 0 + 3 * E.more k) else if E.kind k = 5 then evF E 0 k hi m 0 + hi else evF E 0 k hi m 0
def holdsF (E : EV) (k : Nat) (hi m : Int32) : Int32 := if E.kind k = 2 ∨ E.kind k = 4 then evF E 1 k hi m 0 + E.more k else evF E 1 k hi m 0
abbrev freeP (E : EV) (k : Nat) (hi m : Int32) : Prop := ¬ (E.kind k = 4 ∧ hi = E.more k) ∧ ¬ (E.kind k = 5 ∧ m < E.more k)
def sinkF (E : EV) (k : Nat) (m : Int32) (D : DS) : DS := (upN D.hi k (D.hi k - 1), (if D.hi k - 1 = 0 then upN D.run k 0 else upN D.run k (D.run k + 1)), upN D.mv k (D.mv k + 1), (if D.hi k - 1 = 0 then upN D.ht k (D.ht k + evF E 2 k 0 m (D.run k + 1)) else D.ht), (if D.hi k - 1 = 0 then upN D.lh k m else D.lh))
def restF (k : Nat) (D : DS) : DS := (D.hi, upN D.run k 0, D.mv, D.ht, D.lh)
def riseF (k : Nat) (D : DS) : DS := (upN D.hi k (D.hi k + 1), upN D.run k 0, upN D.mv k (D.mv k + 1), D.ht, D.lh)
abbrev aloneP (E : EV) (k : Nat) (m : Int32) (D : DS) : Prop := 0 < D.hi k ∧ freeP E k (D.hi k) m ∧ holdsF E k (D.hi k) m < weighsF E k (D.hi k) m
def aloneF (E : EV) (k : Nat) (m : Int32) (D : DS) : DS := if aloneP E k m D then sinkF E k m D else restF k D
abbrev pairP (E : EV) (a b dn up : Nat) (df m ct : Int32) (D : DS) : Prop := ct = 0 ∧ holdsF E a (D.hi a) m + holdsF E b (D.hi b) m < df ∧ 0 < D.hi dn ∧ D.hi up < 9 ∧ freeP E a (D.hi a) m ∧ freeP E b (D.hi b) m
def pairG (E : EV) (a b dn up : Nat) (df m ct : Int32) (D : DS) : DS := if pairP E a b dn up df m ct D then riseF up (sinkF E dn m D) else restF b (restF a D)
def pairF (E : EV) (a b : Nat) (m ct : Int32) (D : DS) : DS := if weighsF E a (D.hi a) m ≤ weighsF E b (D.hi b) m then pairG E a b b a (weighsF E b (D.hi b) m - weighsF E a (D.hi a) m) m ct D else pairG E a b a b (weighsF E a (D.hi a) m - weighsF E b (D.hi b) m) m ct D
theorem upN_s {f : Nat → Int32} {k : Nat} {x : Int32} : upN f k x k = x := if_pos rfl
theorem upN_n {f : Nat → Int32} {k j : Nat} {x : Int32} (h : ¬ j = k) : upN f k x j = f j := if_neg h
theorem upN_up {f : Nat → Int32} {k : Nat} {x y : Int32} : upN (upN f k x) k y = upN f k y := by
  funext j; unfold upN; by_cases h : j = k <;> simp [h]
theorem upN_comm {f : Nat → Int32} {k l : Nat} {x y : Int32} (h : ¬ k = l) : upN (upN f k x) l y = upN (upN f l y) k x := by
  funext j; unfold upN
  by_cases h1 : j = k
  · have : ¬ j = l := fun e => h (h1.symm.trans e)
    simp [h1, h]
  · simp [h1]
section MDW
variable {N k : Nat} {x : Int32} {D : DS} {h : AH}
theorem MD.w78 (hN : N ≤ 7) (hk : k < N) (R : MD N D h) : MD N (upN D.hi k x, D.run, D.mv, D.ht, D.lh) (wI h 78 (nI k) x) := ⟨rowR_up (by omega) hk R.hi, R.mv, R.run, R.lh, R.ht⟩
theorem MD.w79 (hN : N ≤ 7) (hk : k < N) (R : MD N D h) : MD N (D.hi, D.run, upN D.mv k x, D.ht, D.lh) (wI h 79 (nI k) x) := ⟨R.hi, rowR_up (by omega) hk R.mv, R.run, R.lh, R.ht⟩
theorem MD.w80 (hN : N ≤ 7) (hk : k < N) (R : MD N D h) : MD N (D.hi, upN D.run k x, D.mv, D.ht, D.lh) (wI h 80 (nI k) x) := ⟨R.hi, R.mv, rowR_up (by omega) hk R.run, R.lh, R.ht⟩
theorem MD.w81 (hN : N ≤ 7) (hk : k < N) (R : MD N D h) : MD N (D.hi, D.run, D.mv, D.ht, upN D.lh k x) (wI h 81 (nI k) x) := ⟨R.hi, R.mv, R.run, rowR_up (by omega) hk R.lh, R.ht⟩
theorem MD.w82 (hN : N ≤ 7) (hk : k < N) (R : MD N D h) : MD N (D.hi, D.run, D.mv, upN D.ht k x, D.lh) (wI h 82 (nI k) x) := ⟨R.hi, R.mv, R.run, R.lh, rowR_up (by omega) hk R.ht⟩
end MDW
theorem MO_weighs_spec {E : EV} {h : AH} {k : Nat} {m : Int32} {D : DS} {Q : Int32 → AH → Prop} (e : E.ok) (R : MRep E h) (M : MD E.N D h) (hk : k < E.N) (HQ : ∀ h', frm [76, 77] h h' → Q (weighsF E k (D.hi k) m) h') : p_MO_weighs Q (nI k) m h := by
  have n7 := e.n7
  have i : inb (nI k) 7 := inb_nI (by omega) (by omega)
  refine ⟨i, ?_⟩
  rw [M.hi k hk]
  refine MO_asksOf_spec (p := 0) e R (by decide) hk (fun h2 f => ⟨i, ?_⟩)
  have H := HQ h2 f
  have R2 := R.tr (keepM_frm f (by decide))
  have M2 := M.tr f
  rw [R2.kind k hk, R2.more k hk, M2.hi k hk]
  unfold weighsF at H
  by_cases h1 : E.kind k = 1
  · rw [nT h1]; rwa [if_pos h1] at H
  · rw [nF h1]; rw [if_neg h1] at H
    by_cases h3 : E.kind k = 3
    · rw [nT h3]; rw [if_pos h3] at H
      by_cases h5 : D.hi k < 5
      · rw [pF (Int32.not_le.mpr h5)]; rwa [if_pos h5] at H
      · rw [pT (Int32.not_lt.mp h5)]; rwa [if_neg h5] at H
    · rw [nF h3]; rw [if_neg h3] at H
      by_cases h5 : E.kind k = 5
      · rw [nT h5]; rwa [if_pos h5] at H
      · rw [nF h5]; rwa [if_neg h5] at H
theorem MO_holdsIt_spec {E : EV} {h : AH} {k : Nat} {m : Int32} {D : DS} {Q : Int32 → AH → Prop} (e : E.ok) (R : MRep E h) (M : MD E.N D h) (hk : k < E.N) (HQ : ∀ h', frm [76, 77] h h' → Q (holdsF E k (D.hi k) m) h') : p_MO_holdsIt Q (nI k) m h := by
  have n7 := e.n7
  have i : inb (nI k) 7 := inb_nI (by omega) (by omega)
  refine ⟨i, ?_⟩
  rw [M.hi k hk]
  refine MO_asksOf_spec (p := 1) e R (by decide) hk (fun h2 f => ⟨i, ?_⟩)
  have H := HQ h2 f
  have R2 := R.tr (keepM_frm f (by decide))
  rw [R2.kind k hk, R2.more k hk]
  unfold holdsF at H
  by_cases h1 : E.kind k = 2
  · rw [pT h1]; rwa [if_pos (Or.inl h1)] at H
  · rw [pF h1]
    by_cases h3 : E.kind k = 4
    · rw [nT h3]; rwa [if_pos (Or.inr h3)] at H
    · rw [nF h3]; rwa [if_neg (by simp [h1, h3])] at H
theorem MO_isFree_spec {E : EV} {h : AH} {k : Nat} {m : Int32} {D : DS} {Q : Int32 → AH → Prop} (e : E.ok) (R : MRep E h) (M : MD E.N D h) (hk : k < E.N) (HQ : Q (b01 (freeP E k (D.hi k) m)) h) : p_MO_isFree Q (nI k) m h := by
  have n7 := e.n7
  refine ⟨inb_nI (by omega) (by omega), ?_⟩
  rw [R.kind k hk, R.more k hk, M.hi k hk]
  by_cases h4 : E.kind k = 4
  · rw [nT h4]
    by_cases h5 : D.hi k = E.more k
    · rw [pT h5]; rwa [b01_f (fun z => z.1 ⟨h4, h5⟩)] at HQ
    · rw [pF h5]; rwa [b01_t ⟨fun z => h5 z.2, fun z => absurd (h4.symm.trans z.1) (by decide)⟩] at HQ
  · rw [nF h4]
    by_cases h5 : E.kind k = 5
    · rw [nT h5]
      by_cases h6 : m < E.more k
      · rw [pT h6]; rwa [b01_f (fun z => z.2 ⟨h5, h6⟩)] at HQ
      · rw [pF h6]; rwa [b01_t ⟨fun z => h4 z.1, fun z => h6 z.2⟩] at HQ
    · rw [nF h5]; rwa [b01_t ⟨fun z => h4 z.1, fun z => h5 z.1⟩] at HQ
theorem MO_goesDown_spec {E : EV} {h : AH} {k : Nat} {m : Int32} {D : DS} {Q : AH → Prop} (e : E.ok) (R : MRep E h) (M : MD E.N D h) (hk : k < E.N) (HQ : ∀ h', frm SM h h' → MD E.N (sinkF E k m D) h' → Q h') : p_MO_goesDown Q (nI k) m h := by
  have n7 := e.n7
  have i : inb (nI k) 7 := inb_nI (by omega) (by omega)
  refine ⟨i, ?_⟩
  rw [M.hi k hk, M.mv k hk, M.run k hk]
  have f1 : frm SM h (wI (wI (wI h 78 (nI k) (D.hi k - 1)) 79 (nI k) (D.mv k + 1)) 80 (nI k) (D.run k + 1)) := frm_w (frm_w (frm_w frm_rf (by decide)) (by decide)) (by decide)
  have M1 : MD E.N (upN D.hi k (D.hi k - 1), upN D.run k (D.run k + 1), upN D.mv k (D.mv k + 1), D.ht, D.lh) _ := MD.w80 (x := D.run k + 1) n7 hk (MD.w79 (x := D.mv k + 1) n7 hk (MD.w78 (x := D.hi k - 1) n7 hk M))
  have R1 := R.tr (keepM_frm f1 (fun _ z => z))
  by_cases h0 : D.hi k - 1 = 0
  · rw [nT h0]
    refine MO_asksOf_spec (p := 2) e R1 (by decide) hk (fun h2 f2 => ⟨i, ?_⟩)
    have M2 := M1.tr f2
    rw [M.ht k hk]
    refine HQ _ (frm_w (frm_w (frm_w (frm_tr f1 f2 (fun _ z => z) (by decide)) (by decide)) (by decide)) (by decide)) ?_
    have M3 := MD.w80 (x := 0) n7 hk (MD.w81 (x := m) n7 hk (MD.w82 (x := D.ht k + evF E 2 k 0 m (D.run k + 1)) n7 hk M2))
    unfold sinkF
    rw [if_pos h0, if_pos h0, if_pos h0]
    rw [show upN D.run k 0 = upN (upN D.run k (D.run k + 1)) k 0 from upN_up.symm]
    exact M3
  · rw [nF h0]
    refine HQ _ f1 ?_
    unfold sinkF
    rw [if_neg h0, if_neg h0, if_neg h0]
    exact M1
theorem MO_alone_spec {E : EV} {h : AH} {k : Nat} {m : Int32} {D : DS} {Q : AH → Prop} (e : E.ok) (R : MRep E h) (M : MD E.N D h) (hk : k < E.N) (HQ : ∀ h', frm SM h h' → MD E.N (aloneF E k m D) h' → Q h') : p_MO_alone Q (nI k) m h := by
  have n7 := e.n7
  have i : inb (nI k) 7 := inb_nI (by omega) (by omega)
  have rest : ∀ h2, frm SM h h2 → MD E.N D h2 → ¬ aloneP E k m D → Q (wI h2 80 (nI k) 0) := fun h2 f M2 hn =>
    HQ _ (frm_w f (by decide)) (by unfold aloneF; rw [if_neg hn]; exact MD.w80 n7 hk M2)
  refine ⟨i, ?_⟩
  rw [M.hi k hk]
  by_cases h0 : D.hi k ≤ 0
  · rw [pT h0]
    exact rest h frm_rf M (fun z => absurd z.1 (Int32.not_lt.mpr h0))
  · rw [pF h0]
    refine MO_isFree_spec e R M hk ?_
    by_cases hf : freeP E k (D.hi k) m
    · rw [b01_t hf, pF (by decide)]
      refine MO_weighs_spec e R M hk (fun h5 f5 => ?_)
      have R5 := R.tr (keepM_frm f5 (by decide))
      have M5 := M.tr f5
      refine MO_holdsIt_spec e R5 M5 hk (fun h7 f7 => ?_)
      have R7 := R5.tr (keepM_frm f7 (by decide))
      have M7 := M5.tr f7
      have f57 : frm SM h h7 := frm_tr f5 f7 (by decide) (by decide)
      by_cases hw : weighsF E k (D.hi k) m ≤ holdsF E k (D.hi k) m
      · rw [pT hw]
        exact ⟨i, rest h7 f57 M7 (fun z => absurd z.2.2 (Int32.not_lt.mpr hw))⟩
      · rw [pF hw]
        refine MO_goesDown_spec e R7 M7 hk (fun h8 f8 M8 => HQ h8 (frm_tr f57 f8 (fun _ z => z) (fun _ z => z)) ?_)
        unfold aloneF
        rw [if_pos ⟨Int32.not_le.mp h0, hf, Int32.not_le.mp hw⟩]
        exact M8
    · rw [b01_f hf, pT rfl]
      exact ⟨i, rest h frm_rf M (fun z => hf z.2.1)⟩
