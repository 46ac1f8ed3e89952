/-! pure: the class's side of a dusk: what a law says, what weighs, what holds -/
def SC : List Nat := [15, 19, 20, 21, 22, 23, 24]
def kindC (k : Int32) : Nat := if k = 1 then 3 else if k = 2 then 1 else if k = 3 then 0 else if k = 4 then 9 else if k = 5 then 5 else 4
def CT (h : AH) (t : Nat) (c : Nat → List Int32) : Prop := (∀ p, p < 4 → h.1 (35 + 3 * t) (nI p) = nI (offC c p)) ∧ (∀ p, p < 3 → ∀ j, j < (c p).length → h.1 (34 + 3 * t) (nI (offC c p + j)) = mapC ((c p).getD j 0))
/-- object a is a house of that kind, told, more -/
def isHo (h : AH) (a : Nat) (kind told more : Int32) : Prop := famA T1 h a ∧ (rS T1 h a).1 = kindC kind ∧ h.1 a 0 = kind ∧ h.1 a 1 = told ∧ h.1 a 2 = more
def CRep (E : EV) (h : AH) : Prop := h.1 14 3 = nI E.N ∧ rowR E.N (h.1 16) E.people ∧ rowR E.N (h.1 17) E.partner ∧ (∀ k, k < E.N → 0 < rR T1 h 18 k ∧ isHo h (rR T1 h 18 k - 1) (E.kind k) (E.told k) (E.more k)) ∧ ∃ t, t < 6 ∧ rR T1 h 13 8 = 33 + 3 * t + 1 ∧ CT h t E.c
theorem CRep.n {E : EV} {h : AH} (R : CRep E h) : h.1 14 3 = nI E.N := R.1
theorem CRep.people {E : EV} {h : AH} (R : CRep E h) : rowR E.N (h.1 16) E.people := R.2.1
theorem CRep.partner {E : EV} {h : AH} (R : CRep E h) : rowR E.N (h.1 17) E.partner := R.2.2.1
theorem CRep.ho {E : EV} {h : AH} (R : CRep E h) : ∀ k, k < E.N → 0 < rR T1 h 18 k ∧ isHo h (rR T1 h 18 k - 1) (E.kind k) (E.told k) (E.more k) := R.2.2.2.1
theorem CRep.text {E : EV} {h : AH} (R : CRep E h) : ∃ t, t < 6 ∧ rR T1 h 13 8 = 33 + 3 * t + 1 ∧ CT h t E.c := R.2.2.2.2
def CD (N : Nat) (D : DS) (h : AH) : Prop := rowR N (h.1 15) D.hi ∧ rowR N (h.1 20) D.mv ∧ rowR N (h.1 19) D.run ∧ rowR N (h.1 22) D.lh ∧ rowR N (h.1 21) D.ht
theorem CD.hi {N : Nat} {D : DS} {h : AH} (R : CD N D h) : rowR N (h.1 15) D.hi := R.1
theorem CD.mv {N : Nat} {D : DS} {h : AH} (R : CD N D h) : rowR N (h.1 20) D.mv := R.2.1
theorem CD.run {N : Nat} {D : DS} {h : AH} (R : CD N D h) : rowR N (h.1 19) D.run := R.2.2.1
theorem CD.lh {N : Nat} {D : DS} {h : AH} (R : CD N D h) : rowR N (h.1 22) D.lh := R.2.2.2.1
theorem CD.ht {N : Nat} {D : DS} {h : AH} (R : CD N D h) : rowR N (h.1 21) D.ht := R.2.2.2.2
theorem rR_2 {h h' : AH} {a k : Nat} (e : h'.2 = h.2) : rR T1 h' a k = rR T1 h a k := by unfold rR; rw [e]
theorem rS_2 {h h' : AH} {a : Nat} (e : h'.2 = h.2) : rS T1 h' a = rS T1 h a := by unfold rS; rw [e]
theorem vA_2 {h h' : AH} {a : Nat} (e : h'.2 = h.2) (H : vA T1 h a) : vA T1 h' a := by unfold vA nC; rw [e]; exact H
theorem famA_2 {h h' : AH} {a : Nat} (e : h'.2 = h.2) (H : famA T1 h a) : famA T1 h' a := ⟨vA_2 e H.1, by rw [rS_2 e]; exact H.2⟩
/-- a house lies apart from every row of numbers -/
theorem isHo_ne {h : AH} {a b n : Nat} (H : famA T1 h a) (hb : rS T1 h b = (100, n)) : ¬ a = b := fun z => by
  have h2 := H.2
  rw [z, hb] at h2
  have h3 : famP 100 := h2
  rcases h3 with h3 | h3 | h3 | h3 | h3 | h3 <;> exact absurd h3 (by decide)
theorem isHo_SC {h : AH} {a : Nat} (H : famA T1 h a) : a ∉ SC := fun z => by
  simp only [SC, List.mem_cons, List.not_mem_nil, or_false] at z
  rcases z with z | z | z | z | z | z | z
  · exact isHo_ne (b := 15) (n := 7) H rfl z
  · exact isHo_ne (b := 19) (n := 7) H rfl z
  · exact isHo_ne (b := 20) (n := 7) H rfl z
  · exact isHo_ne (b := 21) (n := 7) H rfl z
  · exact isHo_ne (b := 22) (n := 7) H rfl z
  · exact isHo_ne (b := 23) (n := 6) H rfl z
  · exact isHo_ne (b := 24) (n := 160) H rfl z
theorem CRep.tr {E : EV} {S : List Nat} {h h' : AH} (R : CRep E h) (f : frm S h h') (hS : ∀ x ∈ S, x ∈ SC) : CRep E h' := by
  have g : ∀ b, b ∉ SC → h'.1 b = h.1 b := fun b hb => f.2 b (fun z => hb (hS b z))
  obtain ⟨t, h1, h2, h3⟩ := R.text
  refine ⟨by rw [g 14 (by decide)]; exact R.n, by rw [g 16 (by decide)]; exact R.people, by rw [g 17 (by decide)]; exact R.partner, fun k hk => ?_, t, h1, by rw [rR_2 f.1]; exact h2, ?_, ?_⟩
  · obtain ⟨a1, a2, a3, a4, a5, a6⟩ := R.ho k hk
    rw [rR_2 f.1]
    have e := g _ (isHo_SC a2)
    exact ⟨a1, famA_2 f.1 a2, by rw [rS_2 f.1]; exact a3, by rw [e]; exact a4, by rw [e]; exact a5, by rw [e]; exact a6⟩
  · have : (35 + 3 * t) ∉ SC := fun z => by simp only [SC, List.mem_cons, List.not_mem_nil, or_false] at z; omega
    rw [g _ this]; exact h3.1
  · have : (34 + 3 * t) ∉ SC := fun z => by simp only [SC, List.mem_cons, List.not_mem_nil, or_false] at z; omega
    rw [g _ this]; exact h3.2
theorem CD.tr {N : Nat} {D : DS} {h h' : AH} (R : CD N D h) (f : frm [23, 24] h h') : CD N D h' :=
  ⟨by rw [f.2 15 (by decide)]; exact R.hi, by rw [f.2 20 (by decide)]; exact R.mv, by rw [f.2 19 (by decide)]; exact R.run, by rw [f.2 22 (by decide)]; exact R.lh, by rw [f.2 21 (by decide)]; exact R.ht⟩
theorem Law_answer_spec {h : AH} {t p : Nat} {c : Nat → List Int32} {Q : Int32 → AH → Prop} (ht : t < 6) (hp : p < 3) (hT : CT h t c) (hl : offC c 3 ≤ 160) (hw : wfS (c p) 0)
    (HQ : ∀ h', frm [24] h h' → Q (clip (mx p) ((runS (h.1 23) (c p) []).headD 0)) h') : p_Law_answer Q (33 + 3 * t) (nI p) 23 24 h := by
  unfold p_Law_answer
  rw [UF_within_iff]
  have hb : (0 : Int32) ≤ nI p ∧ nI p ≤ 2 := ⟨(nI_leN (a := 0) (by decide) (by omega)).mpr (Nat.zero_le _), (nI_leN (b := 2) (by omega) (by decide)).mpr (by omega)⟩
  rw [b01_t hb]
  refine (nF (by decide)).mpr ?_
  obtain ⟨l1, l2, l3, l4, l5, l6, l7, l8⟩ := lawT ht h
  rw [l4, Nat.add_sub_cancel, l8, hT.1 p (by omega)]
  have hl2 : offC c p + (c p).length ≤ 160 := Nat.le_trans (offC_le (p := p + 1) (q := 3) (by omega)) hl
  refine ⟨l1, l2, Nat.succ_pos _, l7, rfl, inb_nI (by omega) (by omega), (c p).length + 1, ?_⟩
  refine Law_loop (b := offC c p + (c p).length) ht hp hl2 (c p) _ [] h rfl (hT.1 (p + 1) (by omega)) (hT.2 p hp) hw (by simp only [List.length_nil]; omega) trivial (fun v h' hf hrun => ?_)
  have H := HQ h' hf
  rwa [hrun] at H
theorem Dusk_says_spec {E : EV} {h : AH} {D : DS} {p k : Nat} {m sp : Int32} {Q : Int32 → AH → Prop} (e : E.ok) (R : CRep E h) (M : CD E.N D h) (hp : p < 3) (hk : k < E.N) (HQ : ∀ h', frm [23, 24] h h' → Q (evF E p k (D.hi k) m sp) h') : p_Dusk_says Q (nI p) (nI k) m sp h := by
  have n7 := e.n7
  obtain ⟨t, ht, h13, hT⟩ := R.text
  obtain ⟨a1, a2, a3, a4, a5, a6⟩ := R.ho k hk
  obtain ⟨l1, l2, l3, l4, l5, l6, l7, l8⟩ := lawT ht h
  have ne := isHo_SC a2
  have ne23 : ¬ rR T1 h 18 k - 1 = 23 := fun z => ne (by rw [z]; decide)
  unfold p_Dusk_says
  rw [nI_clamp (by omega), h13, Nat.add_sub_cancel]
  refine ⟨inb_nI (by omega) (by omega), a1, a2, Nat.succ_pos _, l1, l2, ?_⟩
  have e2 : (wI (wI h 23 0 (h.1 (rR T1 h 18 k - 1) 1)) 23 1 (h.1 16 (nI k))).1 (rR T1 h 18 k - 1) 2 = E.more k := by
    rw [wI_r, if_neg ne23, wI_r, if_neg ne23]; exact a6
  rw [e2, a5, R.people k hk, M.hi k hk]
  have fw : frm [23, 24] h (wI (wI (wI (wI (wI (wI h 23 0 (E.told k)) 23 1 (E.people k)) 23 2 (E.more k)) 23 3 (D.hi k)) 23 4 m) 23 5 sp) := frm_w (frm_w (frm_w (frm_w (frm_w (frm_w frm_rf (by decide)) (by decide)) (by decide)) (by decide)) (by decide)) (by decide)
  have hT' : CT (wI (wI (wI (wI (wI (wI h 23 0 (E.told k)) 23 1 (E.people k)) 23 2 (E.more k)) 23 3 (D.hi k)) 23 4 m) 23 5 sp) t E.c := by
    have g1 : (35 + 3 * t) ∉ [23, 24] := fun z => by simp only [List.mem_cons, List.not_mem_nil, or_false] at z; omega
    have g2 : (34 + 3 * t) ∉ [23, 24] := fun z => by simp only [List.mem_cons, List.not_mem_nil, or_false] at z; omega
    exact ⟨by rw [fw.2 _ g1]; exact hT.1, by rw [fw.2 _ g2]; exact hT.2⟩
  refine Law_answer_spec ht hp hT' e.len (e.wf p hp) (fun h' hf => ?_)
  have H := HQ h' (frm_tr fw hf (fun _ z => z) (by decide))
  unfold evF at H
  rw [runS_congr (nm' := (wI (wI (wI (wI (wI (wI h 23 0 (E.told k)) 23 1 (E.people k)) 23 2 (E.more k)) 23 3 (D.hi k)) 23 4 m) 23 5 sp).1 23) (fun i i0 i6 => by rcases sml6 i0 i6 with rfl | rfl | rfl | rfl | rfl | rfl <;> rfl) (E.c p) [] 0 (e.wf p hp)] at H
  exact H
theorem kW_eq {E : EV} {k : Nat} {hi r : Int32} (hk : 0 ≤ (E.kind k).toInt ∧ (E.kind k).toInt < 6) : kW (kindC (E.kind k)) (E.more k) r hi = if E.kind k = 1 then r + 3 * E.more k else if E.kind k = 3 then (if hi < 5 then 2 * (r + 3 * E.more k) else r + 3 * E.more k) else if E.kind k = 5 then r + hi else r := by
  rcases sml6 hk.1 hk.2 with z | z | z | z | z | z <;> rw [z] <;> rfl
theorem kH_eq {E : EV} {k : Nat} {r : Int32} (hk : 0 ≤ (E.kind k).toInt ∧ (E.kind k).toInt < 6) : kH (kindC (E.kind k)) (E.more k) r = if E.kind k = 2 ∨ E.kind k = 4 then r + E.more k else r := by
  rcases sml6 hk.1 hk.2 with z | z | z | z | z | z <;> rw [z] <;> rfl
theorem kF_eq {E : EV} {k : Nat} {hi m : Int32} (hk : 0 ≤ (E.kind k).toInt ∧ (E.kind k).toInt < 6) : kF (kindC (E.kind k)) (E.more k) hi m = b01 (freeP E k hi m) := by
  have d : ∀ a b : Int32, a ≠ b → ¬ a = b := fun _ _ z => z
  unfold freeP b01
  rcases sml6 hk.1 hk.2 with z | z | z | z | z | z <;> rw [z]
  · simp [kindC, kF]
  · simp [kindC, kF]
  · simp [kindC, kF]
  · simp [kindC, kF]
  · by_cases h1 : hi = E.more k <;> simp [kindC, kF, h1]
  · by_cases h1 : m < E.more k
    · rw [if_neg (fun w => w.2 ⟨rfl, h1⟩)]; show (if m < E.more k then (0 : Int32) else 1) = 0; rw [if_pos h1]
    · rw [if_pos ⟨fun w => absurd w.1 (by decide), fun w => h1 w.2⟩]; show (if m < E.more k then (0 : Int32) else 1) = 1; rw [if_neg h1]
theorem Dusk_weighs_spec {E : EV} {h : AH} {k : Nat} {m : Int32} {D : DS} {Q : Int32 → AH → Prop} (e : E.ok) (R : CRep E h) (M : CD E.N D h) (hk : k < E.N) (HQ : ∀ h', frm [23, 24] h h' → Q (weighsF E k (D.hi k) m) h') : p_Dusk_weighs Q (nI k) m h := by
  have n7 := e.n7
  have i : inb (nI k) 7 := inb_nI (by omega) (by omega)
  unfold p_Dusk_weighs
  rw [nI_clamp (by omega)]
  refine ⟨i, (R.ho k hk).1, ?_⟩
  refine Dusk_says_spec (p := 0) e R M (by decide) hk (fun h2 f => ⟨i, ?_⟩)
  have R2 := R.tr f (by decide)
  have M2 := M.tr f
  obtain ⟨a1, a2, a3, a4, a5, a6⟩ := R2.ho k hk
  rw [← rR_2 f.1, M2.hi k hk]
  refine ⟨a2, ?_⟩
  rw [a3, a6, kW_eq (e.kind k hk)]
  exact HQ h2 f
theorem Dusk_holds_spec {E : EV} {h : AH} {k : Nat} {m : Int32} {D : DS} {Q : Int32 → AH → Prop} (e : E.ok) (R : CRep E h) (M : CD E.N D h) (hk : k < E.N) (HQ : ∀ h', frm [23, 24] h h' → Q (holdsF E k (D.hi k) m) h') : p_Dusk_holds Q (nI k) m h := by
  have n7 := e.n7
  have i : inb (nI k) 7 := inb_nI (by omega) (by omega)
  unfold p_Dusk_holds
  rw [nI_clamp (by omega)]
  refine ⟨i, (R.ho k hk).1, ?_⟩
  refine Dusk_says_spec (p := 1) e R M (by decide) hk (fun h2 f => ?_)
  have R2 := R.tr f (by decide)
  obtain ⟨a1, a2, a3, a4, a5, a6⟩ := R2.ho k hk
  rw [← rR_2 f.1]
  refine ⟨a2, ?_⟩
  rw [a3, a6, kH_eq (e.kind k hk)]
  exact HQ h2 f
theorem isFree_spec {E : EV} {h : AH} {k : Nat} {hi m : Int32} {Q : Int32 → AH → Prop} (e : E.ok) (R : CRep E h) (hk : k < E.N) (HQ : Q (b01 (freeP E k hi m)) h) : pv_isFree Q (rR T1 h 18 k - 1) hi m h := by
  obtain ⟨a1, a2, a3, a4, a5, a6⟩ := R.ho k hk
  refine ⟨a2, ?_⟩
  rw [a3, a6, kF_eq (e.kind k hk)]
  exact HQ
