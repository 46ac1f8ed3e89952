/-! pure: what one side's E is to the other's -/
def rqI (i : Nat) : Nat := if i = 2 then 4 else if i = 3 then 4 else if i = 6 then 8 else i + 1
def PreI (i : Nat) (m : Bool) (H : List Int32) (K : Int32) : Prop := (i ≤ 2 → m = true) ∧ (3 ≤ i → m = true → ¬ K = 6) ∧ lowT (rqI i) H
def SimOK (b : Nat → Int32) (L i od p p' : Nat) (e : List Int32) : Prop := ∀ t Q h0 m H o, PreI i m H (tkK b L p) → (∀ m' Hm opm om, unw (i + 1) Hm opm om = unw (i + 1) H (nI od) (o ++ e) → (i ≤ 3 → (tkK b L p' = 60 ∨ tkK b L p' = 61) → topC (unw 5 Hm opm om).1) → Gd b L t Q h0 p' false m' Hm opm om) → Gd b L t Q h0 p true m H (nI od) o
def SimF (b : Nat → Int32) (L i od p s : Nat) : Prop := s ≤ L ∧ ∀ t Q h0 m H o, PreI i m H (tkK b L p) → QF t Q h0 s → Gd b L t Q h0 p true m H (nI od) o
def exC (e : List Int32) : Prop := ∀ d rest, wfS rest (d + 1) → wfS (e ++ rest) d
def StopI (i : Nat) (K : Int32) : Prop := (i ≤ 5 → ¬ K = 42) ∧ (i ≤ 4 → ¬ K = 43 ∧ ¬ K = 45) ∧ (i ≤ 1 → ¬ K = 5) ∧ (i ≤ 0 → ¬ K = 4)
def PostOK (b : Nat → Int32) (L i od p p' : Nat) (e : List Int32) : Prop := (p + e.length ≤ p' ∧ p < p' ∧ p' ≤ L) ∧ exC e ∧ StopI i (tkK b L p') ∧ SimOK b L i od p p' e
theorem exC_push {c : Int32} (h : pushC c) : exC [c] := fun d rest hr => Or.inl ⟨h, hr⟩
theorem exC_un {e : List Int32} {c : Int32} (he : exC e) (h : unC c) : exC (e ++ [c]) := fun d rest hr => by
  rw [List.append_assoc]
  exact he d _ (Or.inr (Or.inl ⟨h, by omega, hr⟩))
theorem exC_bin {e e2 : List Int32} {c : Int32} (he : exC e) (he2 : exC e2) (h : binC c) : exC (e ++ e2 ++ [c]) := fun d rest hr => by
  rw [List.append_assoc, List.append_assoc]
  exact he d _ (he2 (d + 1) _ (Or.inr (Or.inr ⟨h, by omega, hr⟩)))
theorem unw_eq {l l' : Nat} (hl : l ≤ l') {H H2 : List Int32} {op op2 : Int32} {o o2 : List Int32} (h : unw l' H op o = unw l' H2 op2 o2) : unw l H op o = unw l H2 op2 o2 := by
  rw [← unw_unw hl H op o, ← unw_unw hl H2 op2 o2, h]
section SIMS
variable {b : Nat → Int32} {L : Nat}
/-- one level up: nothing of that level's own signs stands there -/
theorem SimOK_up {i od p p' : Nat} {e : List Int32} (hi : i = 0 ∨ i = 1 ∨ i = 2 ∨ i = 4 ∨ i = 5) (h6 : i = 2 → ¬ tkK b L p = 6) (S : SimOK b L (i + 1) od p p' e) : SimOK b L i od p p' e := by
  intro t Q h0 m H o P G
  refine S t Q h0 m H o ⟨fun z => P.1 (by omega), fun z zm => ?_, ?_⟩ (fun m' Hm opm om hu hc => G m' Hm opm om (unw_eq (by omega) hu) (fun z => hc (by omega)))
  · rcases hi with e | e | e | e | e
    · omega
    · omega
    · exact h6 e
    · exact P.2.1 (by omega) zm
    · exact P.2.1 (by omega) zm
  · refine lowT_le ?_ P.2.2
    rcases hi with rfl | rfl | rfl | rfl | rfl <;> decide
theorem SimF_up {i od p s : Nat} (hi : i = 0 ∨ i = 1 ∨ i = 2 ∨ i = 3 ∨ i = 4 ∨ i = 5) (h6 : i = 2 → ¬ tkK b L p = 6) (S : SimF b L (i + 1) od p s) : SimF b L i od p s := by
  refine ⟨S.1, fun t Q h0 m H o P F => ?_⟩
  refine S.2 t Q h0 m H o ⟨fun z => P.1 (by omega), fun z zm => ?_, ?_⟩ F
  · rcases hi with e | e | e | e | e | e
    · omega
    · omega
    · exact h6 e
    · exact P.2.1 (by omega) zm
    · exact P.2.1 (by omega) zm
    · exact P.2.1 (by omega) zm
  · refine lowT_le ?_ P.2.2
    rcases hi with rfl | rfl | rfl | rfl | rfl | rfl <;> decide
theorem SimOK_cmp0 {od p p' : Nat} {e : List Int32} (hk : ¬ (tkK b L p' = 60 ∨ tkK b L p' = 61)) (S : SimOK b L 4 od p p' e) : SimOK b L 3 od p p' e := by
  intro t Q h0 m H o P G
  exact S t Q h0 m H o ⟨fun z => absurd z (by omega), fun _ => P.2.1 (by omega), lowT_le (by decide) P.2.2⟩ (fun m' Hm opm om hu hc => G m' Hm opm om (unw_eq (by omega) hu) (fun _ z => absurd z hk))
/-- a sign between two of level i + 1 -/
abbrev sgI (i : Nat) (sg : Int32) : Prop := (i = 0 ∧ sg = 11) ∨ (i = 1 ∧ sg = 12) ∨ (i = 4 ∧ (sg = 16 ∨ sg = 17)) ∨ (i = 5 ∧ sg = 18)
theorem sgI_ok {i : Nat} {sg : Int32} (h : sgI i sg) : rk sg = i + 1 ∧ lvS sg = i + 1 ∧ ¬ rk sg = 4 ∧ ¬ sg = -1 ∧ (∀ op, opx sg op = op) ∧ binC sg ∧ rqI i = i + 1 ∧ i + 1 < rqI (i + 1) ∧ (i + 1 ≤ 2 → ¬ 12 < sg) ∧ (3 ≤ i + 1 → 12 < sg) := by
  have k : ∀ x op : Int32, ¬ x = 13 → ¬ x = 19 → opx x op = op := fun x op h1 h2 => if_neg (fun z => z.elim h1 h2)
  rcases h with ⟨rfl, rfl⟩ | ⟨rfl, rfl⟩ | ⟨rfl, rfl | rfl⟩ | ⟨rfl, rfl⟩
  · exact ⟨by decide, by decide, by decide, by decide, fun op => k _ _ (by decide) (by decide), Or.inl rfl, by decide, by decide, fun _ => by decide, fun z => absurd z (by omega)⟩
  · exact ⟨by decide, by decide, by decide, by decide, fun op => k _ _ (by decide) (by decide), Or.inr (Or.inl rfl), by decide, by decide, fun _ => by decide, fun z => absurd z (by omega)⟩
  · exact ⟨by decide, by decide, by decide, by decide, fun op => k _ _ (by decide) (by decide), by unfold binC; decide, by decide, by decide, fun z => absurd z (by omega), fun _ => by decide⟩
  · exact ⟨by decide, by decide, by decide, by decide, fun op => k _ _ (by decide) (by decide), by unfold binC; decide, by decide, by decide, fun z => absurd z (by omega), fun _ => by decide⟩
  · exact ⟨by decide, by decide, by decide, by decide, fun op => k _ _ (by decide) (by decide), by unfold binC; decide, by decide, by decide, fun z => absurd z (by omega), fun _ => by decide⟩
theorem sgF_59 {K sg : Int32} (h : sgF K = sg) (hs : ¬ sg = -1) : ¬ K = 59 ∧ ¬ K = 41 := ⟨fun z => hs (by rw [← h, z]; decide), fun z => hs (by rw [← h, z]; decide)⟩
/-- after the sign: the model stands ahead of the second one -/
theorem Gd_after {i od p q t : Nat} {Q : Int32 → AH → Prop} {h0 : AH} {m : Bool} {H o e : List Int32} {sg : Int32} (hL : L ≤ 160) (hsg : sgI i sg) (hK : sgF (tkK b L q) = sg) (P : PreI i m H (tkK b L p)) (S : SimOK b L i od p q e) (G : ∀ m1, PreI (i + 1) m1 (sg :: H) (tkK b L (tkE b L q)) → Gd b L t Q h0 (tkE b L q) true m1 (sg :: H) (nI od) (o ++ e)) : Gd b L t Q h0 p true m H (nI od) o := by
  obtain ⟨r1, r2, r3, r4, r5, r6, r7, r8, r9, r10⟩ := sgI_ok hsg
  have lo : lowT (i + 1) H := by have := P.2.2; rwa [r7] at this
  refine S t Q h0 m H o P (fun m' Hm opm om hu hc => ?_)
  obtain ⟨k59, k41⟩ := sgF_59 hK r4
  rw [unw_low lo] at hu
  refine Gd_sign hL hK r4 k59 k41 (fun z => absurd z r3) (fun _ => ?_)
  rw [r2, hu]
  refine G _ ⟨fun z => ?_, fun z zm => ?_, ?_⟩
  · have := r9 (by omega); simp [this]
  · have := r10 (by omega); simp [this] at zm
  · show rk sg < rqI (i + 1)
    rw [r1]; exact r8
theorem SimOK_bin {i od p q r : Nat} {e e2 : List Int32} {sg : Int32} (hL : L ≤ 160) (hsg : sgI i sg) (hK : sgF (tkK b L q) = sg) (S : SimOK b L i od p q e) (S2 : SimOK b L (i + 1) od (tkE b L q) r e2) : SimOK b L i od p r (e ++ e2 ++ [sg]) := by
  intro t Q h0 m H o P G
  obtain ⟨r1, r2, r3, r4, r5, r6, r7, r8, r9, r10⟩ := sgI_ok hsg
  refine Gd_after hL hsg hK P S (fun m1 P1 => ?_)
  refine S2 t Q h0 m1 (sg :: H) (o ++ e) P1 (fun m' Hm opm om hu hc => G m' Hm opm om ?_ (fun z => hc ?_))
  · rw [unw_eq (by omega) hu]
    have e1 : unw (i + 1) (sg :: H) (nI od) (o ++ e ++ e2) = unw (i + 1) H (opx sg (nI od)) (o ++ e ++ e2 ++ [sg]) := if_neg (by omega)
    rw [e1, r5, List.append_assoc o e e2, List.append_assoc o]
  · have := hsg
    rcases hsg with ⟨rfl, _⟩ | ⟨rfl, _⟩ | ⟨rfl, _⟩ | ⟨rfl, _⟩ <;> omega
theorem SimF_bin {i od p q s : Nat} {e : List Int32} {sg : Int32} (hL : L ≤ 160) (hsg : sgI i sg) (hK : sgF (tkK b L q) = sg) (S : SimOK b L i od p q e) (S2 : SimF b L (i + 1) od (tkE b L q) s) : SimF b L i od p s := by
  refine ⟨S2.1, fun t Q h0 m H o P F => ?_⟩
  exact Gd_after hL hsg hK P S (fun m1 P1 => S2.2 t Q h0 m1 (sg :: H) (o ++ e) P1 F)
/-! < and = -/
theorem Gd_afterC {od p q t : Nat} {Q : Int32 → AH → Prop} {h0 : AH} {m : Bool} {H o e : List Int32} {sg : Int32} (hL : L ≤ 160) (hsg : sg = 14 ∨ sg = 15) (hK : sgF (tkK b L q) = sg) (P : PreI 3 m H (tkK b L p)) (S : SimOK b L 4 od p q e) (G : PreI 4 false (sg :: H) (tkK b L (tkE b L q)) → Gd b L t Q h0 (tkE b L q) true false (sg :: H) (nI od) (o ++ e)) : Gd b L t Q h0 p true m H (nI od) o := by
  have r4 : ¬ sg = -1 ∧ rk sg = 4 ∧ lvS sg = 5 ∧ decide (¬ 12 < sg) = false := by rcases hsg with rfl | rfl <;> decide
  obtain ⟨r4, r1, r2, r3⟩ := r4
  have lo : lowT 4 H := P.2.2
  refine S t Q h0 m H o ⟨fun z => absurd z (by omega), fun _ => P.2.1 (by omega), lowT_le (by decide) P.2.2⟩ (fun m' Hm opm om hu hc => ?_)
  obtain ⟨k59, k41⟩ := sgF_59 hK r4
  have hu5 : unw 5 Hm opm om = (H, nI od, o ++ e) := hu.trans (unw_low (lowT_le (by decide) lo))
  refine Gd_sign hL hK r4 k59 k41 (fun _ z => ?_) (fun _ => ?_)
  · rw [hu5] at z
    cases H with
    | nil => exact z.elim
    | cons x H => have z1 : rk x = 4 := z
                  have z2 : rk x < 4 := lo
                  omega
  · rw [r2, hu5, r3]
    refine G ⟨fun z => absurd z (by omega), fun _ z => absurd z (by decide), ?_⟩
    show rk sg < rqI 4
    rw [r1]; decide
theorem SimOK_cmp {od p q r : Nat} {e e2 : List Int32} {sg : Int32} (hL : L ≤ 160) (hsg : sg = 14 ∨ sg = 15) (hK : sgF (tkK b L q) = sg) (S : SimOK b L 4 od p q e) (S2 : SimOK b L 4 od (tkE b L q) r e2) : SimOK b L 3 od p r (e ++ e2 ++ [sg]) := by
  intro t Q h0 m H o P G
  have r1 : rk sg = 4 ∧ ∀ op, opx sg op = op := by
    rcases hsg with rfl | rfl
    · exact ⟨by decide, fun op => if_neg (by decide)⟩
    · exact ⟨by decide, fun op => if_neg (by decide)⟩
  obtain ⟨r1, r5⟩ := r1
  refine Gd_afterC hL hsg hK P S (fun P1 => ?_)
  refine S2 t Q h0 false (sg :: H) (o ++ e) P1 (fun m' Hm opm om hu hc => G m' Hm opm om ?_ (fun _ _ => ?_))
  · rw [unw_eq (l := 4) (by omega) hu]
    have e1 : unw 4 (sg :: H) (nI od) (o ++ e ++ e2) = unw 4 H (opx sg (nI od)) (o ++ e ++ e2 ++ [sg]) := if_neg (by omega)
    rw [e1, r5, List.append_assoc o e e2, List.append_assoc o]
  · rw [hu]
    have e1 : unw (4 + 1) (sg :: H) (nI od) (o ++ e ++ e2) = (sg :: H, nI od, o ++ e ++ e2) := if_pos (by omega)
    rw [e1]; exact r1
theorem SimF_cmp {od p q s : Nat} {e : List Int32} {sg : Int32} (hL : L ≤ 160) (hsg : sg = 14 ∨ sg = 15) (hK : sgF (tkK b L q) = sg) (S : SimOK b L 4 od p q e) (S2 : SimF b L 4 od (tkE b L q) s) : SimF b L 3 od p s := by
  refine ⟨S2.1, fun t Q h0 m H o P F => ?_⟩
  exact Gd_afterC hL hsg hK P S (fun P1 => S2.2 t Q h0 false (sg :: H) (o ++ e) P1 F)
/-! not, -, ( -/
theorem nI_op {od : Nat} (h : od ≤ 5) : nI od = 5 ↔ od = 5 := nI_inj (b := 5) (by omega) (by decide)
theorem SimOK_not {od p r : Nat} {e : List Int32} (hL : L ≤ 160) (hK : tkK b L p = 6) (ho : od < 5) (S : SimOK b L 2 (od + 1) (tkE b L p) r e) : SimOK b L 2 od p r (e ++ [13]) := by
  intro t Q h0 m H o P G
  have hm : m = true := P.1 (by omega)
  subst hm
  refine Gd_open (x := 13) (m' := true) hL (Or.inl ⟨hK, rfl, rfl, rfl⟩) (fun z => absurd ((nI_op (by omega)).mp z) (by omega)) (fun _ => ?_)
  rw [nI_1]
  refine S t Q h0 true (13 :: H) o ⟨fun _ => rfl, fun z => absurd z (by omega), by show rk 13 < rqI 2; decide⟩ (fun m' Hm opm om hu hc => G m' Hm opm om ?_ hc)
  rw [hu]
  have e1 : unw (2 + 1) (13 :: H) (nI (od + 1)) (o ++ e) = unw (2 + 1) H (opx 13 (nI (od + 1))) (o ++ e ++ [13]) := if_neg (by decide)
  rw [e1, show opx 13 (nI (od + 1)) = nI od from nI_sub1 od, List.append_assoc]
theorem SimF_not {od p s : Nat} (hL : L ≤ 160) (hK : tkK b L p = 6) (ho : od < 5) (S : SimF b L 2 (od + 1) (tkE b L p) s) : SimF b L 2 od p s := by
  refine ⟨S.1, fun t Q h0 m H o P F => ?_⟩
  have hm : m = true := P.1 (by omega)
  subst hm
  refine Gd_open (x := 13) (m' := true) hL (Or.inl ⟨hK, rfl, rfl, rfl⟩) (fun z => absurd ((nI_op (by omega)).mp z) (by omega)) (fun _ => ?_)
  rw [nI_1]
  exact S.2 t Q h0 true (13 :: H) o ⟨fun _ => rfl, fun z => absurd z (by omega), by show rk 13 < rqI 2; decide⟩ F
theorem SimF_not5 {p : Nat} (hp : p ≤ L) (hL : L ≤ 160) (hK : tkK b L p = 6) : SimF b L 2 5 p (tkS b L p) := by
  refine ⟨(tkS_in hp).2, fun t Q h0 m H o P F => ?_⟩
  have hm : m = true := P.1 (by omega)
  subst hm
  exact Gd_open (x := 13) (m' := true) hL (Or.inl ⟨hK, rfl, rfl, rfl⟩) (fun _ => F) (fun z => absurd rfl z)
theorem SimOK_min {od p r : Nat} {e : List Int32} (hL : L ≤ 160) (hK : tkK b L p = 45) (ho : od < 5) (S : SimOK b L 6 (od + 1) (tkE b L p) r e) : SimOK b L 6 od p r (e ++ [19]) := by
  intro t Q h0 m H o P G
  refine Gd_open (x := 19) (m' := false) hL (Or.inr (Or.inl ⟨hK, rfl, rfl⟩)) (fun z => absurd ((nI_op (by omega)).mp z) (by omega)) (fun _ => ?_)
  rw [nI_1]
  refine S t Q h0 false (19 :: H) o ⟨fun z => absurd z (by omega), fun _ z => absurd z (by decide), by show rk 19 < rqI 6; decide⟩ (fun m' Hm opm om hu hc => G m' Hm opm om ?_ hc)
  rw [hu]
  have e1 : unw (6 + 1) (19 :: H) (nI (od + 1)) (o ++ e) = unw (6 + 1) H (opx 19 (nI (od + 1))) (o ++ e ++ [19]) := if_neg (by decide)
  rw [e1, show opx 19 (nI (od + 1)) = nI od from nI_sub1 od, List.append_assoc]
theorem SimF_min {od p s : Nat} (hL : L ≤ 160) (hK : tkK b L p = 45) (ho : od < 5) (S : SimF b L 6 (od + 1) (tkE b L p) s) : SimF b L 6 od p s := by
  refine ⟨S.1, fun t Q h0 m H o P F => ?_⟩
  refine Gd_open (x := 19) (m' := false) hL (Or.inr (Or.inl ⟨hK, rfl, rfl⟩)) (fun z => absurd ((nI_op (by omega)).mp z) (by omega)) (fun _ => ?_)
  rw [nI_1]
  exact S.2 t Q h0 false (19 :: H) o ⟨fun z => absurd z (by omega), fun _ z => absurd z (by decide), by show rk 19 < rqI 6; decide⟩ F
theorem SimF_one5 {p : Nat} (hp : p ≤ L) (hL : L ≤ 160) (hK : tkK b L p = 45 ∨ tkK b L p = 40) : SimF b L 6 5 p (tkS b L p) := by
  refine ⟨(tkS_in hp).2, fun t Q h0 m H o P F => ?_⟩
  rcases hK with hK | hK
  · exact Gd_open (x := 19) (m' := false) hL (Or.inr (Or.inl ⟨hK, rfl, rfl⟩)) (fun _ => F) (fun z => absurd rfl z)
  · exact Gd_open (x := 0) (m' := true) hL (Or.inr (Or.inr ⟨hK, rfl, rfl⟩)) (fun _ => F) (fun z => absurd rfl z)
theorem SimF_bad {od p : Nat} (hp : p ≤ L) (hL : L ≤ 160) (k2 : ¬ tkK b L p = 2) (k3 : ¬ tkK b L p = 3) (k45 : ¬ tkK b L p = 45) (k40 : ¬ tkK b L p = 40) : SimF b L 6 od p (tkS b L p) := by
  refine ⟨(tkS_in hp).2, fun t Q h0 m H o P F => ?_⟩
  refine Gd_bad hL k2 k3 (fun z => ?_) k45 k40 F
  cases m with
  | false => rfl
  | true => exact absurd z (P.2.1 (by omega) rfl)
theorem SimOK_val {od p : Nat} (hL : L ≤ 160) (hK : tkK b L p = 2 ∨ tkK b L p = 3) : SimOK b L 6 od p (tkE b L p) [codV b L p] := by
  intro t Q h0 m H o P G
  refine Gd_val hL hK (G m _ _ _ (unw_unw (Nat.le_refl 7) _ _ _) (fun z => absurd z (by omega)))
/-- what can't go on, where only a sign, ) or ; could stand -/
theorem Gd_end {p t : Nat} {Q : Int32 → AH → Prop} {h0 : AH} {m : Bool} {H o : List Int32} {op : Int32} (hL : L ≤ 160) (S : StopI 0 (tkK b L p)) (k59 : ¬ tkK b L p = 59) (k41 : ¬ tkK b L p = 41) (hc : (tkK b L p = 60 ∨ tkK b L p = 61) → topC (unw 5 H op o).1) (F : QF t Q h0 (tkS b L p)) : Gd b L t Q h0 p false m H op o := by
  obtain ⟨s1, s2, s3, s4⟩ := S
  have s1 := s1 (by omega)
  have s2 := s2 (by omega)
  have s3 := s3 (by omega)
  have s4 := s4 (by omega)
  by_cases c1 : tkK b L p = 60
  · exact Gd_sign (sg := 14) hL (by rw [c1]; decide) (by decide) k59 k41 (fun _ _ => F) (fun z => absurd ⟨by decide, hc (Or.inl c1)⟩ z)
  by_cases c2 : tkK b L p = 61
  · exact Gd_sign (sg := 15) hL (by rw [c2]; decide) (by decide) k59 k41 (fun _ _ => F) (fun z => absurd ⟨by decide, hc (Or.inr c2)⟩ z)
  refine Gd_stop hL ?_ k59 k41 F
  unfold sgF
  rw [if_neg s4, if_neg s3, if_neg c1, if_neg c2, if_neg s2.1, if_neg s2.2, if_neg s1]
theorem SimOK_par {od p q : Nat} {e : List Int32} (hL : L ≤ 160) (hK : tkK b L p = 40) (ho : od < 5) (S : SimOK b L 0 (od + 1) (tkE b L p) q e) (hq : tkK b L q = 41) : SimOK b L 6 od p (tkE b L q) e := by
  intro t Q h0 m H o P G
  refine Gd_open (x := 0) (m' := true) hL (Or.inr (Or.inr ⟨hK, rfl, rfl⟩)) (fun z => absurd ((nI_op (by omega)).mp z) (by omega)) (fun _ => ?_)
  rw [nI_1]
  refine S t Q h0 true (0 :: H) o ⟨fun _ => rfl, fun z => absurd z (by omega), by show rk 0 < rqI 0; decide⟩ (fun m' Hm opm om hu hc => ?_)
  have e1 : unw (0 + 1) (0 :: H) (nI (od + 1)) (o ++ e) = (0 :: H, nI (od + 1), o ++ e) := if_pos (by decide)
  rw [e1] at hu
  have hu : unw 1 Hm opm om = (0 :: H, nI (od + 1), o ++ e) := hu
  refine Gd_close hL hq (fun z => ?_) (fun x H2 z => ?_)
  · rw [hu] at z; exact absurd z (by simp)
  · rw [hu] at z ⊢
    have z2 : H = H2 := (List.cons.inj z).2
    subst z2
    rw [nI_sub1]
    exact G _ _ _ _ (unw_unw (Nat.le_refl 7) _ _ _) (fun z => absurd z (by omega))
theorem SimF_par {od p s : Nat} (hL : L ≤ 160) (hK : tkK b L p = 40) (ho : od < 5) (S : SimF b L 0 (od + 1) (tkE b L p) s) : SimF b L 6 od p s := by
  refine ⟨S.1, fun t Q h0 m H o P F => ?_⟩
  refine Gd_open (x := 0) (m' := true) hL (Or.inr (Or.inr ⟨hK, rfl, rfl⟩)) (fun z => absurd ((nI_op (by omega)).mp z) (by omega)) (fun _ => ?_)
  rw [nI_1]
  exact S.2 t Q h0 true (0 :: H) o ⟨fun _ => rfl, fun z => absurd z (by omega), by show rk 0 < rqI 0; decide⟩ F
theorem SimF_par2 {od p q : Nat} {e : List Int32} (hq9 : q ≤ L) (hL : L ≤ 160) (hK : tkK b L p = 40) (ho : od < 5) (S : SimOK b L 0 (od + 1) (tkE b L p) q e) (T : StopI 0 (tkK b L q)) (hq : ¬ tkK b L q = 41) : SimF b L 6 od p (tkS b L q) := by
  refine ⟨(tkS_in hq9).2, fun t Q h0 m H o P F => ?_⟩
  refine Gd_open (x := 0) (m' := true) hL (Or.inr (Or.inr ⟨hK, rfl, rfl⟩)) (fun z => absurd ((nI_op (by omega)).mp z) (by omega)) (fun _ => ?_)
  rw [nI_1]
  refine S t Q h0 true (0 :: H) o ⟨fun _ => rfl, fun z => absurd z (by omega), by show rk 0 < rqI 0; decide⟩ (fun m' Hm opm om hu hc => ?_)
  have e1 : unw (0 + 1) (0 :: H) (nI (od + 1)) (o ++ e) = (0 :: H, nI (od + 1), o ++ e) := if_pos (by decide)
  rw [e1] at hu
  have hu : unw 1 Hm opm om = (0 :: H, nI (od + 1), o ++ e) := hu
  by_cases c : tkK b L q = 59
  · exact Gd_semi hL c (fun z => by rw [hu] at z; exact absurd z (by simp)) (fun _ => F)
  · exact Gd_end hL T c hq (hc (by omega)) F
/-! a whole E with its ; -/
theorem Gd_part {p q t : Nat} {Q : Int32 → AH → Prop} {h0 : AH} {e o : List Int32} (hL : L ≤ 160) (S : SimOK b L 0 0 p q e) (hq : tkK b L q = 59) (HS : ∀ h', MX b L t h0 (tkE b L q) [] 0 (o ++ e) h' → Q 1 h') : Gd b L t Q h0 p true true [] 0 o := by
  refine S t Q h0 true [] o ⟨fun _ => rfl, fun z => absurd z (by omega), trivial⟩ (fun m' Hm opm om hu hc => ?_)
  have hu : unw 1 Hm opm om = ([], 0, o ++ e) := hu
  refine Gd_semi hL hq (fun _ h' R => HS h' ?_) (fun z => absurd (by rw [hu]) z)
  rw [hu] at R; exact R
theorem Gd_partF {p q t : Nat} {Q : Int32 → AH → Prop} {h0 : AH} {e o : List Int32} (hL : L ≤ 160) (S : SimOK b L 0 0 p q e) (T : StopI 0 (tkK b L q)) (hq : ¬ tkK b L q = 59) (F : QF t Q h0 (tkS b L q)) : Gd b L t Q h0 p true true [] 0 o := by
  refine S t Q h0 true [] o ⟨fun _ => rfl, fun z => absurd z (by omega), trivial⟩ (fun m' Hm opm om hu hc => ?_)
  have hu : unw 1 Hm opm om = ([], 0, o ++ e) := hu
  by_cases c : tkK b L q = 41
  · exact Gd_close hL c (fun _ => F) (fun x H2 z => by rw [hu] at z; exact absurd z (by simp))
  · exact Gd_end hL T hq c (hc (by omega)) F
theorem Gd_partG {p s t : Nat} {Q : Int32 → AH → Prop} {h0 : AH} {o : List Int32} (S : SimF b L 0 0 p s) (F : QF t Q h0 s) : Gd b L t Q h0 p true true [] 0 o :=
  S.2 t Q h0 true [] o ⟨fun _ => rfl, fun z => absurd z (by omega), trivial⟩ F
end SIMS
