/-! pure: the class's descent, level by level (printed) -/
def cdC (b : Nat → Int32) (t : Nat) (o : List Int32) (h : AH) : Prop := rR T1 h 25 2 = 33 + 3 * t + 1 ∧ h.1 (33 + 3 * t) 2 = nI o.length ∧ ∀ j, j < o.length → h.1 (34 + 3 * t) (nI j) = mapC (o.getD j 0)
def CS (b : Nat → Int32) (L t p : Nat) (o : List Int32) (h : AH) : Prop := TS b L p h ∧ cdC b t o h
def SCl (t : Nat) : List Nat := [25, 33 + 3 * t, 34 + 3 * t]
theorem SCl_25 {t : Nat} : 25 ∈ SCl t := List.mem_cons_self
section CLS
variable {b : Nat → Int32} {L t : Nat}
theorem cdC_f25 {o : List Int32} {h h' : AH} (C : cdC b t o h) (f : frm [25] h h') : cdC b t o h' :=
  ⟨by rw [rR_2 f.1]; exact C.1, by rw [f.2 (33 + 3 * t) (by simp; omega)]; exact C.2.1, by rw [f.2 (34 + 3 * t) (by simp; omega)]; exact C.2.2⟩
theorem frm_25 {h0 h h' : AH} (f : frm (SCl t) h0 h) (g : frm [25] h h') : frm (SCl t) h0 h' := frm_tr f g (fun _ z => z) (fun x z => by rw [List.mem_singleton.mp z]; exact SCl_25)
theorem CS_next {o : List Int32} {p : Nat} {h h0 : AH} {Q : AH → Prop} (hL : L ≤ 160) (hp : p ≤ L) (C : CS b L t p o h) (f : frm (SCl t) h0 h) (HQ : ∀ h', CS b L t (tkE b L p) o h' → frm (SCl t) h0 h' → Q h') : p_Reader_next Q h :=
  Reader_next_spec hL (tkE_in hp).2.1 C.1.1 C.1.2.1 (fun h' g T' => HQ h' ⟨T', cdC_f25 C.2 g⟩ (frm_25 f g))
theorem CS_law {o : List Int32} {p : Nat} {h : AH} (ht : t < 6) (C : CS b L t p o h) : 0 < rR T1 h 25 2 ∧ vA T1 h (rR T1 h 25 2 - 1) ∧ (rS T1 h (rR T1 h 25 2 - 1)).1 = 6 := by
  obtain ⟨l1, l2, l3, l4, l5, l6, l7, l8⟩ := lawT ht h
  rw [C.2.1, Nat.add_sub_cancel]
  exact ⟨Nat.succ_pos _, l1, l2⟩
theorem RB_f {h h' : AH} (ht : t < 6) (R : RB b L h) (f : frm [33 + 3 * t, 34 + 3 * t] h h') : RB b L h' :=
  ⟨by rw [f.2 25 (by simp; omega)]; exact R.1, by rw [rR_2 f.1]; exact R.2.1, by rw [f.2 4 (by simp; omega)]; exact R.2.2⟩
theorem CS_add {o : List Int32} {p : Nat} {x c : Int32} {h h0 : AH} {Q : AH → Prop} (ht : t < 6) (C : CS b L t p o h) (hb : o.length < 160) (hc : mapC c = x) (f : frm (SCl t) h0 h) (HQ : ∀ h', CS b L t p (o ++ [c]) h' → frm (SCl t) h0 h' → Q h') : p_Law_add Q (rR T1 h 25 2 - 1) x h := by
  obtain ⟨l1, l2, l3, l4, l5, l6, l7, l8⟩ := lawT ht h
  obtain ⟨T, c1, c2, c3⟩ := C
  rw [c1, Nat.add_sub_cancel]
  refine ⟨l1, l2, ?_⟩
  rw [c2, l3, Nat.add_sub_cancel, l6]
  refine (pT ((nI_ltI (b := 160) (by omega) (by omega)).mpr hb)).mpr ⟨Nat.succ_pos _, l5, rfl, inb_nI (n := 160) hb (by omega), ?_⟩
  have e2 : (wI h (34 + 3 * t) (nI o.length) x).1 (33 + 3 * t) 2 = nI o.length := by rw [wI_r, if_neg (by omega)]; exact c2
  rw [e2, nI_1]
  have g : frm [33 + 3 * t, 34 + 3 * t] h (wI (wI h (34 + 3 * t) (nI o.length) x) (33 + 3 * t) 2 (nI (o.length + 1))) := frm_w (frm_w frm_rf (by simp)) (by simp)
  refine HQ _ ⟨⟨RB_f ht T.1 g, ?_, ?_, ?_, ?_⟩, ?_, ?_, fun j hj => ?_⟩ (frm_tr f g (fun _ z => z) (fun y z => by simp only [SCl, List.mem_cons, List.not_mem_nil, or_false] at z ⊢; omega))
  · rw [g.2 25 (by simp; omega)]; exact T.2.1
  · rw [g.2 25 (by simp; omega)]; exact T.2.2.1
  · rw [g.2 25 (by simp; omega)]; exact T.2.2.2.1
  · rw [g.2 25 (by simp; omega)]; exact T.2.2.2.2
  · exact c1
  · rw [wI_r, if_pos rfl, up_s]; simp
  · have hj' : j < o.length + 1 := by simpa using hj
    rw [wI_r, if_neg (show ¬ 34 + 3 * t = 33 + 3 * t by omega), wI_r, if_pos rfl, up_a]
    by_cases e : j = o.length
    · subst e
      rw [if_pos rfl, List.getD_eq_getElem?_getD, List.getElem?_append_right (Nat.le_refl _), Nat.sub_self, ← hc]; rfl
    · rw [if_neg (fun z => e ((nI_inj (by omega) (by omega)).mp z)), c3 j (by omega), List.getD_eq_getElem?_getD, List.getD_eq_getElem?_getD, List.getElem?_append_left (by omega)]
/-- what a level's predicate does -/
def SpecR (b : Nat → Int32) (L t i od : Nat) (P : (Int32 → AH → Prop) → Int32 → AH → Prop) : Prop := ∀ p o h h0 Q, o.length ≤ p → p ≤ L → CS b L t p o h → frm (SCl t) h0 h →
  (∀ q e h', PostOK b L i od p q e → CS b L t q (o ++ e) h' → frm (SCl t) h0 h' → Q 1 h') → (∀ s h', SimF b L i od p s → h'.1 25 4 = nI s → frm (SCl t) h0 h' → Q 0 h') → P Q (nI od) h
theorem tkV_num {B : Nat} (hB : B ≤ 10000) : ∀ (n p A : Nat) (a : Int32), (∀ j, p ≤ j → j < p + n → dgtB (b j) = true) → 0 ≤ a.toInt → a.toInt ≤ A → (A + 1) * 10 ^ n ≤ B → 0 ≤ (numV b n p a).toInt ∧ (numV b n p a).toInt + 1 ≤ B := by
  intro n
  induction n with
  | zero => intro p A a _ h0 hA hb; exact ⟨h0, by show a.toInt + 1 ≤ _; simp at hb; omega⟩
  | succ n ih =>
    intro p A a hd h0 hA hb
    have d := dgtB_t.mp (hd p (Nat.le_refl _) (by omega))
    have e48 : (48 : Int32).toInt = 48 := by decide
    have e57 : (57 : Int32).toInt = 57 := by decide
    have e10 : (10 : Int32).toInt = 10 := by decide
    have d1 := Int32.le_iff_toInt_le.mp d.1
    have d2 := Int32.le_iff_toInt_le.mp d.2
    rw [e48] at d1; rw [e57] at d2
    have pw : 10 ^ (n + 1) = 10 ^ n * 10 := rfl
    have p1 : 1 ≤ 10 ^ n := Nat.one_le_pow _ _ (by decide)
    have hA2 : (A + 1) * 10 ≤ 10000 := by
      have : (A + 1) * 10 ≤ (A + 1) * 10 ^ (n + 1) := Nat.mul_le_mul_left _ (by rw [pw]; omega)
      omega
    have ev : (a * 10 + b p - 48).toInt = a.toInt * 10 + ((b p).toInt - 48) := by
      have m1 : (a * 10).toInt = a.toInt * 10 := by
        rw [Int32.toInt_mul, e10]; exact Int.bmod_eq_of_le (by omega) (by omega)
      have m2 : (a * 10 + b p).toInt = a.toInt * 10 + (b p).toInt := by
        rw [Int32.toInt_add, m1]; exact Int.bmod_eq_of_le (by omega) (by omega)
      rw [Int32.toInt_sub, m2, e48, Int.bmod_eq_of_le (by omega) (by omega)]; omega
    exact ih (p + 1) (A * 10 + 9) (a * 10 + b p - 48) (fun j h1 h2 => hd j (by omega) (by omega)) (by omega) (by omega) (by
      rw [show A * 10 + 9 + 1 = (A + 1) * 10 by omega, Nat.mul_assoc, Nat.mul_comm 10]
      rw [pw] at hb; exact hb)
theorem wdV_3 : ∀ k : Fin 13, wdK k.val = 3 → 0 ≤ (wdV k.val).toInt ∧ (wdV k.val).toInt < 6 := by decide +kernel
theorem codV_ok {p : Nat} (hp : p ≤ L) (hK : tkK b L p = 2 ∨ tkK b L p = 3) : pushC (codV b L p) ∧ (tkK b L p = 2 → mapC (codV b L p) = tkV b L p) ∧ (tkK b L p = 3 → mapC (codV b L p) = -1 - tkV b L p) := by
  have nL : ¬ L ≤ tkS b L p := fun z => by
    have : tkK b L p = 0 := if_pos z
    rw [this] at hK; exact absurd hK (by decide)
  have hE := tkE_in (b := b) hp
  by_cases c1 : ltrB (b (tkS b L p)) = true
  · have eK : tkK b L p = wdK (wNo (seg b (tkS b L p) (tkE b L p))) := by unfold tkK; rw [if_neg nL, if_pos c1]
    have eV : tkV b L p = wdV (wNo (seg b (tkS b L p) (tkE b L p))) := by unfold tkV; rw [if_pos c1]
    have k2 : ¬ tkK b L p = 2 := by rw [eK]; exact wdK_ne ⟨_, wNo_le _⟩
    have k3 := hK.resolve_left k2
    have v := wdV_3 ⟨_, wNo_le _⟩ (by show wdK (wNo (seg b (tkS b L p) (tkE b L p))) = 3; rw [← eK]; exact k3)
    have v : 0 ≤ (tkV b L p).toInt ∧ (tkV b L p).toInt < 6 := by rw [eV]; exact v
    have ec : codV b L p = tkV b L p := if_neg k2
    rw [ec]
    refine ⟨Or.inr v, fun z => absurd z k2, fun _ => ?_⟩
    rcases sml6 v.1 v.2 with e | e | e | e | e | e <;> rw [e] <;> decide
  · have eV : tkV b L p = numV b (tkE b L p - tkS b L p) (tkS b L p) 0 := by unfold tkV; rw [if_neg c1]
    have k3 : ¬ tkK b L p = 3 := by
      unfold tkK
      rw [if_neg nL, if_neg c1]
      by_cases c2 : dgtB (b (tkS b L p)) = true
      · rw [if_pos c2]
        by_cases c3 : tkE b L p - tkS b L p ≤ 4
        · rw [if_pos c3]; decide
        · rw [if_neg c3]; decide
      · rw [if_neg c2]
        by_cases c3 : sgnB (b (tkS b L p)) = true
        · rw [if_pos c3]; exact fun z => sgn_ne c3 (Or.inr z)
        · rw [if_neg c3]; decide
    have k2 := hK.resolve_right k3
    have cd : dgtB (b (tkS b L p)) = true ∧ tkE b L p - tkS b L p ≤ 4 := by
      have h := k2
      unfold tkK at h
      rw [if_neg nL, if_neg c1] at h
      by_cases c2 : dgtB (b (tkS b L p)) = true
      · rw [if_pos c2] at h
        by_cases c3 : tkE b L p - tkS b L p ≤ 4
        · exact ⟨c2, c3⟩
        · rw [if_neg c3] at h; exact absurd h (by decide)
      · rw [if_neg c2] at h
        by_cases c3 : sgnB (b (tkS b L p)) = true
        · rw [if_pos c3] at h; exact absurd (Or.inl h) (sgn_ne c3)
        · rw [if_neg c3] at h; exact absurd h (by decide)
    have eE : tkE b L p = endW dgtB b (L - tkS b L p) (tkS b L p) := by unfold tkE; rw [if_neg nL, if_neg c1, if_pos cd.1]
    have p10 : 10 ^ (tkE b L p - tkS b L p) ≤ 10 ^ 4 := Nat.pow_le_pow_right (by decide) cd.2
    have v := tkV_num (b := b) (B := 10000) (Nat.le_refl _) (tkE b L p - tkS b L p) (tkS b L p) 0 0 (fun j h1 h2 => endW_all _ _ j h1 (by rw [← eE]; omega)) (by decide) (by decide) (by omega)
    have v : 0 ≤ (tkV b L p).toInt ∧ (tkV b L p).toInt ≤ 9999 := by rw [eV]; omega
    have ec : codV b L p = 100000 + tkV b L p := if_pos k2
    have e1 : (100000 : Int32).toInt = 100000 := by decide
    have et : (100000 + tkV b L p).toInt = 100000 + (tkV b L p).toInt := by
      rw [Int32.toInt_add, e1]; exact Int.bmod_eq_of_le (by omega) (by omega)
    have pu : pushC (codV b L p) := Or.inl (by rw [ec, et]; omega)
    refine ⟨pu, fun _ => ?_, fun z => absurd z k3⟩
    rw [ec]
    unfold mapC
    rw [if_pos (by rw [Int32.le_iff_toInt_le, e1, et]; omega), Int32.add_comm, Int32.add_sub_cancel]
theorem CS_tok {o : List Int32} {p : Nat} {h : AH} (C : CS b L t p o h) : h.1 25 5 = tkK b L p ∧ h.1 25 4 = nI (tkS b L p) := ⟨C.1.2.2.2.1, C.1.2.2.1⟩
theorem loop_either {od p : Nat} {o : List Int32} {h0 : AH} {Q : Int32 → AH → Prop} {P : (Int32 → AH → Prop) → Int32 → AH → Prop} (hL : L ≤ 160) (ht : t < 6) (hS : SpecR b L t 1 od P) (ho : o.length ≤ p)
    (HS : ∀ q e h', PostOK b L 0 od p q e → CS b L t q (o ++ e) h' → frm (SCl t) h0 h' → Q 1 h') (HF : ∀ s h', SimF b L 0 od p s → h'.1 25 4 = nI s → frm (SCl t) h0 h' → Q 0 h') :
    ∀ (n j q : Nat) (e : List Int32) (h : AH), L - q < n → p + j < q → q ≤ L → p + e.length ≤ q → exC e → SimOK b L 0 od p q e → StopI 1 (tkK b L q) → CS b L t q (o ++ e) h → frm (SCl t) h0 h → p_Reader_either_12 Q P n (nI od) (nI j) h := by
  intro n
  induction n with
  | zero => intro j q e h hn; omega
  | succ n ih =>
    intro j q e h hn hj hq he hex S ST C f
    simp only [p_Reader_either_12]
    rw [(CS_tok C).1]
    refine (pF (fun z => by have := (nI_leN (a := 160) (by decide) (by omega)).mp z; omega)).mpr ?_
    by_cases c : tkK b L q = 4
    · refine (nT c).mpr ?_
      have hpos := tk_pos (b := b) hq (by rw [c]; decide)
      refine CS_next hL hq C f (fun h1 C1 f1 => ?_)
      refine hS (tkE b L q) (o ++ e) h1 h0 _ (by simp; omega) hpos.2.2 C1 f1 (fun r e2 h2 P2 C2 f2 => ?_) (fun s h2 F2 e4 f2 => ?_)
      · refine (nF (by decide)).mpr ?_
        obtain ⟨a1, a2, a3⟩ := CS_law ht C2
        have l2 := P2.1
        refine ⟨a1, a2, a3, CS_add (c := 11) ht C2 (by simp; omega) (by decide) f2 (fun h3 C3 f3 => ?_)⟩
        rw [nI_1]
        refine ih (j + 1) r (e ++ e2 ++ [11]) h3 (by omega) (by omega) l2.2.2 (by simp; omega) (exC_bin hex P2.2.1 (by unfold binC; decide)) (SimOK_bin (sg := 11) hL (by unfold sgI; decide) (by rw [c]; decide) S P2.2.2.2) P2.2.2.1 ?_ f3
        rw [List.append_assoc o e e2, List.append_assoc o] at C3; exact C3
      · exact (nT rfl).mpr (HF s h2 (SimF_bin (sg := 11) hL (by unfold sgI; decide) (by rw [c]; decide) S F2) e4 f2)
    · refine (nF c).mpr (HS q e h ⟨⟨he, by omega, hq⟩, hex, ?_, S⟩ C f)
      obtain ⟨s1, s2, s3, s4⟩ := ST
      refine ⟨fun z => ?_, fun z => ?_, fun z => ?_, fun z => ?_⟩
      · exact s1 (by omega)
      · exact s2 (by omega)
      · exact s3 (by omega)
      · exact c
theorem spec_either {od : Nat} {P : (Int32 → AH → Prop) → Int32 → AH → Prop} (hL : L ≤ 160) (ht : t < 6) (hS : SpecR b L t 1 od P) : SpecR b L t 0 od (fun Q => p_Reader_either Q P) := by
  intro p o h h0 Q ho hp C f HS HF
  show p_Reader_either Q P (nI od) h
  unfold p_Reader_either
  refine hS p o h h0 _ ho hp C f (fun q e h1 P1 C1 f1 => ?_) (fun s h1 F1 e4 f1 => ?_)
  · refine (nF (by decide)).mpr ⟨L - q + 1, loop_either hL ht hS ho HS HF (L - q + 1) 0 q e h1 (by omega) (by have := P1.1; omega) P1.1.2.2 P1.1.1 P1.2.1 (SimOK_up (by decide) (fun z => absurd z (by decide)) P1.2.2.2) P1.2.2.1 C1 f1⟩
  · exact (nT rfl).mpr (HF s h1 (SimF_up (by decide) (fun z => absurd z (by decide)) F1) e4 f1)
theorem loop_both {od p : Nat} {o : List Int32} {h0 : AH} {Q : Int32 → AH → Prop} {P : (Int32 → AH → Prop) → Int32 → AH → Prop} (hL : L ≤ 160) (ht : t < 6) (hS : SpecR b L t 2 od P) (ho : o.length ≤ p)
    (HS : ∀ q e h', PostOK b L 1 od p q e → CS b L t q (o ++ e) h' → frm (SCl t) h0 h' → Q 1 h') (HF : ∀ s h', SimF b L 1 od p s → h'.1 25 4 = nI s → frm (SCl t) h0 h' → Q 0 h') :
    ∀ (n j q : Nat) (e : List Int32) (h : AH), L - q < n → p + j < q → q ≤ L → p + e.length ≤ q → exC e → SimOK b L 1 od p q e → StopI 2 (tkK b L q) → CS b L t q (o ++ e) h → frm (SCl t) h0 h → p_Reader_both_12 Q P n (nI od) (nI j) h := by
  intro n
  induction n with
  | zero => intro j q e h hn; omega
  | succ n ih =>
    intro j q e h hn hj hq he hex S ST C f
    simp only [p_Reader_both_12]
    rw [(CS_tok C).1]
    refine (pF (fun z => by have := (nI_leN (a := 160) (by decide) (by omega)).mp z; omega)).mpr ?_
    by_cases c : tkK b L q = 5
    · refine (nT c).mpr ?_
      have hpos := tk_pos (b := b) hq (by rw [c]; decide)
      refine CS_next hL hq C f (fun h1 C1 f1 => ?_)
      refine hS (tkE b L q) (o ++ e) h1 h0 _ (by simp; omega) hpos.2.2 C1 f1 (fun r e2 h2 P2 C2 f2 => ?_) (fun s h2 F2 e4 f2 => ?_)
      · refine (nF (by decide)).mpr ?_
        obtain ⟨a1, a2, a3⟩ := CS_law ht C2
        have l2 := P2.1
        refine ⟨a1, a2, a3, CS_add (c := 12) ht C2 (by simp; omega) (by decide) f2 (fun h3 C3 f3 => ?_)⟩
        rw [nI_1]
        refine ih (j + 1) r (e ++ e2 ++ [12]) h3 (by omega) (by omega) l2.2.2 (by simp; omega) (exC_bin hex P2.2.1 (by unfold binC; decide)) (SimOK_bin (sg := 12) hL (by unfold sgI; decide) (by rw [c]; decide) S P2.2.2.2) P2.2.2.1 ?_ f3
        rw [List.append_assoc o e e2, List.append_assoc o] at C3; exact C3
      · exact (nT rfl).mpr (HF s h2 (SimF_bin (sg := 12) hL (by unfold sgI; decide) (by rw [c]; decide) S F2) e4 f2)
    · refine (nF c).mpr (HS q e h ⟨⟨he, by omega, hq⟩, hex, ?_, S⟩ C f)
      obtain ⟨s1, s2, s3, s4⟩ := ST
      refine ⟨fun z => ?_, fun z => ?_, fun z => ?_, fun z => ?_⟩
      · exact s1 (by omega)
      · exact s2 (by omega)
      · exact c
      · omega
theorem spec_both {od : Nat} {P : (Int32 → AH → Prop) → Int32 → AH → Prop} (hL : L ≤ 160) (ht : t < 6) (hS : SpecR b L t 2 od P) : SpecR b L t 1 od (fun Q => p_Reader_both Q P) := by
  intro p o h h0 Q ho hp C f HS HF
  show p_Reader_both Q P (nI od) h
  unfold p_Reader_both
  refine hS p o h h0 _ ho hp C f (fun q e h1 P1 C1 f1 => ?_) (fun s h1 F1 e4 f1 => ?_)
  · refine (nF (by decide)).mpr ⟨L - q + 1, loop_both hL ht hS ho HS HF (L - q + 1) 0 q e h1 (by omega) (by have := P1.1; omega) P1.1.2.2 P1.1.1 P1.2.1 (SimOK_up (by decide) (fun z => absurd z (by decide)) P1.2.2.2) P1.2.2.1 C1 f1⟩
  · exact (nT rfl).mpr (HF s h1 (SimF_up (by decide) (fun z => absurd z (by decide)) F1) e4 f1)
theorem loop_term {od p : Nat} {o : List Int32} {h0 : AH} {Q : Int32 → AH → Prop} {P : (Int32 → AH → Prop) → Int32 → AH → Prop} (hL : L ≤ 160) (ht : t < 6) (hS : SpecR b L t 6 od P) (ho : o.length ≤ p)
    (HS : ∀ q e h', PostOK b L 5 od p q e → CS b L t q (o ++ e) h' → frm (SCl t) h0 h' → Q 1 h') (HF : ∀ s h', SimF b L 5 od p s → h'.1 25 4 = nI s → frm (SCl t) h0 h' → Q 0 h') :
    ∀ (n j q : Nat) (e : List Int32) (h : AH), L - q < n → p + j < q → q ≤ L → p + e.length ≤ q → exC e → SimOK b L 5 od p q e → StopI 6 (tkK b L q) → CS b L t q (o ++ e) h → frm (SCl t) h0 h → p_Reader_term_12 Q P n (nI od) (nI j) h := by
  intro n
  induction n with
  | zero => intro j q e h hn; omega
  | succ n ih =>
    intro j q e h hn hj hq he hex S ST C f
    simp only [p_Reader_term_12]
    rw [(CS_tok C).1]
    refine (pF (fun z => by have := (nI_leN (a := 160) (by decide) (by omega)).mp z; omega)).mpr ?_
    by_cases c : tkK b L q = 42
    · refine (nT c).mpr ?_
      have hpos := tk_pos (b := b) hq (by rw [c]; decide)
      refine CS_next hL hq C f (fun h1 C1 f1 => ?_)
      refine hS (tkE b L q) (o ++ e) h1 h0 _ (by simp; omega) hpos.2.2 C1 f1 (fun r e2 h2 P2 C2 f2 => ?_) (fun s h2 F2 e4 f2 => ?_)
      · refine (nF (by decide)).mpr ?_
        obtain ⟨a1, a2, a3⟩ := CS_law ht C2
        have l2 := P2.1
        refine ⟨a1, a2, a3, CS_add (c := 18) ht C2 (by simp; omega) (by decide) f2 (fun h3 C3 f3 => ?_)⟩
        rw [nI_1]
        refine ih (j + 1) r (e ++ e2 ++ [18]) h3 (by omega) (by omega) l2.2.2 (by simp; omega) (exC_bin hex P2.2.1 (by unfold binC; decide)) (SimOK_bin (sg := 18) hL (by unfold sgI; decide) (by rw [c]; decide) S P2.2.2.2) P2.2.2.1 ?_ f3
        rw [List.append_assoc o e e2, List.append_assoc o] at C3; exact C3
      · exact (nT rfl).mpr (HF s h2 (SimF_bin (sg := 18) hL (by unfold sgI; decide) (by rw [c]; decide) S F2) e4 f2)
    · refine (nF c).mpr (HS q e h ⟨⟨he, by omega, hq⟩, hex, ?_, S⟩ C f)
      obtain ⟨s1, s2, s3, s4⟩ := ST
      refine ⟨fun z => ?_, fun z => ?_, fun z => ?_, fun z => ?_⟩
      · exact c
      · omega
      · omega
      · omega
theorem spec_term {od : Nat} {P : (Int32 → AH → Prop) → Int32 → AH → Prop} (hL : L ≤ 160) (ht : t < 6) (hS : SpecR b L t 6 od P) : SpecR b L t 5 od (fun Q => p_Reader_term Q P) := by
  intro p o h h0 Q ho hp C f HS HF
  show p_Reader_term Q P (nI od) h
  unfold p_Reader_term
  refine hS p o h h0 _ ho hp C f (fun q e h1 P1 C1 f1 => ?_) (fun s h1 F1 e4 f1 => ?_)
  · refine (nF (by decide)).mpr ⟨L - q + 1, loop_term hL ht hS ho HS HF (L - q + 1) 0 q e h1 (by omega) (by have := P1.1; omega) P1.1.2.2 P1.1.1 P1.2.1 (SimOK_up (by decide) (fun z => absurd z (by decide)) P1.2.2.2) P1.2.2.1 C1 f1⟩
  · exact (nT rfl).mpr (HF s h1 (SimF_up (by decide) (fun z => absurd z (by decide)) F1) e4 f1)
theorem loop_sum {od p : Nat} {o : List Int32} {h0 : AH} {Q : Int32 → AH → Prop} {P : (Int32 → AH → Prop) → Int32 → AH → Prop} (hL : L ≤ 160) (ht : t < 6) (hS : SpecR b L t 5 od P) (ho : o.length ≤ p)
    (HS : ∀ q e h', PostOK b L 4 od p q e → CS b L t q (o ++ e) h' → frm (SCl t) h0 h' → Q 1 h') (HF : ∀ s h', SimF b L 4 od p s → h'.1 25 4 = nI s → frm (SCl t) h0 h' → Q 0 h') :
    ∀ (n j q : Nat) (e : List Int32) (h : AH), L - q < n → p + j < q → q ≤ L → p + e.length ≤ q → exC e → SimOK b L 4 od p q e → StopI 5 (tkK b L q) → CS b L t q (o ++ e) h → frm (SCl t) h0 h → p_Reader_sum_12 Q P n (nI od) (nI j) h := by
  intro n
  induction n with
  | zero => intro j q e h hn; omega
  | succ n ih =>
    intro j q e h hn hj hq he hex S ST C f
    simp only [p_Reader_sum_12]
    rw [(CS_tok C).1]
    refine (pF (fun z => by have := (nI_leN (a := 160) (by decide) (by omega)).mp z; omega)).mpr ?_
    have go : ∀ sg, (sg = 16 ∨ sg = 17) → sgF (tkK b L q) = sg → (∀ (X : Int32 → Prop), X (mapC sg) → ((¬ tkK b L q = 43 → X (-25)) ∧ (tkK b L q = 43 → X (-24)))) → p_Reader_sum_37 Q P (p_Reader_sum_12 Q P n) (nI od) (nI j) h := fun sg hsg hK hX => by
      have si : sgI 4 sg := Or.inr (Or.inr (Or.inl ⟨rfl, hsg⟩))
      have ok := sgI_ok si
      have hpos := tk_pos (b := b) hq (fun z => by rw [z] at hK; exact ok.2.2.2.1 hK.symm)
      unfold p_Reader_sum_37
      rw [(CS_tok C).1]
      refine CS_next hL hq C f (fun h1 C1 f1 => ?_)
      refine hS (tkE b L q) (o ++ e) h1 h0 _ (by simp; omega) hpos.2.2 C1 f1 (fun r e2 h2 P2 C2 f2 => ?_) (fun s h2 F2 e4 f2 => ?_)
      · refine (nF (by decide)).mpr ?_
        obtain ⟨a1, a2, a3⟩ := CS_law ht C2
        have l2 := P2.1
        refine ⟨a1, ?_⟩
        refine hX (fun x => p_Reader_sum_73 Q P (p_Reader_sum_12 Q P n) (nI od) (nI j) (rR T1 h2 25 2 - 1) x h2) ?_
        unfold p_Reader_sum_73
        refine ⟨a2, a3, CS_add (c := sg) ht C2 (by simp; omega) rfl f2 (fun h3 C3 f3 => ?_)⟩
        rw [nI_1]
        refine ih (j + 1) r (e ++ e2 ++ [sg]) h3 (by omega) (by omega) l2.2.2 (by simp; omega) (exC_bin hex P2.2.1 ok.2.2.2.2.2.1) (SimOK_bin (sg := sg) hL si hK S P2.2.2.2) P2.2.2.1 ?_ f3
        rw [List.append_assoc o e e2, List.append_assoc o] at C3; exact C3
      · exact (nT rfl).mpr (HF s h2 (SimF_bin (sg := sg) hL si hK S F2) e4 f2)
    by_cases c : tkK b L q = 43
    · exact (pT c).mpr (go 16 (Or.inl rfl) (by rw [c]; decide) (fun X x => ⟨fun z => absurd c z, fun _ => x⟩))
    · refine (pF c).mpr ?_
      by_cases c2 : tkK b L q = 45
      · exact (nT c2).mpr (go 17 (Or.inr rfl) (by rw [c2]; decide) (fun X x => ⟨fun _ => x, fun z => absurd z c⟩))
      · refine (nF c2).mpr (HS q e h ⟨⟨he, by omega, hq⟩, hex, ?_, S⟩ C f)
        obtain ⟨s1, s2, s3, s4⟩ := ST
        exact ⟨fun z => s1 (by omega), fun z => ⟨c, c2⟩, fun z => by omega, fun z => by omega⟩
theorem spec_sum {od : Nat} {P : (Int32 → AH → Prop) → Int32 → AH → Prop} (hL : L ≤ 160) (ht : t < 6) (hS : SpecR b L t 5 od P) : SpecR b L t 4 od (fun Q => p_Reader_sum Q P) := by
  intro p o h h0 Q ho hp C f HS HF
  show p_Reader_sum Q P (nI od) h
  unfold p_Reader_sum
  refine hS p o h h0 _ ho hp C f (fun q e h1 P1 C1 f1 => ?_) (fun s h1 F1 e4 f1 => ?_)
  · refine (nF (by decide)).mpr ⟨L - q + 1, loop_sum hL ht hS ho HS HF (L - q + 1) 0 q e h1 (by omega) (by have := P1.1; omega) P1.1.2.2 P1.1.1 P1.2.1 (SimOK_up (by decide) (fun z => absurd z (by decide)) P1.2.2.2) P1.2.2.1 C1 f1⟩
  · exact (nT rfl).mpr (HF s h1 (SimF_up (by decide) (fun z => absurd z (by decide)) F1) e4 f1)
theorem spec_compared {od : Nat} {P : (Int32 → AH → Prop) → Int32 → AH → Prop} (hL : L ≤ 160) (ht : t < 6) (hS : SpecR b L t 4 od P) : SpecR b L t 3 od (fun Q => p_Reader_compared Q P) := by
  intro p o h h0 Q ho hp C f HS HF
  show p_Reader_compared Q P (nI od) h
  unfold p_Reader_compared
  refine hS p o h h0 _ ho hp C f (fun q e h1 P1 C1 f1 => ?_) (fun s h1 F1 e4 f1 => ?_)
  · refine (nF (by decide)).mpr ?_
    rw [(CS_tok C1).1]
    have l1 := P1.1
    have go : ∀ sg, (sg = 14 ∨ sg = 15) → sgF (tkK b L q) = sg → (∀ (X : Int32 → Prop), X (mapC sg) → ((¬ tkK b L q = 60 → X (-23)) ∧ (tkK b L q = 60 → X (-22)))) → p_Reader_compared_30 Q P (nI od) h1 := fun sg hsg hK hX => by
      have hpos := tk_pos (b := b) l1.2.2 (fun z => by rw [z] at hK; rcases hsg with e9 | e9 <;> (rw [e9] at hK; exact absurd hK (by decide)))
      unfold p_Reader_compared_30
      rw [(CS_tok C1).1]
      refine CS_next hL l1.2.2 C1 f1 (fun h2 C2 f2 => ?_)
      refine hS (tkE b L q) (o ++ e) h2 h0 _ (by simp; omega) hpos.2.2 C2 f2 (fun r e2 h3 P3 C3 f3 => ?_) (fun s h3 F3 e4 f3 => ?_)
      · refine (nF (by decide)).mpr ?_
        obtain ⟨a1, a2, a3⟩ := CS_law ht C3
        have l3 := P3.1
        refine ⟨a1, ?_⟩
        refine hX (fun x => p_Reader_compared_66 Q P (rR T1 h3 25 2 - 1) x h3) ?_
        unfold p_Reader_compared_66
        refine ⟨a2, a3, CS_add (c := sg) ht C3 (by simp; omega) rfl f3 (fun h4 C4 f4 => ?_)⟩
        refine HS r (e ++ e2 ++ [sg]) h4 ⟨⟨by simp; omega, by omega, l3.2.2⟩, exC_bin P1.2.1 P3.2.1 (by rcases hsg with rfl | rfl <;> (unfold binC; decide)), ?_, SimOK_cmp hL hsg hK P1.2.2.2 P3.2.2.2⟩ ?_ f4
        · obtain ⟨s1, s2, s3, s4⟩ := P3.2.2.1
          exact ⟨fun z => s1 (by omega), fun z => s2 (by omega), fun z => by omega, fun z => by omega⟩
        · rw [List.append_assoc o e e2, List.append_assoc o] at C4; exact C4
      · exact (nT rfl).mpr (HF s h3 (SimF_cmp hL hsg hK P1.2.2.2 F3) e4 f3)
    by_cases c : tkK b L q = 60
    · exact (pT c).mpr (go 14 (Or.inl rfl) (by rw [c]; decide) (fun X x => ⟨fun z => absurd c z, fun _ => x⟩))
    · refine (pF c).mpr ?_
      by_cases c2 : tkK b L q = 61
      · exact (pT c2).mpr (go 15 (Or.inr rfl) (by rw [c2]; decide) (fun X x => ⟨fun _ => x, fun z => absurd z c⟩))
      · refine (pF c2).mpr (HS q e h1 ⟨l1, P1.2.1, ?_, SimOK_cmp0 (fun z => z.elim c c2) P1.2.2.2⟩ C1 f1)
        obtain ⟨s1, s2, s3, s4⟩ := P1.2.2.1
        exact ⟨fun z => s1 (by omega), fun z => s2 (by omega), fun z => by omega, fun z => by omega⟩
  · exact (nT rfl).mpr (HF s h1 (SimF_up (by decide) (fun z => absurd z (by decide)) F1) e4 f1)
theorem spec_unless {od : Nat} {P P2 : (Int32 → AH → Prop) → Int32 → AH → Prop} (hL : L ≤ 160) (ht : t < 6) (h5 : od ≤ 5) (hS : SpecR b L t 3 od P) (hS2 : od < 5 → SpecR b L t 2 (od + 1) P2) : SpecR b L t 2 od (fun Q => p_Reader_unless Q P P2) := by
  intro p o h h0 Q ho hp C f HS HF
  show p_Reader_unless Q P P2 (nI od) h
  unfold p_Reader_unless
  rw [(CS_tok C).1]
  by_cases c : tkK b L p = 6
  · refine (pT c).mpr ?_
    have hpos := tk_pos (b := b) hp (by rw [c]; decide)
    by_cases c5 : od < 5
    · refine (pT ((nI_ltI (b := 5) (by omega) (by decide)).mpr c5)).mpr ?_
      rw [nI_1]
      refine CS_next hL hp C f (fun h1 C1 f1 => ?_)
      refine hS2 c5 (tkE b L p) o h1 h0 _ (by omega) hpos.2.2 C1 f1 (fun q e h2 P2' C2 f2 => ?_) (fun s h2 F2 e4 f2 => ?_)
      · refine (nF (by decide)).mpr ?_
        obtain ⟨a1, a2, a3⟩ := CS_law ht C2
        have l2 := P2'.1
        refine ⟨a1, a2, a3, CS_add (c := 13) ht C2 (by simp; omega) (by decide) f2 (fun h3 C3 f3 => ?_)⟩
        refine HS q (e ++ [13]) h3 ⟨⟨by simp; omega, by omega, l2.2.2⟩, exC_un P2'.2.1 (Or.inl rfl), P2'.2.2.1, SimOK_not hL c c5 P2'.2.2.2⟩ ?_ f3
        rw [List.append_assoc] at C3; exact C3
      · exact (nT rfl).mpr (HF s h2 (SimF_not hL c c5 F2) e4 f2)
    · have e5 : od = 5 := by omega
      subst e5
      exact (pF (by decide)).mpr (HF _ h (SimF_not5 hp hL c) (CS_tok C).2 f)
  · refine (pF c).mpr ?_
    refine hS p o h h0 _ ho hp C f (fun q e h1 P1 C1 f1 => ⟨rfl, HS q e h1 ⟨P1.1, P1.2.1, ?_, SimOK_up (by decide) (fun _ => c) P1.2.2.2⟩ C1 f1⟩) (fun s h1 F1 e4 f1 => ⟨rfl, HF s h1 (SimF_up (by decide) (fun _ => c) F1) e4 f1⟩)
    obtain ⟨s1, s2, s3, s4⟩ := P1.2.2.1
    exact ⟨fun z => s1 (by omega), fun z => s2 (by omega), fun z => by omega, fun z => by omega⟩
theorem spec_one {od : Nat} {Pe Po : (Int32 → AH → Prop) → Int32 → AH → Prop} (hL : L ≤ 160) (ht : t < 6) (h5 : od ≤ 5) (hSe : od < 5 → SpecR b L t 0 (od + 1) Pe) (hSo : od < 5 → SpecR b L t 6 (od + 1) Po) : SpecR b L t 6 od (fun Q => p_Reader_one Q Pe Po) := by
  intro p o h h0 Q ho hp C f HS HF
  show p_Reader_one Q Pe Po (nI od) h
  have val : tkK b L p = 2 ∨ tkK b L p = 3 → ∀ x, x = mapC (codV b L p) → p_Law_add (fun h9 => p_Reader_next (fun h10 => Q 1 h10) h9) (rR T1 h 25 2 - 1) x h := fun hK x hx => by
    have hpos := tk_pos (b := b) hp (by rcases hK with e | e <;> rw [e] <;> decide)
    refine CS_add (c := codV b L p) ht C (by omega) hx.symm f (fun h1 C1 f1 => ?_)
    refine CS_next hL hp C1 f1 (fun h2 C2 f2 => ?_)
    exact HS (tkE b L p) [codV b L p] h2 ⟨⟨by simp; omega, hpos.1, hpos.2.2⟩, exC_push (codV_ok hp hK).1, ⟨fun z => by omega, fun z => by omega, fun z => by omega, fun z => by omega⟩, SimOK_val hL hK⟩ C2 f2
  unfold p_Reader_one
  rw [(CS_tok C).1]
  obtain ⟨a1, a2, a3⟩ := CS_law ht C
  by_cases k2 : tkK b L p = 2
  · refine (nT k2).mpr ⟨a1, a2, a3, val (Or.inl k2) _ ?_⟩
    rw [(codV_ok hp (Or.inl k2)).2.1 k2]; exact C.1.2.2.2.2 (Or.inl k2)
  refine (nF k2).mpr ?_
  by_cases k3 : tkK b L p = 3
  · refine (nT k3).mpr ⟨a1, a2, a3, a2, a3, val (Or.inr k3) _ ?_⟩
    rw [(codV_ok hp (Or.inr k3)).2.2 k3, C.1.2.2.2.2 (Or.inr k3)]
  refine (nF k3).mpr ?_
  have two : (tkK b L p = 45 ∨ tkK b L p = 40) → p_Reader_one_68 Q Pe Po (nI od) h := fun hK => by
    have hpos := tk_pos (b := b) hp (by rcases hK with e | e <;> rw [e] <;> decide)
    unfold p_Reader_one_68
    by_cases c5 : od < 5
    · refine (pT ((nI_ltI (b := 5) (by omega) (by decide)).mpr c5)).mpr ?_
      rw [(CS_tok C).1]
      unfold p_Reader_one_89
      rw [nI_1]
      by_cases k : tkK b L p = 45
      · refine (nT k).mpr (CS_next hL hp C f (fun h1 C1 f1 => (nF (by decide)).mpr ?_))
        refine hSo c5 (tkE b L p) o h1 h0 _ (by omega) hpos.2.2 C1 f1 (fun q e h2 P2 C2 f2 => ?_) (fun s h2 F2 e4 f2 => ?_)
        · refine (nF (by decide)).mpr ?_
          obtain ⟨b1, b2, b3⟩ := CS_law ht C2
          have l2 := P2.1
          refine ⟨b1, b2, b3, CS_add (c := 19) ht C2 (by simp; omega) (by decide) f2 (fun h3 C3 f3 => ?_)⟩
          refine HS q (e ++ [19]) h3 ⟨⟨by simp; omega, by omega, l2.2.2⟩, exC_un P2.2.1 (Or.inr rfl), ⟨fun z => by omega, fun z => by omega, fun z => by omega, fun z => by omega⟩, SimOK_min hL k c5 P2.2.2.2⟩ ?_ f3
          rw [List.append_assoc] at C3; exact C3
        · exact (nT rfl).mpr (HF s h2 (SimF_min hL k c5 F2) e4 f2)
      · have k40 := hK.resolve_left k
        refine (nF k).mpr (CS_next hL hp C f (fun h1 C1 f1 => (nT rfl).mpr ?_))
        refine hSe c5 (tkE b L p) o h1 h0 _ (by omega) hpos.2.2 C1 f1 (fun q e h2 P2 C2 f2 => ?_) (fun s h2 F2 e4 f2 => ?_)
        · refine (pF (by decide)).mpr ?_
          have l2 := P2.1
          unfold p_Reader_take
          rw [(CS_tok C2).1]
          by_cases k41 : tkK b L q = 41
          · have hq := tk_pos (b := b) l2.2.2 (by rw [k41]; decide)
            refine (pT k41).mpr (CS_next hL l2.2.2 C2 f2 (fun h3 C3 f3 => (pF (by decide)).mpr ?_))
            exact HS (tkE b L q) e h3 ⟨⟨by omega, by omega, hq.2.2⟩, P2.2.1, ⟨fun z => by omega, fun z => by omega, fun z => by omega, fun z => by omega⟩, SimOK_par hL k40 c5 P2.2.2.2 k41⟩ C3 f3
          · exact (pF k41).mpr ((pT rfl).mpr (HF _ h2 (SimF_par2 P2.1.2.2 hL k40 c5 P2.2.2.2 P2.2.2.1 k41) (CS_tok C2).2 f2))
        · exact (pT rfl).mpr (HF s h2 (SimF_par hL k40 c5 F2) e4 f2)
    · have e5 : od = 5 := by omega
      subst e5
      exact (pF (by decide)).mpr (HF _ h (SimF_one5 hp hL hK) (CS_tok C).2 f)
  by_cases k45 : tkK b L p = 45
  · exact (pT k45).mpr (two (Or.inl k45))
  refine (pF k45).mpr ?_
  by_cases k40 : tkK b L p = 40
  · exact (nT k40).mpr (two (Or.inr k40))
  · exact (nF k40).mpr (HF _ h (SimF_bad hp hL k2 k3 k45 k40) (CS_tok C).2 f)
end CLS
def PRd : Nat → Nat → (Int32 → AH → Prop) → Int32 → AH → Prop
  | 0, _ => fun _ _ _ => False
  | k + 1, 0 => fun Q => p_Reader_either Q (PRd k 1)
  | k + 1, 1 => fun Q => p_Reader_both Q (PRd k 2)
  | k + 1, 2 => fun Q => p_Reader_unless Q (PRd k 3) (PRd k 2)
  | k + 1, 3 => fun Q => p_Reader_compared Q (PRd k 4)
  | k + 1, 4 => fun Q => p_Reader_sum Q (PRd k 5)
  | k + 1, 5 => fun Q => p_Reader_term Q (PRd k 6)
  | k + 1, _ + 6 => fun Q => p_Reader_one Q (PRd k 0) (PRd k 6)
theorem PRd_spec {b : Nat → Int32} {L t : Nat} (hL : L ≤ 160) (ht : t < 6) : ∀ (k i od : Nat), i ≤ 6 → od ≤ 5 → (7 - i) + 7 * (5 - od) ≤ k → SpecR b L t i od (PRd k i) := by
  intro k
  induction k with
  | zero => intro i od hi ho hk; omega
  | succ k ih =>
    intro i od hi ho hk
    match i, hi with
    | 0, _ => exact spec_either hL ht (ih 1 od (by omega) ho (by omega))
    | 1, _ => exact spec_both hL ht (ih 2 od (by omega) ho (by omega))
    | 2, _ => exact spec_unless hL ht ho (ih 3 od (by omega) ho (by omega)) (fun c => ih 2 (od + 1) (by omega) (by omega) (by omega))
    | 3, _ => exact spec_compared hL ht (ih 4 od (by omega) ho (by omega))
    | 4, _ => exact spec_sum hL ht (ih 5 od (by omega) ho (by omega))
    | 5, _ => exact spec_term hL ht (ih 6 od (by omega) ho (by omega))
    | 6, _ => exact spec_one hL ht ho (fun c => ih 0 (od + 1) (by omega) (by omega) (by omega)) (fun c => ih 6 (od + 1) (by omega) (by omega) (by omega))
    | n + 7, h => omega
theorem ok_PRd {G : GG} {d : Nat} : ∀ (k : Nat), (∀ Q x1 h, PRd k 0 Q x1 h → WP G T1 m_Reader_either (d + 8 + k) [.ref 25, .int x1] h 0 0 (iQ Q)) ∧ (∀ Q x1 h, PRd k 1 Q x1 h → WP G T1 m_Reader_both (d + 8 + k) [.ref 25, .int x1] h 0 0 (iQ Q)) ∧ (∀ Q x1 h, PRd k 2 Q x1 h → WP G T1 m_Reader_unless (d + 8 + k) [.ref 25, .int x1] h 0 0 (iQ Q)) ∧ (∀ Q x1 h, PRd k 3 Q x1 h → WP G T1 m_Reader_compared (d + 8 + k) [.ref 25, .int x1] h 0 0 (iQ Q)) ∧ (∀ Q x1 h, PRd k 4 Q x1 h → WP G T1 m_Reader_sum (d + 8 + k) [.ref 25, .int x1] h 0 0 (iQ Q)) ∧ (∀ Q x1 h, PRd k 5 Q x1 h → WP G T1 m_Reader_term (d + 8 + k) [.ref 25, .int x1] h 0 0 (iQ Q)) ∧ (∀ Q x1 h, PRd k 6 Q x1 h → WP G T1 m_Reader_one (d + 8 + k) [.ref 25, .int x1] h 0 0 (iQ Q)) := by
  intro k
  induction k with
  | zero => exact ⟨fun _ _ _ z => z.elim, fun _ _ _ z => z.elim, fun _ _ _ z => z.elim, fun _ _ _ z => z.elim, fun _ _ _ z => z.elim, fun _ _ _ z => z.elim, fun _ _ _ z => z.elim⟩
  | succ k ih =>
    obtain ⟨i0, i1, i2, i3, i4, i5, i6⟩ := ih
    have e1 : d + 8 + (k + 1) = (d + 1 + k) + 8 := by omega
    have e2 : d + 8 + k = (d + 1 + k) + 7 := by omega
    have e3 : d + 8 + (k + 1) = (d + k) + 9 := by omega
    have e4 : d + 8 + k = (d + k) + 8 := by omega
    refine ⟨fun Q x1 h z => ?_, fun Q x1 h z => ?_, fun Q x1 h z => ?_, fun Q x1 h z => ?_, fun Q x1 h z => ?_, fun Q x1 h z => ?_, fun Q x1 h z => ?_⟩
    · rw [e1]; rw [e2] at i1; exact ok_Reader_either i1 z
    · rw [e1]; rw [e2] at i2; exact ok_Reader_both i2 z
    · rw [e1]; rw [e2] at i2 i3; exact ok_Reader_unless i3 i2 z
    · rw [e1]; rw [e2] at i4; exact ok_Reader_compared i4 z
    · rw [e1]; rw [e2] at i5; exact ok_Reader_sum i5 z
    · rw [e1]; rw [e2] at i6; exact ok_Reader_term i6 z
    · rw [e3]; rw [e4] at i0 i6; exact ok_Reader_one i0 i6 z
