/-! pure: the steps of the model's E -/
def bI (w : Bool) : Int32 := if w then 1 else 0
def Gd (b : Nat → Int32) (L t : Nat) (Q : Int32 → AH → Prop) (h0 : AH) (p : Nat) (w m : Bool) (H : List Int32) (op : Int32) (o : List Int32) : Prop := ∀ n h, L - p + 1 ≤ n → MX b L t h0 p H op o h → p_MO_eRead_14 Q n (bI w) (bI m) h
def QF (t : Nat) (Q : Int32 → AH → Prop) (h0 : AH) (s : Nat) : Prop := ∀ h', frE t h0 h' → h'.1 59 22 = nI s → Q 0 h'
def codV (b : Nat → Int32) (L p : Nat) : Int32 := if tkK b L p = 2 then 100000 + tkV b L p else tkV b L p
theorem tk_pos {b : Nat → Int32} {L p : Nat} (hp : p ≤ L) (h : ¬ tkK b L p = 0) : p < tkE b L p ∧ tkS b L p < L ∧ tkE b L p ≤ L := by
  have hS := tkS_in (b := b) hp
  have hE := tkE_in (b := b) hp
  have : ¬ L ≤ tkS b L p := fun z => h (by unfold tkK; exact if_pos z)
  have := hE.2.2 (by omega)
  omega
theorem mkT_v {c v : Int32} (hv : ¬ v = -1 ∧ ¬ v = 1 ∧ ¬ v = 2 ∧ ¬ v = 3 ∧ ¬ v = 7 ∧ ¬ v = 8 ∧ ¬ v = 9) : mkT c = v ↔ c = v := by
  obtain ⟨v0, v1, v2, v3, v7, v8, v9⟩ := hv
  unfold mkT
  by_cases c1 : c = 1
  · rw [if_pos c1]; exact ⟨fun z => absurd z.symm v0, fun z => absurd (z.symm.trans c1) v1⟩
  rw [if_neg c1]
  by_cases c2 : c = 2
  · rw [if_pos c2]; exact ⟨fun z => absurd z.symm v1, fun z => absurd (z.symm.trans c2) v2⟩
  rw [if_neg c2]
  by_cases c3 : c = 3
  · rw [if_pos c3]; exact ⟨fun z => absurd z.symm v2, fun z => absurd (z.symm.trans c3) v3⟩
  rw [if_neg c3]
  by_cases c7 : c = 7 ∨ c = 8 ∨ c = 9
  · rw [if_pos c7]
    refine ⟨fun z => absurd z.symm v3, fun z => ?_⟩
    rw [z] at c7
    rcases c7 with e | e | e
    · exact absurd e v7
    · exact absurd e v8
    · exact absurd e v9
  rw [if_neg c7]
theorem mkT_1 {c : Int32} : mkT c = 1 ↔ c = 2 := by
  unfold mkT
  by_cases c1 : c = 1
  · rw [if_pos c1, c1]; decide
  rw [if_neg c1]
  by_cases c2 : c = 2
  · rw [if_pos c2]; exact ⟨fun _ => c2, fun _ => rfl⟩
  rw [if_neg c2]
  by_cases c3 : c = 3
  · rw [if_pos c3, c3]; decide
  rw [if_neg c3]
  by_cases c7 : c = 7 ∨ c = 8 ∨ c = 9
  · rw [if_pos c7]; exact ⟨fun z => absurd z (by decide), fun z => absurd z c2⟩
  rw [if_neg c7]; exact ⟨fun z => absurd z c1, fun z => absurd z c2⟩
theorem mkT_2 {c : Int32} : mkT c = 2 ↔ c = 3 := by
  unfold mkT
  by_cases c1 : c = 1
  · rw [if_pos c1, c1]; decide
  rw [if_neg c1]
  by_cases c2 : c = 2
  · rw [if_pos c2, c2]; decide
  rw [if_neg c2]
  by_cases c3 : c = 3
  · rw [if_pos c3]; exact ⟨fun _ => c3, fun _ => rfl⟩
  rw [if_neg c3]
  by_cases c7 : c = 7 ∨ c = 8 ∨ c = 9
  · rw [if_pos c7]; exact ⟨fun z => absurd z (by decide), fun z => absurd z c3⟩
  rw [if_neg c7]; exact ⟨fun z => absurd z c2, fun z => absurd z c3⟩
theorem mkT_3 {c : Int32} : mkT c = 3 ↔ (c = 7 ∨ c = 8 ∨ c = 9) := by
  unfold mkT
  by_cases c1 : c = 1
  · rw [if_pos c1, c1]; decide
  rw [if_neg c1]
  by_cases c2 : c = 2
  · rw [if_pos c2, c2]; decide
  rw [if_neg c2]
  by_cases c3 : c = 3
  · rw [if_pos c3, c3]; decide
  rw [if_neg c3]
  by_cases c7 : c = 7 ∨ c = 8 ∨ c = 9
  · rw [if_pos c7]; exact ⟨fun _ => c7, fun _ => rfl⟩
  rw [if_neg c7]; exact ⟨fun z => absurd z c3, fun z => absurd z c7⟩
def sgF (c : Int32) : Int32 := if c = 4 then 11 else if c = 5 then 12 else if c = 60 then 14 else if c = 61 then 15 else if c = 43 then 16 else if c = 45 then 17 else if c = 42 then 18 else -1
theorem sgF_mk {c : Int32} : sgF (mkT c) = sgF c := by
  have v : ∀ v, (¬ v = -1 ∧ ¬ v = 1 ∧ ¬ v = 2 ∧ ¬ v = 3 ∧ ¬ v = 7 ∧ ¬ v = 8 ∧ ¬ v = 9) → (mkT c = v ↔ c = v) := fun v hv => mkT_v hv
  unfold sgF
  simp only [v 4 (by decide), v 5 (by decide), v 60 (by decide), v 61 (by decide), v 43 (by decide), v 45 (by decide), v 42 (by decide)]
theorem signOf_iff {Q : Int32 → AH → Prop} {h : AH} : p_MO_signOf Q h ↔ Q (sgF (h.1 59 23)) h := by
  unfold p_MO_signOf sgF
  obtain ⟨c, hc⟩ : ∃ c, c = h.1 59 23 := ⟨_, rfl⟩
  rw [← hc]
  by_cases c1 : c = 4
  · rw [nT c1, if_pos c1]
  rw [nF c1, if_neg c1]
  by_cases c2 : c = 5
  · rw [nT c2, if_pos c2]
  rw [nF c2, if_neg c2]
  by_cases c3 : c = 60
  · rw [nT c3, if_pos c3]
  rw [nF c3, if_neg c3]
  by_cases c4 : c = 61
  · rw [nT c4, if_pos c4]
  rw [nF c4, if_neg c4]
  by_cases c5 : c = 43
  · rw [nT c5, if_pos c5]
  rw [nF c5, if_neg c5]
  by_cases c6 : c = 45
  · rw [nT c6, if_pos c6]
  rw [nF c6, if_neg c6]
  by_cases c7 : c = 42
  · rw [nT c7, if_pos c7]
  rw [nF c7, if_neg c7]
section STEPS
variable {b : Nat → Int32} {L t : Nat} {Q : Int32 → AH → Prop} {h0 : AH} {p : Nat} {m : Bool} {H : List Int32} {op : Int32} {o : List Int32}
theorem MX.opens {h : AH} {x : Int32} (hL : L ≤ 160) (R : MX b L t h0 p H op o h) (hb : H.length + o.length < p) (H0 : op = 5 → Q 0 h) (H1 : ¬ op = 5 → ∀ h1, MX b L t h0 p (x :: H) (op + 1) o h1 → tk3 h h1 → Q 1 h1) : p_MO_opensOne Q x h := by
  unfold p_MO_opensOne
  rw [R.2.2.2.1]
  by_cases c : op = 5
  · exact (nT c).mpr (H0 c)
  · refine (nF c).mpr ?_
    obtain ⟨R1, T1⟩ := R.w28 (y := op + 1)
    exact R1.keep hL hb (fun h2 R2 T2 => H1 c h2 R2 (tk3_tr T1 T2))
theorem Gd_val (hL : L ≤ 160) (hK : tkK b L p = 2 ∨ tkK b L p = 3) (G : Gd b L t Q h0 (tkE b L p) false m (unw 7 H op (o ++ [codV b L p])).1 (unw 7 H op (o ++ [codV b L p])).2.1 (unw 7 H op (o ++ [codV b L p])).2.2) : Gd b L t Q h0 p true m H op o := by
  intro n h hn R
  have hp : p ≤ L := R.2.2.2.2.2.2.2.2.1.2
  have hb := R.2.2.2.2.2.2.2.2.1.1
  have hpos := tk_pos (b := b) hp (by rcases hK with e | e <;> rw [e] <;> decide)
  obtain ⟨n', rfl⟩ : ∃ n', n = n' + 1 := ⟨n - 1, by omega⟩
  simp only [p_MO_eRead_14]
  refine R.next hL (fun h1 R1 T1 => ?_)
  obtain ⟨t21, t22, t23, t24⟩ := T1
  refine (pF (by decide)).mpr ?_
  have fin : ∀ x, x = codV b L p → p_MO_eRead_61 Q (p_MO_eRead_14 Q n') (bI m) x h1 := fun x hx => by
    unfold p_MO_eRead_61
    refine R1.puts hL (by omega) (fun h2 R2 T2 => ?_)
    rw [hx] at R2
    exact R2.unwinds (l := 7) hL (by omega) (fun h3 R3 T3 => G n' h3 (by omega) R3)
  unfold p_MO_eRead_38
  rw [t23]
  rcases hK with e | e
  · have v := t24 (Or.inl e)
    have f2 := fin (100000 + h1.1 59 24) (by unfold codV; rw [if_pos e, v])
    rw [e]
    exact (pT rfl).mpr ((nT rfl).mpr f2)
  · have v := t24 (Or.inr (Or.inl e))
    have f2 := fin (h1.1 59 24) (by unfold codV; rw [if_neg (by rw [e]; decide), v])
    rw [e]
    exact (pF (by decide)).mpr ((nT rfl).mpr ((nF (by decide)).mpr f2))
theorem Gd_open {x : Int32} {m' : Bool} (hL : L ≤ 160) (hK : (tkK b L p = 6 ∧ m = true ∧ x = 13 ∧ m' = true) ∨ (tkK b L p = 45 ∧ x = 19 ∧ m' = false) ∨ (tkK b L p = 40 ∧ x = 0 ∧ m' = true)) (HF : op = 5 → QF t Q h0 (tkS b L p)) (G : ¬ op = 5 → Gd b L t Q h0 (tkE b L p) true m' (x :: H) (op + 1) o) : Gd b L t Q h0 p true m H op o := by
  intro n h hn R
  have hp : p ≤ L := R.2.2.2.2.2.2.2.2.1.2
  have hb := R.2.2.2.2.2.2.2.2.1.1
  have hpos := tk_pos (b := b) hp (by rcases hK with e | e | e <;> rw [e.1] <;> decide)
  obtain ⟨n', rfl⟩ : ∃ n', n = n' + 1 := ⟨n - 1, by omega⟩
  simp only [p_MO_eRead_14]
  refine R.next hL (fun h1 R1 T1 => ?_)
  obtain ⟨t21, t22, t23, t24⟩ := T1
  refine (pF (by decide)).mpr ?_
  have fin : ∀ (Q' : Int32 → AH → Prop), (∀ h2, Q 0 h2 → Q' 0 h2) → (∀ h2, p_MO_eRead_14 Q n' 1 (bI m') h2 → Q' 1 h2) → p_MO_opensOne Q' x h1 := fun Q' A B => by
    refine R1.opens hL (by omega) (fun z => A _ (HF z h1 R1.2.2.2.2.2.2.2.1 t22)) (fun z h2 R2 T2 => B h2 ?_)
    exact G z n' h2 (by omega) R2
  unfold p_MO_eRead_99
  rw [t23]
  rcases hK with ⟨e, rfl, rfl, rfl⟩ | ⟨e, rfl, rfl⟩ | ⟨e, rfl, rfl⟩
  · rw [e]
    refine (pF (by decide)).mpr ((nF (by decide)).mpr ((nT rfl).mpr ((pF (by decide)).mpr ?_)))
    exact fin _ (fun h2 z => (nT rfl).mpr z) (fun h2 z => (nF (by decide)).mpr z)
  · rw [e]
    refine (pF (by decide)).mpr ((nF (by decide)).mpr ((nF (by decide)).mpr ((nT rfl).mpr ?_)))
    exact fin _ (fun h2 z => (nT rfl).mpr z) (fun h2 z => (nF (by decide)).mpr z)
  · rw [e]
    refine (pF (by decide)).mpr ((nF (by decide)).mpr ((nF (by decide)).mpr ((nF (by decide)).mpr ((nT rfl).mpr ?_))))
    exact fin _ (fun h2 z => (nT rfl).mpr z) (fun h2 z => (nF (by decide)).mpr z)
theorem Gd_bad (hL : L ≤ 160) (k2 : ¬ tkK b L p = 2) (k3 : ¬ tkK b L p = 3) (k6 : tkK b L p = 6 → m = false) (k45 : ¬ tkK b L p = 45) (k40 : ¬ tkK b L p = 40) (HF : QF t Q h0 (tkS b L p)) : Gd b L t Q h0 p true m H op o := by
  intro n h hn R
  obtain ⟨n', rfl⟩ : ∃ n', n = n' + 1 := ⟨n - 1, by omega⟩
  simp only [p_MO_eRead_14]
  refine R.next hL (fun h1 R1 T1 => ?_)
  obtain ⟨t21, t22, t23, t24⟩ := T1
  refine (pF (by decide)).mpr ?_
  have bad : p_MO_eRead_99 Q (p_MO_eRead_14 Q n') (bI true) h1 := by
    unfold p_MO_eRead_99
    rw [t23]
    exact (nF (fun z => k45 ((mkT_v (by decide)).mp z))).mpr ((nF (fun z => k40 ((mkT_v (by decide)).mp z))).mpr (HF h1 R1.2.2.2.2.2.2.2.1 t22))
  rw [t23]
  refine (pF (fun z => k2 (mkT_1.mp z))).mpr ((nF (fun z => k3 (mkT_2.mp z))).mpr ?_)
  by_cases c : tkK b L p = 6
  · refine (nT ((mkT_v (by decide)).mpr c)).mpr ?_
    rw [k6 c]
    exact (pT rfl).mpr bad
  · exact (nF (fun z => c ((mkT_v (by decide)).mp z))).mpr bad
theorem Gd_semi (hL : L ≤ 160) (hK : tkK b L p = 59) (HS : (unw 1 H op o).1 = [] → ∀ h', MX b L t h0 (tkE b L p) [] (unw 1 H op o).2.1 (unw 1 H op o).2.2 h' → Q 1 h') (HF : ¬ (unw 1 H op o).1 = [] → QF t Q h0 (tkS b L p)) : Gd b L t Q h0 p false m H op o := by
  intro n h hn R
  obtain ⟨n', rfl⟩ : ∃ n', n = n' + 1 := ⟨n - 1, by omega⟩
  simp only [p_MO_eRead_14]
  refine R.next hL (fun h1 R1 T1 => ?_)
  obtain ⟨t21, t22, t23, t24⟩ := T1
  refine (pT rfl).mpr ?_
  rw [t23, hK]
  refine (nT rfl).mpr (R1.unwinds (l := 1) hL (by omega) (fun h2 R2 T2 => ?_))
  have b2 := R2.2.2.2.2.2.2.2.2.1
  by_cases c : (unw 1 H op o).1 = []
  · refine (nT (by rw [R2.2.2.1, c]; rfl)).mpr (HS c h2 ?_)
    rw [c] at R2; exact R2
  · refine (nF (fun z => c ?_)).mpr (HF c h2 R2.2.2.2.2.2.2.2.1 (T2.1.trans t22))
    rw [R2.2.2.1] at z
    have := (nI_inj (b := 0) (by omega) (by decide)).mp z
    exact List.length_eq_zero_iff.mp this
theorem Gd_close (hL : L ≤ 160) (hK : tkK b L p = 41) (HF : (unw 1 H op o).1 = [] → QF t Q h0 (tkS b L p)) (G : ∀ x H2, (unw 1 H op o).1 = x :: H2 → Gd b L t Q h0 (tkE b L p) false m (unw 7 H2 ((unw 1 H op o).2.1 - 1) (unw 1 H op o).2.2).1 (unw 7 H2 ((unw 1 H op o).2.1 - 1) (unw 1 H op o).2.2).2.1 (unw 7 H2 ((unw 1 H op o).2.1 - 1) (unw 1 H op o).2.2).2.2) : Gd b L t Q h0 p false m H op o := by
  intro n h hn R
  have hp : p ≤ L := R.2.2.2.2.2.2.2.2.1.2
  have hpos := tk_pos (b := b) hp (by rw [hK]; decide)
  obtain ⟨n', rfl⟩ : ∃ n', n = n' + 1 := ⟨n - 1, by omega⟩
  simp only [p_MO_eRead_14]
  refine R.next hL (fun h1 R1 T1 => ?_)
  obtain ⟨t21, t22, t23, t24⟩ := T1
  refine (pT rfl).mpr ?_
  rw [t23, hK]
  refine (nF (by decide)).mpr ((nT rfl).mpr (R1.unwinds (l := 1) hL (by omega) (fun h2 R2 T2 => ?_)))
  have b2 := R2.2.2.2.2.2.2.2.2.1
  cases hu : (unw 1 H op o).1 with
  | nil =>
    refine (nT (by rw [R2.2.2.1, hu]; rfl)).mpr (HF hu h2 R2.2.2.2.2.2.2.2.1 (T2.1.trans t22))
  | cons x H2 =>
    rw [hu] at R2 b2
    rw [List.length_cons] at b2
    have e27 : h2.1 59 27 = nI (H2.length + 1) := R2.2.2.1
    refine (nF (fun z => by rw [e27] at z; have := (nI_inj (b := 0) (by omega) (by decide)).mp z; omega)).mpr ?_
    rw [e27, nI_sub1, R2.2.2.2.1]
    obtain ⟨R3, T3⟩ := R2.pop
    obtain ⟨R4, T4⟩ := R3.w28 (y := (unw 1 H op o).2.1 - 1)
    exact R4.unwinds (l := 7) hL (by omega) (fun h5 R5 T5 => G x H2 hu n' h5 (by omega) R5)
def topC : List Int32 → Prop
  | [] => False
  | x :: _ => rk x = 4
def lvS (sg : Int32) : Nat := if rk sg = 4 then 5 else rk sg
theorem between_spec {h : AH} {sg : Int32} (hL : L ≤ 160) (R : MX b L t h0 p H op o h) (hb : H.length + o.length < p) (HF : rk sg = 4 → topC (unw 5 H op o).1 → ∀ h', frE t h0 h' → h'.1 59 22 = h.1 59 22 → Q 0 h') (HG : ¬ (rk sg = 4 ∧ topC (unw 5 H op o).1) → ∀ h', MX b L t h0 p (sg :: (unw (lvS sg) H op o).1) (unw (lvS sg) H op o).2.1 (unw (lvS sg) H op o).2.2 h' → Q 1 h') : p_MO_between Q sg h := by
  have ln := unw_len (lvS sg) H op o
  have k55 : ∀ h2, ¬ (rk sg = 4 ∧ topC (unw 5 H op o).1) → MX b L t h0 p (unw (lvS sg) H op o).1 (unw (lvS sg) H op o).2.1 (unw (lvS sg) H op o).2.2 h2 → p_MO_between_55 Q sg h2 := fun h2 hn R2 => by
    unfold p_MO_between_55
    exact R2.keep hL (by omega) (fun h3 R3 _ => HG hn h3 R3)
  have rk8 := rk_le sg
  unfold p_MO_between
  rw [rank_iff]
  by_cases c : rk sg = 4
  · have lv : lvS sg = 5 := if_pos c
    rw [lv] at k55 ln
    refine (nT (by rw [c]; rfl)).mpr ?_
    unfold p_MO_between_17
    refine R.unwinds (l := 5) hL (by omega) (fun h2 R2 T2 => ?_)
    rw [rank_iff]
    refine (nT (by rw [c]; rfl)).mpr ?_
    have b2 := R2.2.2.2.2.2.2.2.2.1
    cases hu : (unw 5 H op o).1 with
    | nil =>
      refine (pT (by rw [R2.2.2.1, hu]; decide)).mpr (k55 h2 (fun z => ?_) R2)
      rw [hu] at z; exact z.2
    | cons x H2 =>
      have R2' := R2
      rw [hu] at R2' b2
      rw [List.length_cons] at b2
      have e27 : h2.1 59 27 = nI (H2.length + 1) := R2'.2.2.1
      have e75 : h2.1 75 (nI H2.length) = x := R2'.2.2.2.2.2.1.1
      rw [e27, nI_sub1, e75, rank_iff]
      refine (pF (fun z => by have := (nI_leN (b := 0) (by omega) (by decide)).mp z; omega)).mpr ⟨inb_nI (by omega) (by omega), ?_⟩
      by_cases d : rk x = 4
      · refine (nT (by rw [d]; rfl)).mpr (HF c (by rw [hu]; exact d) h2 R2.2.2.2.2.2.2.2.1 T2.1)
      · refine (nF (fun z => d ((nI_inj (b := 4) (by have := rk_le x; omega) (by decide)).mp z))).mpr (k55 h2 (fun z => ?_) R2)
        rw [hu] at z; exact d z.2
  · have lv : lvS sg = rk sg := if_neg c
    rw [lv] at k55 ln
    have nc : ¬ nI (rk sg) = 4 := fun z => c ((nI_inj (b := 4) (by omega) (by decide)).mp z)
    refine (nF nc).mpr ?_
    rw [rank_iff]
    unfold p_MO_between_17
    refine R.unwinds (l := rk sg) hL (by omega) (fun h2 R2 T2 => ?_)
    rw [rank_iff]
    exact (nF nc).mpr (k55 h2 (fun z => c z.1) R2)
theorem Gd_sign {sg : Int32} (hL : L ≤ 160) (hK : sgF (tkK b L p) = sg) (hsg : ¬ sg = -1) (k59 : ¬ tkK b L p = 59) (k41 : ¬ tkK b L p = 41) (HF : rk sg = 4 → topC (unw 5 H op o).1 → QF t Q h0 (tkS b L p)) (G : ¬ (rk sg = 4 ∧ topC (unw 5 H op o).1) → Gd b L t Q h0 (tkE b L p) true (decide (¬ 12 < sg)) (sg :: (unw (lvS sg) H op o).1) (unw (lvS sg) H op o).2.1 (unw (lvS sg) H op o).2.2) : Gd b L t Q h0 p false m H op o := by
  intro n h hn R
  have hp : p ≤ L := R.2.2.2.2.2.2.2.2.1.2
  have hb := R.2.2.2.2.2.2.2.2.1.1
  have hpos := tk_pos (b := b) hp (fun z => by rw [z] at hK; exact hsg hK.symm)
  obtain ⟨n', rfl⟩ : ∃ n', n = n' + 1 := ⟨n - 1, by omega⟩
  simp only [p_MO_eRead_14]
  refine R.next hL (fun h1 R1 T1 => ?_)
  obtain ⟨t21, t22, t23, t24⟩ := T1
  refine (pT rfl).mpr ?_
  rw [signOf_iff, t23, sgF_mk, hK]
  refine (nF (fun z => k59 ((mkT_v (by decide)).mp z))).mpr ((nF (fun z => k41 ((mkT_v (by decide)).mp z))).mpr ((pF hsg).mpr ?_))
  refine between_spec hL R1 (by omega) (fun z1 z2 h2 f2 e2 => (nT rfl).mpr (HF z1 z2 h2 f2 (e2.trans t22))) (fun z h2 R2 => (nF (by decide)).mpr ?_)
  have g := G z n' h2 (by omega) R2
  unfold p_MO_eRead_262
  by_cases c : 12 < sg
  · have e : decide (¬ 12 < sg) = false := by simp [c]
    rw [e] at g
    exact (pT c).mpr g
  · have e : decide (¬ 12 < sg) = true := by simp [c]
    rw [e] at g
    exact (pF c).mpr g
theorem Gd_stop (hL : L ≤ 160) (hK : sgF (tkK b L p) = -1) (k59 : ¬ tkK b L p = 59) (k41 : ¬ tkK b L p = 41) (HF : QF t Q h0 (tkS b L p)) : Gd b L t Q h0 p false m H op o := by
  intro n h hn R
  obtain ⟨n', rfl⟩ : ∃ n', n = n' + 1 := ⟨n - 1, by omega⟩
  simp only [p_MO_eRead_14]
  refine R.next hL (fun h1 R1 T1 => ?_)
  obtain ⟨t21, t22, t23, t24⟩ := T1
  refine (pT rfl).mpr ?_
  rw [signOf_iff, t23, sgF_mk, hK]
  exact (nF (fun z => k59 ((mkT_v (by decide)).mp z))).mpr ((nF (fun z => k41 ((mkT_v (by decide)).mp z))).mpr ((pT rfl).mpr (HF h1 R1.2.2.2.2.2.2.2.1 t22)))
end STEPS
