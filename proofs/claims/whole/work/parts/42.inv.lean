/-! pure: what holds between two calls -/
def wordL : List Nat := [119, 101, 105, 103, 104, 115, 32, 32, 104, 111, 108, 100, 115, 32, 32, 32, 104, 105, 116, 115, 32, 32, 32, 32, 116, 111, 108, 100, 32, 32, 32, 32, 112, 101, 111, 112, 108, 101, 32, 32, 109, 111, 114, 101, 32, 32, 32, 32, 104, 105, 103, 104, 32, 32, 32, 32, 109, 105, 110, 117, 116, 101, 32, 32, 115, 112, 101, 101, 100, 32, 32, 32, 111, 114, 32, 32, 32, 32, 32, 32, 97, 110, 100, 32, 32, 32, 32, 32, 110, 111, 116, 32, 32, 32, 32, 32]
def Wds (h : AH) : Prop := ∀ i, i < 96 → h.1 74 (nI i) = nI (wordL.getD i 0)
def MTn (E : EV) (hi : Nat → Int32) (h : AH) : Prop := MRep E h ∧ rowR E.N (h.1 63) hi
def okC (c : Nat → List Int32) : Prop := (∀ p, p < 3 → wfS (c p) 0) ∧ offC c 3 ≤ 160
def Txt (nT r : Nat) (C : Nat → Nat → List Int32) (h : AH) : Prop := 1 ≤ nT ∧ nT ≤ 6 ∧ r < nT ∧ h.1 0 8 = nI nT ∧ h.1 59 11 = nI nT ∧ h.1 5 4 = nI r ∧ h.1 59 12 = nI r ∧ ∀ t, t < nT → okC (C t) ∧ CT h t (C t) ∧ MT h t (C t)
def Tape (h : AH) : Prop := ∃ L, L ≤ 160 ∧ h.1 0 9 = nI L ∧ h.1 59 8 = nI L ∧ ∀ j, j < L → h.1 4 (nI j) = h.1 66 (nI j) ∧ 0 ≤ (h.1 66 (nI j)).toInt ∧ (h.1 66 (nI j)).toInt ≤ 255
def rng (K : Nat) (hi pe pa : Nat → Int32) : Prop := ∀ k, k < K → (0 ≤ (hi k).toInt ∧ (hi k).toInt ≤ 9) ∧ (0 ≤ (pe k).toInt ∧ (pe k).toInt ≤ 20) ∧ (pa k = -1 ∨ ∃ j, j < K ∧ pa k = nI j)
def Img (N nT : Nat) (h : AH) : Prop := h.1 59 13 = h.1 0 10 ∧ (¬ h.1 0 10 = 0 → ∃ K r hi pe pa, K ≤ N ∧ r < nT ∧ h.1 9 3 = nI K ∧ h.1 59 14 = nI K ∧ h.1 9 4 = nI r ∧ h.1 59 15 = nI r ∧ rng K hi pe pa ∧ rowR K (h.1 10) hi ∧ rowR K (h.1 11) pe ∧ rowR K (h.1 12) pa ∧ ∀ k, k < K → h.1 69 (nI k) = hi k ∧ h.1 69 (nI (7 + k)) = pe k ∧ h.1 69 (nI (14 + k)) = pa k)
def Sh (h : AH) : Prop := ∀ s, s < 4 → h.1 (51 + 2 * s) 1 = h.1 70 (nI s) ∧ (-1 ≤ (h.1 70 (nI s)).toInt ∧ (h.1 70 (nI s)).toInt ≤ 2) ∧ (∃ n, n ≤ 40 ∧ h.1 (51 + 2 * s) 2 = nI n ∧ h.1 71 (nI s) = nI n) ∧ ∀ i, i < 40 → h.1 (52 + 2 * s) (nI i) = h.1 72 (nI (40 * s + i))
def InvB (E : EV) (hi : Nat → Int32) (nT r : Nat) (C : Nat → Nat → List Int32) (h : AH) : Prop := E.ok ∧ E.c = C r ∧ rng E.N hi E.people E.partner ∧ CTn E hi h ∧ MTn E hi h ∧ Txt nT r C h ∧ Tape h ∧ Img E.N nT h ∧ Sh h ∧ Wds h
def Inv (h : AH) : Prop := ∃ E hi nT r C, InvB E hi nT r C h
/-- what a thought leaves as it was -/
def frI (h h' : AH) : Prop := h'.2.2.2 = h.2.2.2 ∧ (∀ a, ¬ a = 13 → ¬ a = 18 → ¬ a = 25 → h'.2.2.1 a = h.2.2.1 a) ∧ (∀ b, b ∉ (59 :: (SD ++ SM)) → h'.1 b = h.1 b) ∧ ∀ k, ¬ k = 37 → h'.1 59 k = h.1 59 k
theorem frI_R {h h' : AH} (f : frR h h') : frI h h' := by
  refine ⟨f.2.1, fun a x y _ => f.2.2.1 a x y, fun b hb => f.2.2.2 b (fun z => hb (List.mem_cons_of_mem _ (List.mem_append_left _ z))), fun k _ => ?_⟩
  rw [f.2.2.2 59 (by decide)]
theorem frI_V {h h' : AH} (f : frV h h') : frI h h' := by
  refine ⟨by rw [f.1], fun a _ _ _ => by rw [f.1], fun b hb => f.2.1 b (fun z => ?_), f.2.2⟩
  rcases List.mem_cons.mp z with z | z
  · exact hb (by rw [z]; exact List.mem_cons_self)
  · exact hb (List.mem_cons_of_mem _ (List.mem_append_right _ z))
theorem frI_tr {h h' h2 : AH} (a : frI h h') (b : frI h' h2) : frI h h2 := ⟨b.1.trans a.1, fun c x y z => (b.2.1 c x y z).trans (a.2.1 c x y z), fun c x => (b.2.2.1 c x).trans (a.2.2.1 c x), fun c x => (b.2.2.2 c x).trans (a.2.2.2 c x)⟩
theorem frI_rf {h : AH} : frI h h := ⟨rfl, fun _ _ _ _ => rfl, fun _ _ => rfl, fun _ _ => rfl⟩
theorem notSM {h0 : AH} {a : Nat} (h : famA T1 h0 a) : a ∉ (59 :: (SD ++ SM)) := fun z => by
  rcases List.mem_cons.mp z with z | z
  · have h2 : famP (rS T1 h0 59).1 := by rw [← z]; exact h.2
    have h3 : famP 12 := h2
    rcases h3 with h3 | h3 | h3 | h3 | h3 | h3 <;> exact absurd h3 (by decide)
  · rcases List.mem_append.mp z with z | z
    · exact isHo_SD h z
    · simp only [SM, List.mem_cons, List.not_mem_nil, or_false] at z
      rcases z with z | z | z | z | z | z | z
      · exact isHo_ne (b := 76) (n := 200) h rfl z
      · exact isHo_ne (b := 77) (n := 6) h rfl z
      · exact isHo_ne (b := 78) (n := 7) h rfl z
      · exact isHo_ne (b := 79) (n := 7) h rfl z
      · exact isHo_ne (b := 80) (n := 7) h rfl z
      · exact isHo_ne (b := 81) (n := 7) h rfl z
      · exact isHo_ne (b := 82) (n := 7) h rfl z
theorem famA_I {h h' : AH} {a : Nat} (f : frI h h') (H : famA T1 h a) : famA T1 h' a := ⟨by unfold vA nC; rw [f.1]; exact H.1, by unfold rS; rw [f.1]; exact H.2⟩
theorem isHo_I {h h' : AH} {a : Nat} {x y z : Int32} (f : frI h h') (H : isHo h a x y z) : isHo h' a x y z := by
  obtain ⟨h1, h2, h3, h4, h5⟩ := H
  have e := f.2.2.1 a (notSM h1)
  exact ⟨famA_I f h1, by unfold rS; rw [f.1]; exact h2, by rw [e]; exact h3, by rw [e]; exact h4, by rw [e]; exact h5⟩
theorem rR1_I {h h' : AH} {k : Nat} (f : frI h h') : rR T1 h' 1 k = rR T1 h 1 k := by
  show h'.2.2.1 1 k = h.2.2.1 1 k
  rw [f.2.1 1 (by decide) (by decide) (by decide)]
theorem notScr (b : Nat) (h : b < 14 ∨ (24 < b ∧ b < 59) ∨ (59 < b ∧ b < 76)) : b ∉ (59 :: (SD ++ SM)) := fun z => by
  simp only [SD, SM, List.mem_cons, List.mem_append, List.not_mem_nil, or_false] at z
  omega
theorem CT_I {h h' : AH} {t : Nat} {c : Nat → List Int32} (f : frI h h') (ht : t < 6) (H : CT h t c) : CT h' t c := by
  exact ⟨by rw [f.2.2.1 _ (notScr (35 + 3 * t) (by omega))]; exact H.1, by rw [f.2.2.1 _ (notScr (34 + 3 * t) (by omega))]; exact H.2⟩
theorem MT_I {h h' : AH} {t : Nat} {c : Nat → List Int32} (f : frI h h') (H : MT h t c) : MT h' t c := by
  exact ⟨by rw [f.2.2.1 _ (notScr 68 (by omega))]; exact H.1, by rw [f.2.2.1 _ (notScr 67 (by omega))]; exact H.2⟩
theorem CTn_I {E : EV} {hi : Nat → Int32} {h h' : AH} (f : frI h h') (H : CTn E hi h) : CTn E hi h' := by
  obtain ⟨h1, h2, h3, h4, h5, h6, t, h7, h8, h9⟩ := H
  refine ⟨by rw [f.2.2.1 5 (by decide)]; exact h1, by rw [f.2.2.1 6 (by decide)]; exact h2, by rw [f.2.2.1 7 (by decide)]; exact h3, by rw [f.2.2.1 8 (by decide)]; exact h4, fun k hk => ?_, fun k hk => ?_, t, h7, by rw [f.2.2.1 5 (by decide)]; exact h8, CT_I f h7 h9⟩
  · rw [rR1_I f]; exact ⟨(h5 k hk).1, famA_I f (h5 k hk).2⟩
  · rw [rR1_I f]; exact isHo_I f (h6 k hk)
theorem keepM_I {h h' : AH} (f : frI h h') : keepM h h' :=
  ⟨f.2.2.2 0 (by decide), f.2.2.2 12 (by decide), f.2.2.1 60 (by decide), f.2.2.1 61 (by decide), f.2.2.1 62 (by decide), f.2.2.1 64 (by decide), f.2.2.1 65 (by decide), f.2.2.1 67 (by decide), f.2.2.1 68 (by decide)⟩
theorem MTn_I {E : EV} {hi : Nat → Int32} {h h' : AH} (f : frI h h') (H : MTn E hi h) : MTn E hi h' := ⟨H.1.tr (keepM_I f), by rw [f.2.2.1 63 (by decide)]; exact H.2⟩
theorem Txt_I {nT r : Nat} {C : Nat → Nat → List Int32} {h h' : AH} (f : frI h h') (H : Txt nT r C h) : Txt nT r C h' := by
  obtain ⟨a1, a2, a3, a4, a5, a6, a7, a8⟩ := H
  exact ⟨a1, a2, a3, by rw [f.2.2.1 0 (by decide)]; exact a4, by rw [f.2.2.2 11 (by decide)]; exact a5, by rw [f.2.2.1 5 (by decide)]; exact a6, by rw [f.2.2.2 12 (by decide)]; exact a7, fun t ht => ⟨(a8 t ht).1, CT_I f (by omega) (a8 t ht).2.1, MT_I f (a8 t ht).2.2⟩⟩
theorem Tape_I {h h' : AH} (f : frI h h') (H : Tape h) : Tape h' := by
  obtain ⟨L, a1, a2, a3, a4⟩ := H
  exact ⟨L, a1, by rw [f.2.2.1 0 (by decide)]; exact a2, by rw [f.2.2.2 8 (by decide)]; exact a3, by rw [f.2.2.1 4 (by decide), f.2.2.1 66 (by decide)]; exact a4⟩
theorem Img_I {N nT : Nat} {h h' : AH} (f : frI h h') (H : Img N nT h) : Img N nT h' := by
  unfold Img
  rw [f.2.2.2 13 (by decide), f.2.2.2 14 (by decide), f.2.2.2 15 (by decide), f.2.2.1 0 (by decide), f.2.2.1 9 (by decide), f.2.2.1 10 (by decide), f.2.2.1 11 (by decide), f.2.2.1 12 (by decide), f.2.2.1 69 (by decide)]
  exact H
theorem Sh_I {h h' : AH} (f : frI h h') (H : Sh h) : Sh h' := fun s hs => by
  rw [f.2.2.1 70 (by decide), f.2.2.1 71 (by decide), f.2.2.1 72 (by decide), f.2.2.1 _ (notScr (51 + 2 * s) (by omega)), f.2.2.1 _ (notScr (52 + 2 * s) (by omega))]
  exact H s hs
theorem Inv_I {h h' : AH} (f : frI h h') (H : Inv h) : Inv h' := by
  obtain ⟨E, hi, nT, r, C, a1, a2, a3, a4, a5, a6, a7, a8, a9, a10⟩ := H
  exact ⟨E, hi, nT, r, C, a1, a2, a3, CTn_I f a4, MTn_I f a5, Txt_I f a6, Tape_I f a7, Img_I f a8, Sh_I f a9, by unfold Wds; rw [f.2.2.1 74 (by decide)]; exact a10⟩
/-- the town of a thought -/
def Tn (E : EV) (hi : Nat → Int32) (h : AH) : Prop := E.ok ∧ rng E.N hi E.people E.partner ∧ CTn E hi h ∧ MTn E hi h
theorem Tn_of {h : AH} (I : Inv h) : ∃ E hi, Tn E hi h := by
  obtain ⟨E, hi, nT, r, C, a1, a2, a3, a4, a5, a6⟩ := I
  exact ⟨E, hi, a1, a3, a4, a5⟩
theorem Tn_I {E : EV} {hi : Nat → Int32} {h h' : AH} (f : frI h h') (H : Tn E hi h) : Tn E hi h' := ⟨H.1, H.2.1, CTn_I f H.2.2.1, MTn_I f H.2.2.2⟩
theorem Tn.hiOk {E : EV} {hi : Nat → Int32} {h : AH} (T : Tn E hi h) : hiOk E.N (bornF hi) := fun k hk => (T.2.1 k hk).1
/-- the last step of a call on both sides -/
abbrev K2 (r1 : Int32) : Int32 → AH → Prop := fun r2 h2 => r1 = r2 ∧ Inv h2
theorem houseN {N : Nat} {x : Int32} (hN : N ≤ 7) : (0 ≤ x ∧ x ≤ nI N - 1) ↔ ∃ k, k < N ∧ x = nI k := by
  have e : (nI N).toInt = N := nI_toInt (by omega)
  rw [in_of (by rw [e]; omega), e]
  constructor
  · intro ⟨h1, h2⟩
    exact ⟨x.toInt.toNat, by omega, nI_ofT h1⟩
  · rintro ⟨k, hk, rfl⟩
    rw [nI_toInt (by omega)]; omega
theorem upto {x : Int32} {n : Nat} (hn : n < 1000000) : (0 ≤ x ∧ x ≤ nI n) ↔ ∃ k, k ≤ n ∧ x = nI k := by
  rw [Int32.le_iff_toInt_le, Int32.le_iff_toInt_le, Int32.toInt_zero, nI_toInt (by omega)]
  constructor
  · intro ⟨h1, h2⟩
    exact ⟨x.toInt.toNat, by omega, nI_ofT h1⟩
  · rintro ⟨k, hk, rfl⟩
    rw [nI_toInt (by omega)]; omega
theorem houseC {E : EV} {hi : Nat → Int32} {h : AH} {x : Int32} (T : Tn E hi h) : (0 ≤ x ∧ x ≤ h.1 5 3 - 1) ↔ ∃ k, k < E.N ∧ x = nI k := by
  rw [T.2.2.1.1]; exact houseN T.1.n7
theorem houseM {E : EV} {hi : Nat → Int32} {h : AH} {x : Int32} (T : Tn E hi h) : (0 ≤ x ∧ x ≤ h.1 59 0 - 1) ↔ ∃ k, k < E.N ∧ x = nI k := by
  rw [T.2.2.2.1.n]; exact houseN T.1.n7
theorem spanN {x : Int32} : (0 ≤ x ∧ x ≤ 24) ↔ ∃ k, k ≤ 24 ∧ x = nI k := upto (n := 24) (by decide)
theorem both_when {x : Int32} {h : AH} (I : Inv h) : p_UF_when (fun r1 h1 => p_MO_when (K2 r1) x h1) x h := by
  obtain ⟨E, hi, T⟩ := Tn_of I
  unfold p_UF_when
  rw [UF_isHouse_iff]
  by_cases hx : 0 ≤ x ∧ x ≤ h.1 5 3 - 1
  · rw [b01_t hx]
    obtain ⟨k, hk, rfl⟩ := (houseC T).mp hx
    refine (nF (by decide)).mpr ?_
    refine UF_ready_spec T.1 T.2.2.1 (fun h1 f1 R1 M1 => ?_)
    refine Dusk_firstDown_spec T.1 hk T.hiOk R1 M1 (fun h2 f2 => ?_)
    have f : frI h h2 := frI_R (frR_tr f1 (frR_SC f2))
    have T2 := Tn_I f T
    show p_MO_when (K2 _) _ _
    unfold p_MO_when
    rw [MO_isHouse_iff, b01_t ((houseM T2).mpr ⟨k, hk, rfl⟩)]
    refine (pF (by decide)).mpr ?_
    exact MO_whenOf_spec T.1 hk T2.2.2.2.1 T2.2.2.2.2 (fun h3 f3 => ⟨rfl, Inv_I (frI_tr f (frI_V f3)) I⟩)
  · rw [b01_f hx]
    refine (nT rfl).mpr ?_
    show p_MO_when (K2 _) _ _
    unfold p_MO_when
    rw [MO_isHouse_iff, b01_f (fun z => hx ((houseC T).mpr ((houseM T).mp z)))]
    exact (pT rfl).mpr ⟨rfl, I⟩
