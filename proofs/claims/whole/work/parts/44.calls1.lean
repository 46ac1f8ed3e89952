/-! pure: calls that think: of, all, first, bring, weight, on both sides -/
def goD (E : EV) (hi : Nat → Int32) (n : Nat) : DS := goF E noC n 0 (bornF hi)
def withP (E : EV) (p : Nat → Int32) : EV := (E.N, E.kind, E.told, E.more, p, E.partner, E.c)
theorem withP_ok {E : EV} {p : Nat → Int32} (e : E.ok) : (withP E p).ok := e
theorem CRep.addP {E : EV} {h : AH} {k : Nat} {x : Int32} (n7 : E.N ≤ 7) (hk : k < E.N) (R : CRep E h) : CRep (withP E (upN E.people k x)) (wI h 16 (nI k) x) := by
  obtain ⟨t, h1, h2, h3⟩ := R.text
  refine ⟨R.n, rowR_up (n := E.N) (by omega) hk R.people, R.partner, fun j hj => ?_, t, h1, h2, ?_, ?_⟩
  · obtain ⟨a1, a2, a3, a4, a5, a6⟩ := R.ho j hj
    have ne : ¬ rR T1 h 18 j - 1 = 16 := isHo_ne (b := 16) (n := 7) a2 rfl
    exact ⟨a1, a2, a3, by rw [wI_r, show rR T1 (wI h 16 (nI k) x) 18 j - 1 = rR T1 h 18 j - 1 from rfl, if_neg ne]; exact a4, by rw [wI_r, show rR T1 (wI h 16 (nI k) x) 18 j - 1 = rR T1 h 18 j - 1 from rfl, if_neg ne]; exact a5, by rw [wI_r, show rR T1 (wI h 16 (nI k) x) 18 j - 1 = rR T1 h 18 j - 1 from rfl, if_neg ne]; exact a6⟩
  · rw [wI_r, if_neg (show ¬ 35 + 3 * t = 16 by omega)]; exact h3.1
  · rw [wI_r, if_neg (show ¬ 34 + 3 * t = 16 by omega)]; exact h3.2
theorem MRep.addP {E : EV} {h : AH} {k : Nat} {x : Int32} (n7 : E.N ≤ 7) (hk : k < E.N) (R : MRep E h) : MRep (withP E (upN E.people k x)) (wI h 64 (nI k) x) :=
  ⟨R.n, R.kind, R.told, R.more, rowR_up (n := E.N) (by omega) hk R.people, R.partner, R.text⟩
theorem frV_back {h h' : AH} {b : Nat} {k x y : Int32} (f : frV (wI h b k x) h') (hb : b ∉ (59 :: SM)) (hy : y = h.1 b k) : frV h (wI h' b k y) := by
  refine ⟨f.1, fun c hc => ?_, fun j hj => ?_⟩
  · rw [wI_r]
    by_cases e : c = b
    · subst e
      rw [if_pos rfl, f.2.1 c hc, wI_r, if_pos rfl, up_up, up_id hy.symm]
    · rw [if_neg e, f.2.1 c hc, wI_r, if_neg e]
  · have n59 : ¬ 59 = b := fun z => hb (by rw [← z]; exact List.mem_cons_self)
    rw [wI_r, if_neg n59, f.2.2 j hj, wI_r, if_neg n59]
theorem frR_w {h h' : AH} {b : Nat} {k x : Int32} (f : frR h h') (hb : b ∈ SD) : frR h (wI h' b k x) := ⟨f.1, f.2.1, f.2.2.1, fun c hc => by
  have : ¬ c = b := fun e => hc (e ▸ hb)
  rw [wI_r, if_neg this]; exact f.2.2.2 c hc⟩
theorem both_of {x1 x2 x3 : Int32} {h : AH} (I : Inv h) : p_UF_of (fun r1 h1 => p_MO_of (K2 r1) x1 x2 x3 h1) x1 x2 x3 h := by
  obtain ⟨E, hi, T⟩ := Tn_of I
  have n7 := T.1.n7
  unfold p_UF_of
  rw [UF_isSpan_iff]
  by_cases c1 : 0 ≤ x1 ∧ x1 ≤ 24
  · rw [b01_t c1]
    refine (pF (by decide)).mpr ?_
    rw [UF_isHouse_iff]
    by_cases c2 : 0 ≤ x2 ∧ x2 ≤ h.1 5 3 - 1
    · rw [b01_t c2]
      refine (nF (by decide)).mpr ?_
      rw [UF_within_iff]
      by_cases c3 : 0 ≤ x3 ∧ x3 ≤ 4
      · rw [b01_t c3]
        refine (nF (by decide)).mpr ?_
        obtain ⟨n, hn, rfl⟩ := spanN.mp c1
        obtain ⟨k, hk, rfl⟩ := (houseC T).mp c2
        have ik : inb (nI k) 7 := inb_nI (by omega) (by omega)
        refine UF_ready_spec T.1 T.2.2.1 (fun h1 f1 R1 M1 => ?_)
        refine Dusk_go_spec T.1 hn R1 M1 T.hiOk (fun h2 f2 M2 => ?_)
        have R2 := R1.tr f2 (fun _ z => z)
        have f12 : frR h h2 := frR_tr f1 (frR_SC f2)
        have fin : ∀ v h3, frR h h3 → (∀ h4, MRep E h4 → MD E.N (goD E hi n) h4 → frI h h4 → ((x3 = 0 → inb (nI k) 7 ∧ K2 v (h4.1 78 (nI k)) h4) ∧ (x3 = 1 → inb (nI k) 7 ∧ K2 v (h4.1 79 (nI k)) h4) ∧ (x3 = 2 → inb (nI k) 7 ∧ K2 v (h4.1 81 (nI k)) h4) ∧ (x3 = 3 → inb (nI k) 7 ∧ K2 v (h4.1 82 (nI k)) h4) ∧ (¬ x3 = 0 → ¬ x3 = 1 → ¬ x3 = 2 → ¬ x3 = 3 → p_MO_weighs (fun r13 h12 => K2 v r13 h12) (nI k) (nI n) h4))) → p_MO_of (K2 v) (nI n) (nI k) x3 h3 := fun v h3 f3 H => by
          have T3 := Tn_I (frI_R f3) T
          unfold p_MO_of
          rw [MO_isMany_iff, b01_t c1]
          refine (pF (by decide)).mpr ?_
          rw [MO_isHouse_iff, b01_t ((houseM T3).mpr ⟨k, hk, rfl⟩)]
          refine (nF (by decide)).mpr ?_
          rw [MO_in_iff, b01_t c3]
          refine (nF (by decide)).mpr ?_
          exact MO_lives_spec T.1 hn T3.2.2.2.1 T3.2.2.2.2 (fun h4 f4 M4 => H h4 (T3.2.2.2.1.tr (keepM_frV f4)) M4 (frI_tr (frI_R f3) (frI_V f4)))
        by_cases d0 : x3 = 0
        · subst d0
          refine ⟨fun _ => ⟨ik, ?_⟩, fun z => absurd z (by decide), fun z => absurd z (by decide), fun z => absurd z (by decide), fun z => absurd rfl z⟩
          exact fin _ h2 f12 (fun h4 R4 M4 f4 => ⟨fun _ => ⟨ik, (M2.hi k hk).trans (M4.hi k hk).symm, Inv_I f4 I⟩, fun z => absurd z (by decide), fun z => absurd z (by decide), fun z => absurd z (by decide), fun z => absurd rfl z⟩)
        by_cases d1 : x3 = 1
        · subst d1
          refine ⟨fun z => absurd z (by decide), fun _ => ⟨ik, ?_⟩, fun z => absurd z (by decide), fun z => absurd z (by decide), fun _ z => absurd rfl z⟩
          exact fin _ h2 f12 (fun h4 R4 M4 f4 => ⟨fun z => absurd z (by decide), fun _ => ⟨ik, (M2.mv k hk).trans (M4.mv k hk).symm, Inv_I f4 I⟩, fun z => absurd z (by decide), fun z => absurd z (by decide), fun _ z => absurd rfl z⟩)
        by_cases d2 : x3 = 2
        · subst d2
          refine ⟨fun z => absurd z (by decide), fun z => absurd z (by decide), fun _ => ⟨ik, ?_⟩, fun z => absurd z (by decide), fun _ _ z => absurd rfl z⟩
          exact fin _ h2 f12 (fun h4 R4 M4 f4 => ⟨fun z => absurd z (by decide), fun z => absurd z (by decide), fun _ => ⟨ik, (M2.lh k hk).trans (M4.lh k hk).symm, Inv_I f4 I⟩, fun z => absurd z (by decide), fun _ _ z => absurd rfl z⟩)
        by_cases d3 : x3 = 3
        · subst d3
          refine ⟨fun z => absurd z (by decide), fun z => absurd z (by decide), fun z => absurd z (by decide), fun _ => ⟨ik, ?_⟩, fun _ _ _ z => absurd rfl z⟩
          exact fin _ h2 f12 (fun h4 R4 M4 f4 => ⟨fun z => absurd z (by decide), fun z => absurd z (by decide), fun z => absurd z (by decide), fun _ => ⟨ik, (M2.ht k hk).trans (M4.ht k hk).symm, Inv_I f4 I⟩, fun _ _ _ z => absurd rfl z⟩)
        refine ⟨fun z => absurd z d0, fun z => absurd z d1, fun z => absurd z d2, fun z => absurd z d3, fun _ _ _ _ => ?_⟩
        refine Dusk_weighs_spec T.1 R2 M2 hk (fun h3 f3 => ?_)
        refine fin _ h3 (frR_tr f12 (frR_frm f3 (by decide))) (fun h4 R4 M4 f4 => ⟨fun z => absurd z d0, fun z => absurd z d1, fun z => absurd z d2, fun z => absurd z d3, fun _ _ _ _ => ?_⟩)
        exact MO_weighs_spec T.1 R4 M4 hk (fun h5 f5 => ⟨rfl, Inv_I (frI_tr f4 (frI_V (frV_frm f5 (by decide)))) I⟩)
      · rw [b01_f c3]
        refine (nT rfl).mpr ?_
        show p_MO_of (K2 _) _ _ _ _
        unfold p_MO_of
        rw [MO_isMany_iff, b01_t c1]
        refine (pF (by decide)).mpr ?_
        rw [MO_isHouse_iff, b01_t ((houseM T).mpr ((houseC T).mp c2))]
        refine (nF (by decide)).mpr ?_
        rw [MO_in_iff, b01_f c3]
        exact (nT rfl).mpr ⟨rfl, I⟩
    · rw [b01_f c2]
      refine (nT rfl).mpr ?_
      show p_MO_of (K2 _) _ _ _ _
      unfold p_MO_of
      rw [MO_isMany_iff, b01_t c1]
      refine (pF (by decide)).mpr ?_
      rw [MO_isHouse_iff, b01_f (fun z => c2 ((houseC T).mpr ((houseM T).mp z)))]
      exact (nT rfl).mpr ⟨rfl, I⟩
  · rw [b01_f c1]
    refine (pT rfl).mpr ?_
    show p_MO_of (K2 _) _ _ _ _
    unfold p_MO_of
    rw [MO_isMany_iff, b01_f c1]
    exact (pT rfl).mpr ⟨rfl, I⟩
