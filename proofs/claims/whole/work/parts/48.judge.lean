/-! pure: told heights: judge, times -/
def refF (h : AH) (x : Int32) : Int32 := if 0 ≤ x ∧ x ≤ 3 then (if h.1 70 x = -1 then -11 else if h.1 71 x = h.1 59 0 then 0 else -2) else -2
theorem refF_I {h h' : AH} {x : Int32} (f : frI h h') : refF h' x = refF h x := by
  unfold refF; rw [f.2.2.1 70 (by decide), f.2.2.1 71 (by decide), f.2.2.2 0 (by decide)]
theorem sheetN {x : Int32} : (0 ≤ x ∧ x ≤ 3) ↔ ∃ s, s < 4 ∧ x = nI s := by
  have h := upto (x := x) (n := 3) (by decide)
  constructor
  · intro z; obtain ⟨k, hk, e⟩ := h.mp z; exact ⟨k, by omega, e⟩
  · rintro ⟨k, hk, e⟩; exact h.mpr ⟨k, by omega, e⟩
theorem sheetT {s : Nat} (hs : s < 4) (h : AH) : rR T1 h 3 s = 51 + 2 * s + 1 ∧ vA T1 h (51 + 2 * s) ∧ (rS T1 h (51 + 2 * s)).1 = 8 ∧ rR T1 h (51 + 2 * s) 0 = 52 + 2 * s + 1 ∧ vA T1 h (52 + 2 * s) ∧ rS T1 h (52 + 2 * s) = (100, 40) := by
  have h6 : s = 0 ∨ s = 1 ∨ s = 2 ∨ s = 3 := by omega
  refine ⟨?_, vA_s (show _ < 84 by omega), ?_, ?_, vA_s (show _ < 84 by omega), ?_⟩ <;> (rcases h6 with rfl | rfl | rfl | rfl <;> rfl)
theorem UF_refusal {x : Int32} {h : AH} {Q : Int32 → AH → Prop} (S : Sh h) (hN : h.1 5 3 = h.1 59 0) (HQ : Q (refF h x) h) : p_UF_tellingRefusal Q x h := by
  unfold p_UF_tellingRefusal
  rw [UF_isSheet_iff]
  unfold refF at HQ
  by_cases c1 : 0 ≤ x ∧ x ≤ 3
  · rw [b01_t c1]; rw [if_pos c1] at HQ
    obtain ⟨s, hs, rfl⟩ := sheetN.mp c1
    obtain ⟨t1, t2, t3, t4, t5, t6⟩ := sheetT hs h
    obtain ⟨s1, s2, ⟨n, n40, s3, s4⟩, s5⟩ := S s hs
    refine (nF (by decide)).mpr ?_
    rw [nI_clamp (by omega), t1, Nat.add_sub_cancel, s1, s3, ← s4, hN]
    refine ⟨inb_nI (by omega) (by omega), Nat.succ_pos _, t2, t3, ?_⟩
    by_cases c2 : h.1 70 (nI s) = -1
    · rw [nT c2]; rwa [if_pos c2] at HQ
    · rw [nF c2]; rw [if_neg c2] at HQ
      by_cases c3 : h.1 71 (nI s) = h.1 59 0
      · rw [nT c3]; rwa [if_pos c3] at HQ
      · rw [nF c3]; rwa [if_neg c3] at HQ
  · rw [b01_f c1]; rw [if_neg c1] at HQ
    exact (nT rfl).mpr HQ
theorem MO_refusal {x : Int32} {h : AH} {Q : Int32 → AH → Prop} (HQ : Q (refF h x) h) : p_MO_sheetWrong Q x h := by
  unfold p_MO_sheetWrong
  rw [MO_in_iff]
  unfold refF at HQ
  by_cases c1 : 0 ≤ x ∧ x ≤ 3
  · rw [b01_t c1]; rw [if_pos c1] at HQ
    obtain ⟨s, hs, rfl⟩ := sheetN.mp c1
    refine (nF (by decide)).mpr ⟨inb_nI (by omega) (by omega), ?_⟩
    by_cases c2 : h.1 70 (nI s) = -1
    · rw [nT c2]; rwa [if_pos c2] at HQ
    · rw [nF c2]; rw [if_neg c2] at HQ
      by_cases c3 : h.1 71 (nI s) = h.1 59 0
      · rw [nT c3]; rwa [if_pos c3] at HQ
      · rw [nF c3]; rwa [if_neg c3] at HQ
  · rw [b01_f c1]; rw [if_neg c1] at HQ
    exact (nT rfl).mpr HQ
def unlikeN (c hi : Nat → Int32) : Nat → Nat → Int32
  | 0, _ => -1
  | n + 1, k => if c k = hi k then unlikeN c hi n (k + 1) else nI k
theorem other_loop {N s : Nat} {c hi : Nat → Int32} {h : AH} {Q : Int32 → AH → Prop} (n7 : N ≤ 7) (hs : s < 4) (hN : h.1 14 3 = nI N) (M : rowR N (h.1 15) hi) (C : rowR 40 (h.1 (52 + 2 * s)) c) : ∀ (cnt k : Nat), k + cnt = N → Q (unlikeN c hi cnt k) h → p_Sheet_firstOtherwise_2 Q (cnt + 1) (51 + 2 * s) 14 (nI k) h := by
  intro cnt
  obtain ⟨t1, t2, t3, t4, t5, t6⟩ := sheetT hs h
  induction cnt with
  | zero =>
    intro k hk HQ
    have hk' : k = N := by omega
    subst hk'
    simp only [p_Sheet_firstOtherwise_2]
    rw [hN, pT (Int32.le_refl _)]
    exact ⟨vA_s (show 14 < 84 by decide), rfl, HQ⟩
  | succ cnt ih =>
    intro k hk HQ
    obtain ⟨n', hn'⟩ : ∃ n', n' = cnt + 1 := ⟨_, rfl⟩
    rw [← hn']
    rw [← hn'] at ih
    have c40 : ¬ (40 : Int32) ≤ nI k := fun z => by have := (nI_leN (a := 40) (by decide) (by omega)).mp z; omega
    have e15 : h.1 (rR T1 h 14 0 - 1) (nI k) = hi k := M k (by omega)
    simp only [p_Sheet_firstOtherwise_2]
    rw [hN, pF (fun z => by have := (nI_leN (by omega) (by omega)).mp z; omega), pF c40, t4, Nat.add_sub_cancel, t6, C k (by omega), e15, nI_1]
    refine ⟨vA_s (show 14 < 84 by decide), rfl, t2, t3, Nat.succ_pos _, t5, rfl, inb_nI (by omega) (by omega), Nat.succ_pos _, vA_s (show 15 < 84 by decide), rfl, inb_nI (n := 7) (by omega) (by omega), ?_⟩
    unfold unlikeN at HQ
    by_cases c1 : c k = hi k
    · rw [pT c1]; rw [if_pos c1] at HQ
      exact ih (k + 1) (by omega) HQ
    · rw [pF c1]; rwa [if_neg c1] at HQ
theorem other_spec {N s : Nat} {c hi : Nat → Int32} {h : AH} {Q : Int32 → AH → Prop} (n7 : N ≤ 7) (hs : s < 4) (hN : h.1 14 3 = nI N) (M : rowR N (h.1 15) hi) (C : rowR 40 (h.1 (52 + 2 * s)) c) (HQ : Q (unlikeN c hi N 0) h) : inb (nI s) 4 ∧ 0 < rR T1 h 3 (nI s).toNatClampNeg ∧ vA T1 h (rR T1 h 3 (nI s).toNatClampNeg - 1) ∧ (rS T1 h (rR T1 h 3 (nI s).toNatClampNeg - 1)).1 = 8 ∧ p_Sheet_firstOtherwise Q (rR T1 h 3 (nI s).toNatClampNeg - 1) 14 h := by
  obtain ⟨t1, t2, t3, t4, t5, t6⟩ := sheetT hs h
  rw [nI_clamp (by omega), t1, Nat.add_sub_cancel]
  exact ⟨inb_nI (by omega) (by omega), Nat.succ_pos _, t2, t3, N + 1, other_loop n7 hs hN M C N 0 (by omega) HQ⟩
theorem nI_40 (s k : Nat) : (40 : Int32) * nI s + nI k = nI (40 * s + k) := by
  rw [show (40 : Int32) = nI 40 from rfl, nI_mul, nI_add]
theorem unlike_loop {N s : Nat} {c hi : Nat → Int32} {h : AH} {Q : Int32 → AH → Prop} (n7 : N ≤ 7) (hs : s < 4) (hN : h.1 59 0 = nI N) (M : rowR N (h.1 78) hi) (C : ∀ k, k < 40 → h.1 72 (nI (40 * s + k)) = c k) : ∀ (cnt k : Nat), k + cnt = N → Q (unlikeN c hi cnt k) h → p_MO_unlike_7 Q (cnt + 1) (nI s) (nI k) h := by
  intro cnt
  induction cnt with
  | zero =>
    intro k hk HQ
    have hk' : k = N := by omega
    subst hk'
    simp only [p_MO_unlike_7]
    rw [hN, pT (Int32.le_refl _)]
    exact HQ
  | succ cnt ih =>
    intro k hk HQ
    obtain ⟨n', hn'⟩ : ∃ n', n' = cnt + 1 := ⟨_, rfl⟩
    rw [← hn']
    rw [← hn'] at ih
    simp only [p_MO_unlike_7]
    rw [hN, pF (fun z => by have := (nI_leN (by omega) (by omega)).mp z; omega), nI_40, C k (by omega), M k (by omega), nI_1]
    refine ⟨inb_nI (by omega) (by omega), inb_nI (by omega) (by omega), ?_⟩
    unfold unlikeN at HQ
    by_cases c1 : c k = hi k
    · rw [pT c1]; rw [if_pos c1] at HQ
      exact ih (k + 1) (by omega) HQ
    · rw [pF c1]; rwa [if_neg c1] at HQ
theorem MO_unlike_spec {E : EV} {hi : Nat → Int32} {n s : Nat} {c : Nat → Int32} {h : AH} {Q : Int32 → AH → Prop} (e : E.ok) (hn : n ≤ 24) (hs : s < 4) (R : MTn E hi h) (C : ∀ k, k < 40 → h.1 72 (nI (40 * s + k)) = c k) (HQ : ∀ h', frV h h' → Q (unlikeN c (goD E hi n).hi E.N 0) h') : p_MO_unlike Q (nI s) (nI n) h :=
  MO_lives_spec e hn R.1 R.2 (fun h4 f4 M4 => ⟨E.N + 1, unlike_loop e.n7 hs (R.1.tr (keepM_frV f4)).n M4.hi (by rw [f4.2.1 72 (by decide)]; exact C) E.N 0 (by omega) (HQ h4 f4)⟩)
/-- what a sheet holds -/
def cellF (h : AH) (s : Nat) (k : Nat) : Int32 := h.1 72 (nI (40 * s + k))
theorem Inv_Sh {h : AH} (I : Inv h) : Sh h := by obtain ⟨E, hi, nT, r, C, a1, a2, a3, a4, a5, a6, a7, a8, a9, a10⟩ := I; exact a9
theorem cellC {h h' : AH} {s : Nat} (S : Sh h) (f : frR h h') (hs : s < 4) : rowR 40 (h'.1 (52 + 2 * s)) (cellF h s) := fun k hk => by
  rw [f.2.2.2 _ (fun z => by simp only [SD, List.mem_cons, List.not_mem_nil, or_false] at z; omega)]
  exact (S s hs).2.2.2 k hk
theorem cellM {h h' : AH} {s : Nat} (f : frI h h') : ∀ k, k < 40 → h'.1 72 (nI (40 * s + k)) = cellF h s k := fun k _ => by
  rw [f.2.2.1 72 (by decide)]; rfl
theorem Tn.nn {E : EV} {hi : Nat → Int32} {h : AH} (T : Tn E hi h) : h.1 5 3 = h.1 59 0 := T.2.2.1.1.trans T.2.2.2.1.n.symm
theorem refF_0 {h : AH} {x : Int32} (e : refF h x = 0) : ∃ s, s < 4 ∧ x = nI s := by
  unfold refF at e
  by_cases c : 0 ≤ x ∧ x ≤ 3
  · exact sheetN.mp c
  · rw [if_neg c] at e; exact absurd e (by decide)
theorem both_judge {x1 x2 : Int32} {h : AH} (I : Inv h) : p_UF_judge (fun r1 h1 => p_MO_judge (K2 r1) x1 x2 h1) x1 x2 h := by
  obtain ⟨E, hi, T⟩ := Tn_of I
  have n7 := T.1.n7
  have S := Inv_Sh I
  unfold p_UF_judge
  refine UF_refusal S T.nn ?_
  by_cases c0 : refF h x1 = 0
  · refine (pT c0).mpr ?_
    rw [UF_isSpan_iff]
    by_cases c2 : 0 ≤ x2 ∧ x2 ≤ 24
    · rw [b01_t c2]
      refine (nF (by decide)).mpr ?_
      obtain ⟨n, hn, rfl⟩ := spanN.mp c2
      obtain ⟨s, hs, rfl⟩ := refF_0 c0
      refine UF_ready_spec T.1 T.2.2.1 (fun h1 f1 R1 M1 => ?_)
      refine Dusk_go_spec T.1 hn R1 M1 T.hiOk (fun h2 f2 M2 => ?_)
      have f12 : frR h h2 := frR_tr f1 (frR_SC f2)
      refine other_spec n7 hs (R1.tr f2 (fun _ z => z)).n M2.hi (cellC S f12 hs) ?_
      have T2 := Tn_I (frI_R f12) T
      show p_MO_judge (K2 _) _ _ _
      unfold p_MO_judge p_MO_toldWrong
      refine MO_refusal ?_
      rw [refF_I (frI_R f12)]
      refine (pT c0).mpr ?_
      rw [MO_isMany_iff, b01_t c2]
      refine (pF (by decide)).mpr ((nT rfl).mpr ?_)
      exact MO_unlike_spec T.1 hn hs T2.2.2.2 (cellM (frI_R f12)) (fun h3 f3 => ⟨rfl, Inv_I (frI_tr (frI_R f12) (frI_V f3)) I⟩)
    · rw [b01_f c2]
      refine (nT rfl).mpr ?_
      show p_MO_judge (K2 _) _ _ _
      unfold p_MO_judge p_MO_toldWrong
      refine MO_refusal ((pT c0).mpr ?_)
      rw [MO_isMany_iff, b01_f c2]
      exact (pT rfl).mpr ((nF (by decide)).mpr ⟨rfl, I⟩)
  · refine (pF c0).mpr ?_
    show p_MO_judge (K2 _) _ _ _
    unfold p_MO_judge p_MO_toldWrong
    refine MO_refusal ((pF c0).mpr ((nF c0).mpr ⟨rfl, I⟩))
def orL (v : Nat → Int32) : Nat → Nat → Int32 → Int32
  | 0, _, a => a
  | c + 1, k, a => orL v c (k + 1) (if v k = -1 then a ||| (1 <<< (nI k &&& 31)) else a)
theorem UF_times_loop {E : EV} {D : DS} {s : Nat} {c : Nat → Int32} {Q : Int32 → AH → Prop} {h0 : AH} (e : E.ok) (hs : s < 4) (hi : hiOk E.N D) (C : ∀ h', frm SC h0 h' → rowR 40 (h'.1 (52 + 2 * s)) c) : ∀ (cnt n : Nat) (a : Int32) (h : AH), n + cnt = 25 → frm SC h0 h → CRep E h → (n ≤ 24 → CD E.N (goF E noC n 0 D) h) →
    (∀ h', frm SC h0 h' → Q (orL (fun n => unlikeN c (goF E noC n 0 D).hi E.N 0) cnt n a) h') → p_UF_times_21 Q (cnt + 1) (nI s) a (nI n) h := by
  intro cnt
  have n7 := e.n7
  induction cnt with
  | zero =>
    intro n a h hn f R M HQ
    have hn' : n = 25 := by omega
    subst hn'
    simp only [p_UF_times_21]
    rw [pT (by decide)]
    exact HQ h f
  | succ cnt ih =>
    intro n a h hn f R M HQ
    obtain ⟨n', hn'⟩ : ∃ n', n' = cnt + 1 := ⟨_, rfl⟩
    rw [← hn']
    rw [← hn'] at ih
    have M1 := M (by omega)
    have c24 : ¬ (24 : Int32) < nI n := fun z => by have := (nI_ltI (a := 24) (by decide) (by omega)).mp z; omega
    simp only [p_UF_times_21]
    rw [pF c24]
    refine other_spec n7 hs R.n M1.hi (C h f) ?_
    have nxt : ∀ a', (if unlikeN c (goF E noC n 0 D).hi E.N 0 = -1 then a ||| (1 <<< (nI n &&& 31)) else a) = a' → p_UF_times_55 Q (p_UF_times_21 Q n') (nI s) a' (nI n) h := fun a' ha => by
      have HQ' : ∀ h', frm SC h0 h' → Q (orL (fun n => unlikeN c (goF E noC n 0 D).hi E.N 0) cnt (n + 1) a') h' := fun h' f' => by
        have H := HQ h' f'
        unfold orL at H
        rwa [ha] at H
      unfold p_UF_times_55
      by_cases h24 : 24 ≤ n
      · have c25 : (24 : Int32) ≤ nI n := (nI_leN (a := 24) (by decide) (by omega)).mpr h24
        rw [pT c25]
        unfold p_UF_times_72
        rw [nI_1]
        exact ih (n + 1) a' h (by omega) f R (fun z => by omega) HQ'
      · have c25 : ¬ (24 : Int32) ≤ nI n := fun z => h24 ((nI_leN (a := 24) (by decide) (by omega)).mp z)
        rw [pF c25]
        refine Dusk_pass_spec e R M1 (hiOk_go e n 0 D hi) (fun h' f' M' => ?_)
        unfold p_UF_times_72
        rw [nI_1]
        refine ih (n + 1) a' h' (by omega) (frm_tr f f' (fun _ z => z) (fun _ z => z)) (R.tr f' (fun _ z => z)) (fun _ => ?_) HQ'
        rw [goF_succ, Nat.zero_add]
        rw [minuteF_0 (j := n) e] at M'
        exact M'
    by_cases c1 : unlikeN c (goF E noC n 0 D).hi E.N 0 = -1
    · exact (nT c1).mpr (nxt _ (if_pos c1))
    · exact (nF c1).mpr (nxt _ (if_neg c1))
theorem or_0 (a : Int32) : a ||| 0 = a := Int32.or_zero
theorem MO_times_loop {E : EV} {hi : Nat → Int32} {s : Nat} {c : Nat → Int32} {Q : Int32 → AH → Prop} {h0 : AH} (e : E.ok) (hs : s < 4) (R0 : MTn E hi h0) (C : ∀ h', frV h0 h' → ∀ k, k < 40 → h'.1 72 (nI (40 * s + k)) = c k) : ∀ (cnt n : Nat) (a : Int32) (h : AH), n + cnt = 25 → frV h0 h →
    (∀ h', frV h0 h' → Q (orL (fun n => unlikeN c (goD E hi n).hi E.N 0) cnt n a) h') → p_MO_times_17 Q (cnt + 1) (nI s) a (nI n) h := by
  intro cnt
  induction cnt with
  | zero =>
    intro n a h hn f HQ
    have hn' : n = 25 := by omega
    subst hn'
    simp only [p_MO_times_17]
    rw [pT (by decide)]
    exact HQ h f
  | succ cnt ih =>
    intro n a h hn f HQ
    obtain ⟨n', hn'⟩ : ∃ n', n' = cnt + 1 := ⟨_, rfl⟩
    rw [← hn']
    rw [← hn'] at ih
    have c24 : ¬ (24 : Int32) < nI n := fun z => by have := (nI_ltI (a := 24) (by decide) (by omega)).mp z; omega
    simp only [p_MO_times_17]
    rw [pF c24]
    refine MO_unlike_spec e (by omega) hs (MTn_I (frI_V f) R0) (C h f) (fun h1 f1 => ?_)
    have nxt : ∀ a', (if unlikeN c (goD E hi n).hi E.N 0 = -1 then a ||| (1 <<< (nI n &&& 31)) else a) = a' → p_MO_times_17 Q n' (nI s) a' (nI n + 1) h1 := fun a' ha => by
      rw [nI_1]
      refine ih (n + 1) a' h1 (by omega) (frV_tr f f1) (fun h' f' => ?_)
      have H := HQ h' f'
      unfold orL at H
      rwa [ha] at H
    by_cases c1 : unlikeN c (goD E hi n).hi E.N 0 = -1
    · refine (nT c1).mpr ?_
      unfold p_MO_times_44
      exact nxt _ (if_pos c1)
    · refine (nF c1).mpr ?_
      unfold p_MO_times_44
      rw [or_0]
      exact nxt _ (if_neg c1)
theorem both_times {x1 : Int32} {h : AH} (I : Inv h) : p_UF_times (fun r1 h1 => p_MO_times (K2 r1) x1 h1) x1 h := by
  obtain ⟨E, hi, T⟩ := Tn_of I
  have S := Inv_Sh I
  unfold p_UF_times
  refine UF_refusal S T.nn ?_
  by_cases c0 : refF h x1 = 0
  · refine (pT c0).mpr ?_
    obtain ⟨s, hs, rfl⟩ := refF_0 c0
    refine UF_ready_spec T.1 T.2.2.1 (fun h1 f1 R1 M1 => ?_)
    refine ⟨26, UF_times_loop T.1 hs T.hiOk (fun h' f' => cellC S (frR_tr f1 (frR_SC f')) hs) 25 0 0 h1 (by omega) frm_rf R1 (fun _ => M1) (fun h2 f2 => ?_)⟩
    have f12 : frR h h2 := frR_tr f1 (frR_SC f2)
    have T2 := Tn_I (frI_R f12) T
    show p_MO_times (K2 _) _ _
    unfold p_MO_times
    refine MO_refusal ?_
    rw [refF_I (frI_R f12)]
    refine (pT c0).mpr ⟨26, ?_⟩
    exact MO_times_loop T.1 hs T2.2.2.2 (fun h' f' => cellM (frI_tr (frI_R f12) (frI_V f'))) 25 0 0 h2 (by omega) frV_rf (fun h3 f3 => ⟨rfl, Inv_I (frI_tr (frI_R f12) (frI_V f3)) I⟩)
  · refine (pF c0).mpr ?_
    show p_MO_times (K2 _) _ _
    unfold p_MO_times
    exact MO_refusal ((pF c0).mpr ⟨rfl, I⟩)
