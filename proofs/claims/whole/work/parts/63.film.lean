/-! pure: film, back -/
theorem wide_2 {x : Int32} : wide 2 x = x := by unfold wide; rw [if_neg (by decide), if_neg (by decide)]
theorem UF_film_loop {s N : Nat} {g : Nat → Int32} {Q : Int32 → AH → Prop} {h0 : AH} (hs : s < 4) (n7 : N ≤ 7) (hN : h0.1 5 3 = nI N) (hso : h0.1 (51 + 2 * s) 1 = 2) (hsz : h0.1 (51 + 2 * s) 2 = nI N) (M : rowR N (h0.1 15) g) (HQ : ∀ h', frm [52 + 2 * s] h0 h' → (∀ j, j < 40 → h'.1 (52 + 2 * s) (nI j) = if j < N then g j else 0) → Q (nI N) h') : ∀ (cnt k : Nat) (h : AH), k + cnt = N → frm [52 + 2 * s] h0 h → (∀ j, j < 40 → h.1 (52 + 2 * s) (nI j) = if j < k then g j else 0) → p_UF_film_51 Q (cnt + 1) (nI s) (nI k) h := by
  intro cnt
  have m5 : ∀ b, ¬ b = 52 + 2 * s → b ∉ [52 + 2 * s] := fun b hb z => hb (by simpa using z)
  induction cnt with
  | zero =>
    intro k h hk f R
    have hk' : k = N := by omega
    subst hk'
    simp only [p_UF_film_51]
    rw [show h.1 5 3 = nI k by rw [f.2 5 (m5 5 (by omega))]; exact hN, pT (Int32.le_refl _)]
    exact HQ h f R
  | succ cnt ih =>
    intro k h hk f R
    obtain ⟨n', hn'⟩ : ∃ n', n' = cnt + 1 := ⟨_, rfl⟩
    rw [← hn']
    rw [← hn'] at ih
    obtain ⟨t1, t2, t3, t4, t5, t6⟩ := sheetT hs h
    have e3 : h.1 (51 + 2 * s) = h0.1 (51 + 2 * s) := f.2 _ (m5 _ (by omega))
    simp only [p_UF_film_51]
    rw [show h.1 5 3 = nI N by rw [f.2 5 (m5 5 (by omega))]; exact hN, pF (fun z => by have := (nI_leN (by omega) (by omega)).mp z; omega), nI_clamp (by omega), t1, Nat.add_sub_cancel]
    refine ⟨inb_nI (by omega) (by omega), Nat.succ_pos _, inb_nI (by omega) (by omega), t2, t3, write_spec hs (n := N) (by omega) (by omega) (by rw [e3]; exact hsz) ?_⟩
    rw [e3, hso, wide_2, show h.1 15 (nI k) = g k by rw [f.2 15 (m5 15 (by omega))]; exact M k (by omega), nI_1]
    refine ih (k + 1) _ (by omega) (frm_w f (by simp)) (fun j hj => ?_)
    rw [wI_r, if_pos rfl, up_a]
    by_cases e : j = k
    · subst e; rw [if_pos rfl, if_pos (by omega)]
    · rw [if_neg (fun z => e ((nI_inj (by omega) (by omega)).mp z)), R j hj]
      by_cases e2 : j < k
      · rw [if_pos e2, if_pos (by omega)]
      · rw [if_neg e2, if_neg (by omega)]
theorem MO_film_loop {s N : Nat} {g : Nat → Int32} {Q : Int32 → AH → Prop} {h0 : AH} (hs : s < 4) (n7 : N ≤ 7) (hN : h0.1 59 0 = nI N) (M : rowR N (h0.1 78) g) (HQ : ∀ h', frm [72] h0 h' → (∀ j, j < 160 → h'.1 72 (nI j) = if 40 * s ≤ j ∧ j < 40 * s + 40 then (if j - 40 * s < N then g (j - 40 * s) else 0) else h0.1 72 (nI j)) → Q (nI N) h') : ∀ (cnt k : Nat) (h : AH), k + cnt = 40 → frm [72] h0 h → (∀ j, j < 160 → h.1 72 (nI j) = if 40 * s ≤ j ∧ j < 40 * s + k then (if j - 40 * s < N then g (j - 40 * s) else 0) else h0.1 72 (nI j)) → p_MO_film_46 Q (cnt + 1) (nI s) (nI k) h := by
  intro cnt
  induction cnt with
  | zero =>
    intro k h hk f R
    have hk' : k = 40 := by omega
    subst hk'
    simp only [p_MO_film_46]
    rw [pT (by decide), show h.1 59 0 = nI N by rw [f.2 59 (by decide)]; exact hN]
    exact HQ h f R
  | succ cnt ih =>
    intro k h hk f R
    obtain ⟨n', hn'⟩ : ∃ n', n' = cnt + 1 := ⟨_, rfl⟩
    rw [← hn']
    rw [← hn'] at ih
    have c40 : ¬ (40 : Int32) ≤ nI k := fun z => by have := (nI_leN (a := 40) (by decide) (by omega)).mp z; omega
    simp only [p_MO_film_46]
    rw [pF c40, show h.1 59 0 = nI N by rw [f.2 59 (by decide)]; exact hN]
    have go : ∀ v, v = (if k < N then g k else 0) → p_MO_film_80 Q (p_MO_film_46 Q n') (nI s) (nI k) (40 * nI s + nI k) v h := fun v hv => by
      unfold p_MO_film_80
      rw [nI_40, nI_1]
      refine ⟨inb_nI (by omega) (by omega), ih (k + 1) _ (by omega) (frm_w f (by simp)) (fun j hj => ?_)⟩
      rw [wI_r, if_pos rfl, up_a]
      by_cases e : j = 40 * s + k
      · subst e
        rw [if_pos rfl, if_pos (by omega), hv, Nat.add_sub_cancel_left]
      · rw [if_neg (fun z => e ((nI_inj (by omega) (by omega)).mp z)), R j hj]
        by_cases e2 : 40 * s ≤ j ∧ j < 40 * s + k
        · rw [if_pos e2, if_pos (show 40 * s ≤ j ∧ j < 40 * s + (k + 1) by omega)]
        · rw [if_neg e2, if_neg (show ¬ (40 * s ≤ j ∧ j < 40 * s + (k + 1)) by omega)]
    by_cases c : k < N
    · rw [pF (fun z => by have := (nI_leN (by omega) (by omega)).mp z; omega)]
      exact ⟨inb_nI (by omega) (by omega), go _ (by rw [if_pos c, f.2 78 (by decide)]; exact M k c)⟩
    · rw [pT ((nI_leN (by omega) (by omega)).mpr (by omega))]
      exact go _ (by rw [if_neg c])
theorem Sh_set {s n : Nat} {so : Int32} {g : Nat → Int32} {h h1 h2 : AH} (hs : s < 4) (S : Sh h) (hso : -1 ≤ so.toInt ∧ so.toInt ≤ 2) (hn : n ≤ 40) (k1 : ∀ b, (51 ≤ b ∧ b ≤ 58) ∨ (70 ≤ b ∧ b ≤ 72) → ¬ b = 51 + 2 * s → ¬ b = 52 + 2 * s → h1.1 b = h.1 b) (e1 : h1.1 (51 + 2 * s) 1 = so) (e2 : h1.1 (51 + 2 * s) 2 = nI n) (e3 : ∀ j, j < 40 → h1.1 (52 + 2 * s) (nI j) = g j)
    (f2 : frm [72] (wI (wI h1 70 (nI s) so) 71 (nI s) (nI n)) h2) (R2 : ∀ j, j < 160 → h2.1 72 (nI j) = if 40 * s ≤ j ∧ j < 40 * s + 40 then g (j - 40 * s) else h1.1 72 (nI j)) : Sh h2 := fun u hu => by
  have g2 : ∀ b, ¬ b = 70 → ¬ b = 71 → ¬ b = 72 → h2.1 b = h1.1 b := fun b b0 b1 b2 => by
    rw [f2.2 b (by simpa using b2), wI_r, if_neg b1, wI_r, if_neg b0]
  have r70 : h2.1 70 = up (h1.1 70) (nI s) so := f2.2 70 (by decide)
  have r71 : h2.1 71 = up (h1.1 71) (nI s) (nI n) := f2.2 71 (by decide)
  rw [r70, r71, g2 (51 + 2 * u) (by omega) (by omega) (by omega), g2 (52 + 2 * u) (by omega) (by omega) (by omega)]
  by_cases e : u = s
  · subst e
    rw [up_s, up_s]
    refine ⟨e1, hso, ⟨n, hn, e2, rfl⟩, fun i hi => ?_⟩
    rw [e3 i hi, R2 (40 * u + i) (by omega), if_pos (by omega), Nat.add_sub_cancel_left]
  · have ne : ¬ nI u = nI s := fun z => e ((nI_inj (by omega) (by omega)).mp z)
    rw [up_n ne, up_n ne, k1 70 (by omega) (by omega) (by omega), k1 71 (by omega) (by omega) (by omega), k1 (51 + 2 * u) (by omega) (by omega) (by omega), k1 (52 + 2 * u) (by omega) (by omega) (by omega)]
    obtain ⟨s1, s2, s3, s4⟩ := S u hu
    refine ⟨s1, s2, s3, fun i hi => ?_⟩
    rw [s4 i hi, R2 (40 * u + i) (by omega), if_neg (by omega), k1 72 (by omega) (by omega) (by omega)]
theorem notSM_5 {b : Nat} (hb : (51 ≤ b ∧ b ≤ 58) ∨ (70 ≤ b ∧ b ≤ 72)) : b ∉ (59 :: SM) := fun z => by
  simp only [SM, List.mem_cons, List.not_mem_nil, or_false] at z; omega
theorem both_film {x1 x2 : Int32} {h : AH} (I : Inv h) : p_UF_film (fun r1 h1 => p_MO_film (K2 r1) x1 x2 h1) x1 x2 h := by
  obtain ⟨E, hi, T⟩ := Tn_of I
  have n7 := T.1.n7
  unfold p_UF_film
  rw [UF_isSheet_iff]
  by_cases c1 : 0 ≤ x1 ∧ x1 ≤ 3
  · rw [b01_t c1]
    refine (nF (by decide)).mpr ?_
    rw [UF_isSpan_iff]
    by_cases c2 : 0 ≤ x2 ∧ x2 ≤ 24
    · rw [b01_t c2]
      refine (nF (by decide)).mpr ?_
      obtain ⟨s, hs, rfl⟩ := sheetN.mp c1
      obtain ⟨n, hn, rfl⟩ := spanN.mp c2
      refine UF_ready_spec T.1 T.2.2.1 (fun h1 f1 R1 M1 => ?_)
      refine Dusk_go_spec T.1 hn R1 M1 T.hiOk (fun h2 f2 M2 => ?_)
      have f12 : frR h h2 := frR_tr f1 (frR_SC f2)
      have T2 := Tn_I (frI_R f12) T
      have I2 : Inv h2 := Inv_I (frI_R f12) I
      obtain ⟨t1, t2, t3, t4, t5, t6⟩ := sheetT hs h2
      rw [nI_clamp (by omega), t1, Nat.add_sub_cancel]
      refine ⟨inb_nI (by omega) (by omega), Nat.succ_pos _, t2, t3, renew_spec hs (fun hr fr r1 r2 r3 => ⟨E.N + 1, ?_⟩)⟩
      have gr : ∀ b, ¬ b = 51 + 2 * s → ¬ b = 52 + 2 * s → hr.1 b = h2.1 b := fun b b1 b2 => fr.2 b (by simp [b1, b2])
      refine UF_film_loop (g := (goD E hi n).hi) (h0 := hr) hs n7 (by rw [gr 5 (by omega) (by omega)]; exact T2.2.2.1.1) r1 (r2.trans T2.2.2.1.1) (by rw [gr 15 (by omega) (by omega)]; exact M2.hi) (fun h3 f3 R3 => ?_) E.N 0 hr (by omega) frm_rf (fun j hj => by rw [if_neg (Nat.not_lt_zero j)]; exact r3 j hj)
      have g3 : ∀ b, ¬ b = 51 + 2 * s → ¬ b = 52 + 2 * s → h3.1 b = h2.1 b := fun b b1 b2 => (f3.2 b (by simp [b2])).trans (gr b b1 b2)
      show p_MO_film (K2 _) _ _ _
      unfold p_MO_film
      rw [MO_in_iff, b01_t c1]
      refine (nF (by decide)).mpr ?_
      rw [MO_isMany_iff, b01_t c2]
      refine (nF (by decide)).mpr ?_
      have RM : MRep E h3 := T2.2.2.2.1.tr ⟨by rw [g3 59 (by omega) (by omega)], by rw [g3 59 (by omega) (by omega)], g3 60 (by omega) (by omega), g3 61 (by omega) (by omega), g3 62 (by omega) (by omega), g3 64 (by omega) (by omega), g3 65 (by omega) (by omega), g3 67 (by omega) (by omega), g3 68 (by omega) (by omega)⟩
      refine MO_lives_spec T.1 hn RM (by rw [g3 63 (by omega) (by omega)]; exact T2.2.2.2.2) (fun h4 f4 M4 => ?_)
      have N4 : h4.1 59 0 = nI E.N := (RM.tr (keepM_frV f4)).n
      refine ⟨inb_nI (by omega) (by omega), 41, ?_⟩
      rw [N4]
      refine MO_film_loop (N := E.N) (g := (goD E hi n).hi) (h0 := wI (wI h4 70 (nI s) 2) 71 (nI s) (nI E.N)) hs n7 N4 M4.hi (fun h5 f5 R5 => ⟨rfl, ?_⟩) 40 0 _ (by omega) frm_rf (fun j hj => by rw [if_neg (by omega)])
      have g4 : ∀ b, (51 ≤ b ∧ b ≤ 58) ∨ (70 ≤ b ∧ b ≤ 72) → h4.1 b = h3.1 b := fun b hb => f4.2.1 b (notSM_5 hb)
      have S5 : Sh h5 := Sh_set (g := fun j => if j < E.N then (goD E hi n).hi j else 0) hs (Inv_Sh I2) (by decide) (by omega) (fun b hb b1 b2 => (g4 b hb).trans (g3 b b1 b2)) (by rw [g4 _ (by omega), f3.2 _ (by simp)]; exact r1) (by rw [g4 _ (by omega), f3.2 _ (by simp)]; exact r2.trans T2.2.2.1.1) (fun j hj => by rw [g4 _ (by omega)]; exact R3 j hj) f5 R5
      obtain ⟨h4', e4'⟩ : ∃ h4' : AH, h4' = (fun b => if b = 51 + 2 * s ∨ b = 52 + 2 * s then h2.1 b else h4.1 b, h4.2) := ⟨_, rfl⟩
      have p4 : ∀ b, ¬ b = 51 + 2 * s → ¬ b = 52 + 2 * s → h4'.1 b = h4.1 b := fun b b1 b2 => by
        rw [e4']; exact if_neg (fun z => z.elim b1 b2)
      have p4' : ∀ b, (b = 51 + 2 * s ∨ b = 52 + 2 * s) → h4'.1 b = h2.1 b := fun b hb => by
        rw [e4']; exact if_pos hb
      have q4 : h4'.2 = h4.2 := by rw [e4']
      have fv : frV h2 h4' := by
        refine ⟨?_, fun b hb => ?_, fun k hk => ?_⟩
        · rw [q4, f4.1]; exact (congrArg Prod.snd (f3.1.trans fr.1))
        · by_cases c : b = 51 + 2 * s ∨ b = 52 + 2 * s
          · exact p4' b c
          · have c' : ¬ b = 51 + 2 * s ∧ ¬ b = 52 + 2 * s := not_or.mp c
            rw [p4 b c'.1 c'.2, f4.2.1 b hb, g3 b c'.1 c'.2]
        · rw [p4 59 (by omega) (by omega), f4.2.2 k hk, g3 59 (by omega) (by omega)]
      have fs : frm SSh h4' h5 := by
        refine ⟨by rw [q4]; exact f5.1, fun b hb => ?_⟩
        have hb' : ¬ b = 70 ∧ ¬ b = 71 ∧ ¬ b = 72 ∧ ¬ b = 51 + 2 * s ∧ ¬ b = 52 + 2 * s := by
          simp only [SSh, List.mem_cons, List.not_mem_nil, or_false] at hb
          omega
        rw [p4 b hb'.2.2.2.1 hb'.2.2.2.2, f5.2 b (by simpa using hb'.2.2.1), wI_r, if_neg hb'.2.1, wI_r, if_neg hb'.1]
      exact Inv_sheets (Inv_I (frI_V fv) I2) fs S5
    · rw [b01_f c2]
      refine (nT rfl).mpr ?_
      show p_MO_film (K2 _) _ _ _
      unfold p_MO_film
      rw [MO_in_iff, b01_t c1]
      refine (nF (by decide)).mpr ?_
      rw [MO_isMany_iff, b01_f c2]
      exact (nT rfl).mpr ⟨rfl, I⟩
  · rw [b01_f c1]
    refine (nT rfl).mpr ?_
    show p_MO_film (K2 _) _ _ _
    unfold p_MO_film
    rw [MO_in_iff, b01_f c1]
    exact (nT rfl).mpr ⟨rfl, I⟩
theorem become5 {Q : AH → Prop} {h : AH} (H : Q (wC (wC (wC (wI (wI h 5 3 (h.1 9 3)) 5 4 (h.1 9 4)) 10 6 0 0 7) 11 7 0 0 7) 12 8 0 0 7)) : p_Town_become Q 5 9 h :=
  ⟨vA_s (show 9 < 84 by decide), rfl, vA_s (show 5 < 84 by decide), rfl, Nat.succ_pos _, Nat.succ_pos _, vA_s (show 10 < 84 by decide), rfl, vA_s (show 6 < 84 by decide), rfl, le07, le07, lt07, lt07,
    Nat.succ_pos _, Nat.succ_pos _, vA_s (show 11 < 84 by decide), rfl, vA_s (show 7 < 84 by decide), rfl, le07, le07, lt07, lt07,
    Nat.succ_pos _, Nat.succ_pos _, vA_s (show 12 < 84 by decide), rfl, vA_s (show 8 < 84 by decide), rfl, le07, le07, lt07, lt07, H⟩
theorem back_loop {Q : Int32 → AH → Prop} {h0 : AH} : ∀ (cnt k : Nat) (h : AH), k + cnt = 7 → frm [63, 64, 65] h0 h → (∀ j, j < k → h.1 63 (nI j) = h0.1 69 (nI j) ∧ h.1 64 (nI j) = h0.1 69 (nI (7 + j)) ∧ h.1 65 (nI j) = h0.1 69 (nI (14 + j))) → (∀ h', frm [63, 64, 65] h0 h' → (∀ j, j < 7 → h'.1 63 (nI j) = h0.1 69 (nI j) ∧ h'.1 64 (nI j) = h0.1 69 (nI (7 + j)) ∧ h'.1 65 (nI j) = h0.1 69 (nI (14 + j))) → Q (h'.1 59 0) h') → p_MO_back_28 Q (cnt + 1) (nI k) h := by
  intro cnt
  induction cnt with
  | zero =>
    intro k h hk f R HQ
    have hk' : k = 7 := by omega
    subst hk'
    simp only [p_MO_back_28]
    rw [pT (by decide)]
    exact HQ h f R
  | succ cnt ih =>
    intro k h hk f R HQ
    obtain ⟨n', hn'⟩ : ∃ n', n' = cnt + 1 := ⟨_, rfl⟩
    rw [← hn']
    rw [← hn'] at ih
    have c7 : ¬ (7 : Int32) ≤ nI k := fun z => by have := (nI_leN (a := 7) (by decide) (by omega)).mp z; omega
    simp only [p_MO_back_28]
    rw [pF c7, nI_7, nI_14, nI_1, f.2 69 (by decide)]
    refine ⟨inb_nI (by omega) (by omega), inb_nI (by omega) (by omega), inb_nI (by omega) (by omega), inb_nI (by omega) (by omega), ih (k + 1) _ (by omega) (frm_w (frm_w (frm_w f (by simp)) (by simp)) (by simp)) (fun j hj => ?_) HQ⟩
    show up (h.1 63) (nI k) (h0.1 69 (nI k)) (nI j) = _ ∧ up (h.1 64) (nI k) (h0.1 69 (nI (7 + k))) (nI j) = _ ∧ up (h.1 65) (nI k) (h0.1 69 (nI (14 + k))) (nI j) = _
    by_cases e : j = k
    · subst e; rw [up_s, up_s, up_s]; exact ⟨rfl, rfl, rfl⟩
    · have ne : ¬ nI j = nI k := fun z => e ((nI_inj (by omega) (by omega)).mp z)
      rw [up_n ne, up_n ne, up_n ne]; exact R j (by omega)
def SBk : List Nat := [5, 6, 7, 8, 59, 63, 64, 65]
theorem Inv_back {E : EV} {hi hi' pe pa : Nat → Int32} {tN r r' K : Nat} {C : Nat → Nat → List Int32} {h h' : AH} (I : InvB E hi tN r C h) (hK : K ≤ E.N) (hr : r' < tN) (f : frm SBk h h') (e5 : h'.1 5 3 = nI K) (e54 : h'.1 5 4 = nI r') (e59 : h'.1 59 = up (up (h.1 59) 0 (nI K)) 12 (nI r')) (g : rng K hi' pe pa)
    (c6 : rowR K (h'.1 6) hi') (c7 : rowR K (h'.1 7) pe) (c8 : rowR K (h'.1 8) pa) (m63 : rowR K (h'.1 63) hi') (m64 : rowR K (h'.1 64) pe) (m65 : rowR K (h'.1 65) pa) (im : h.1 59 13 = h.1 0 10 → Img K tN h) : Inv h' := by
  obtain ⟨a1, a2, a3, a4, a5, a6, a7, a8, a9, a10⟩ := I
  obtain ⟨h1, h2, h3, h4, h5, h6, t, h7, h8, h9⟩ := a4
  obtain ⟨b1, b2, b3, b4, b5, b6, b7, b8⟩ := a6
  have nb : ∀ b, b ∉ SBk → h'.1 b = h.1 b := f.2
  have nb2 : ∀ b, (b < 5 ∨ (8 < b ∧ b < 59) ∨ (59 < b ∧ b < 63) ∨ 65 < b) → h'.1 b = h.1 b := fun b hb => f.2 b (fun z => by simp only [SBk, List.mem_cons, List.not_mem_nil, or_false] at z; omega)
  have g59 : ∀ j, ¬ j = 0 → ¬ j = 12 → h'.1 59 j = h.1 59 j := fun j j0 j1 => by rw [e59, up_n j1, up_n j0]
  have ct : ∀ t, t < 6 → ∀ c, CT h t c → CT h' t c := fun t ht c z => ⟨by rw [nb2 (35 + 3 * t) (by omega)]; exact z.1, by rw [nb2 (34 + 3 * t) (by omega)]; exact z.2⟩
  have mt : ∀ t c, MT h t c → MT h' t c := fun t c z => ⟨by rw [nb2 68 (by omega)]; exact z.1, by rw [nb2 67 (by omega)]; exact z.2⟩
  obtain ⟨ok1, ok2⟩ := (b8 r' hr).1
  refine ⟨(K, E.kind, E.told, E.more, pe, pa, C r'), hi', tN, r', C, ⟨?_, ?_, ?_, ?_, ok1, ok2⟩, rfl, g, ⟨e5, c6, c7, c8, fun k hk => ?_, fun k hk => ?_, r', by omega, e54, ct r' (by omega) _ (b8 r' hr).2.1⟩, ⟨⟨?_, ?_, ?_, ?_, m64, m65, r', by omega, ?_, mt r' _ (b8 r' hr).2.2⟩, m63⟩, ?_, ?_, ?_, ?_, ?_⟩
  · exact Nat.le_trans hK a1.n7
  · exact fun k hk => a1.kind k (Nat.lt_of_lt_of_le hk hK)
  · exact fun k hk => a1.more k (Nat.lt_of_lt_of_le hk hK)
  · exact fun k hk => (g k hk).2.2
  · rw [rR_2 f.1]; exact ⟨(h5 k hk).1, famA_2 f.1 (h5 k hk).2⟩
  · rw [rR_2 f.1]
    have hkN : k < E.N := Nat.lt_of_lt_of_le hk hK
    obtain ⟨x1, x2, x3, x4, x5⟩ := h6 k hkN
    have no : ∀ b c, (rS T1 h b).1 = c → ¬ famP c → ¬ rR T1 h 1 k - 1 = b := fun b c hb hc z => hc (by rw [← hb, ← z]; exact x1.2)
    have n10 : ¬ famP 10 := fun z => by rcases z with z | z | z | z | z | z <;> exact absurd z (by decide)
    have n12 : ¬ famP 12 := fun z => by rcases z with z | z | z | z | z | z <;> exact absurd z (by decide)
    have n100 : ¬ famP 100 := fun z => by rcases z with z | z | z | z | z | z <;> exact absurd z (by decide)
    have e := f.2 (rR T1 h 1 k - 1) (fun z => by
      simp only [SBk, List.mem_cons, List.not_mem_nil, or_false] at z
      rcases z with z | z | z | z | z | z | z | z
      · exact no 5 10 rfl n10 z
      · exact no 6 100 rfl n100 z
      · exact no 7 100 rfl n100 z
      · exact no 8 100 rfl n100 z
      · exact no 59 12 rfl n12 z
      · exact no 63 100 rfl n100 z
      · exact no 64 100 rfl n100 z
      · exact no 65 100 rfl n100 z)
    exact ⟨famA_2 f.1 x1, by rw [rS_2 f.1]; exact x2, by rw [e]; exact x3, by rw [e]; exact x4, by rw [e]; exact x5⟩
  · show h'.1 59 0 = nI K
    rw [e59, up_n (by decide), up_s]
  · rw [nb2 60 (by omega)]; exact rowR_le a5.1.kind hK
  · rw [nb2 61 (by omega)]; exact rowR_le a5.1.told hK
  · rw [nb2 62 (by omega)]; exact rowR_le a5.1.more hK
  · rw [e59, up_s]
  · refine ⟨b1, b2, hr, by rw [nb2 0 (by omega)]; exact b4, (g59 11 (by decide) (by decide)).trans b5, e54, by rw [e59, up_s], fun t ht => ⟨(b8 t ht).1, ct t (by omega) _ (b8 t ht).2.1, mt t _ (b8 t ht).2.2⟩⟩
  · obtain ⟨L, c1, c2, c3, c4⟩ := a7
    exact ⟨L, c1, by rw [nb2 0 (by omega)]; exact c2, (g59 8 (by decide) (by decide)).trans c3, by rw [nb2 4 (by omega), nb2 66 (by omega)]; exact c4⟩
  · have im' := im a8.1
    unfold Img at im' ⊢
    rw [g59 13 (by decide) (by decide), g59 14 (by decide) (by decide), g59 15 (by decide) (by decide), nb2 0 (by omega), nb2 9 (by omega), nb2 10 (by omega), nb2 11 (by omega), nb2 12 (by omega), nb2 69 (by omega)]
    exact im'
  · intro s hs
    rw [nb2 70 (by omega), nb2 71 (by omega), nb2 72 (by omega), nb2 (51 + 2 * s) (by omega), nb2 (52 + 2 * s) (by omega)]
    exact a9 s hs
  · unfold Wds; rw [nb2 74 (by omega)]; exact a10
theorem both_back {h : AH} (I : Inv h) : p_UF_back (fun r1 h1 => p_MO_back (K2 r1) h1) h := by
  have I0 := I
  obtain ⟨E, hi, tN, r, C, IB⟩ := I
  have n7 := IB.1.n7
  have IB' := IB
  obtain ⟨a1, a2, a3, a4, a5, a6, a7, a8, a9, a10⟩ := IB'
  by_cases c : h.1 0 10 = 0
  · refine (nT c).mpr ?_
    show p_MO_back (K2 _) _
    exact (nT (a8.1.trans c)).mpr ⟨rfl, I0⟩
  · refine (nF c).mpr ?_
    obtain ⟨K, r', hi', pe, pa, k1, k2, k3, k4, k5, k6, k7, k8, k9, k10, k11⟩ := a8.2 c
    have K7 : K ≤ 7 := Nat.le_trans k1 n7
    refine become5 ?_
    obtain ⟨hA, hAe⟩ : ∃ hA, hA = wC (wC (wC (wI (wI h 5 3 (h.1 9 3)) 5 4 (h.1 9 4)) 10 6 0 0 7) 11 7 0 0 7) 12 8 0 0 7 := ⟨_, rfl⟩
    rw [← hAe]
    have A2 : hA.2 = h.2 := by rw [hAe]; rfl
    have A5 : hA.1 5 = up (up (h.1 5) 3 (h.1 9 3)) 4 (h.1 9 4) := by rw [hAe]; rfl
    have A6 : hA.1 6 = cpI (h.1 10) (h.1 6) 0 0 7 := by rw [hAe]; rfl
    have A7 : hA.1 7 = cpI (h.1 11) (h.1 7) 0 0 7 := by rw [hAe]; rfl
    have A8 : hA.1 8 = cpI (h.1 12) (h.1 8) 0 0 7 := by rw [hAe]; rfl
    have Ag : ∀ b, b ∉ [5, 6, 7, 8] → hA.1 b = h.1 b := fun b hb => by
      simp only [List.mem_cons, List.not_mem_nil, or_false, not_or] at hb
      rw [hAe]
      show (if b = 8 then _ else if b = 7 then _ else if b = 6 then _ else if b = 5 then _ else if b = 5 then _ else h.1 b) = h.1 b
      rw [if_neg hb.2.2.2, if_neg hb.2.2.1, if_neg hb.2.1, if_neg hb.1, if_neg hb.1]
    have A59 : hA.1 59 = h.1 59 := Ag 59 (by decide)
    show p_MO_back (K2 (hA.1 5 3)) hA
    refine (nF (by rw [A59, a8.1]; exact c)).mpr ⟨8, back_loop (h0 := wI (wI hA 59 0 (hA.1 59 14)) 59 12 (hA.1 59 15)) 7 0 _ (by omega) frm_rf (fun j hj => absurd hj (by omega)) (fun h' f R => ?_)⟩
    have F59 : h'.1 59 = up (up (h.1 59) 0 (nI K)) 12 (nI r') := by
      rw [f.2 59 (by decide), wI_r, if_pos rfl, wI_r, if_pos rfl, A59, k4, k6]
    have Fg : ∀ b, ¬ b = 59 → b ∉ [63, 64, 65] → h'.1 b = hA.1 b := fun b b1 b2 => by
      rw [f.2 b b2, wI_r, if_neg b1, wI_r, if_neg b1]
    have r69 : ∀ j, (wI (wI hA 59 0 (hA.1 59 14)) 59 12 (hA.1 59 15)).1 69 j = h.1 69 j := fun j => by
      show hA.1 69 j = _
      rw [Ag 69 (by decide)]
    have e5 : hA.1 5 3 = nI K := by rw [A5, up_n (by decide), up_s, k3]
    refine ⟨?_, Inv_back IB k1 k2 (f := ⟨f.1.trans A2, fun b hb => ?_⟩) ?_ ?_ F59 k7 ?_ ?_ ?_ (fun k hk => ?_) (fun k hk => ?_) (fun k hk => ?_) (fun z => ⟨z, fun _ => ⟨K, r', hi', pe, pa, Nat.le_refl _, k2, k3, k4, k5, k6, k7, k8, k9, k10, k11⟩⟩)⟩
    · rw [e5, F59, up_n (by decide), up_s]
    · have hb' : ¬ b = 59 ∧ b ∉ [63, 64, 65] ∧ b ∉ [5, 6, 7, 8] := by
        simp only [SBk, List.mem_cons, List.not_mem_nil, or_false] at hb ⊢
        omega
      rw [Fg b hb'.1 hb'.2.1, Ag b hb'.2.2]
    · rw [Fg 5 (by decide) (by decide)]; exact e5
    · rw [Fg 5 (by decide) (by decide), A5, up_s, k5]
    · rw [Fg 6 (by decide) (by decide), A6]; exact rowR_cp K7 k8
    · rw [Fg 7 (by decide) (by decide), A7]; exact rowR_cp K7 k9
    · rw [Fg 8 (by decide) (by decide), A8]; exact rowR_cp K7 k10
    · rw [(R k (by omega)).1, r69]; exact (k11 k hk).1
    · rw [(R k (by omega)).2.1, r69]; exact (k11 k hk).2.1
    · rw [(R k (by omega)).2.2, r69]; exact (k11 k hk).2.2
