/-! pure: sheet -/
def SSh : List Nat := [51, 52, 53, 54, 55, 56, 57, 58, 70, 71, 72]
theorem Inv_sheets {h h' : AH} (I : Inv h) (f : frm SSh h h') (S : Sh h') : Inv h' := by
  obtain ⟨E, hi, tN, r, C, a1, a2, a3, a4, a5, a6, a7, a8, a9, a10⟩ := I
  have nb : ∀ b, (b < 51 ∨ (58 < b ∧ b < 70) ∨ 72 < b) → h'.1 b = h.1 b := fun b hb => f.2 b (fun z => by simp only [SSh, List.mem_cons, List.not_mem_nil, or_false] at z; omega)
  obtain ⟨h1, h2, h3, h4, h5, h6, t, h7, h8, h9⟩ := a4
  have ct : ∀ t, t < 6 → ∀ c, CT h t c → CT h' t c := fun t ht c z => ⟨by rw [nb (35 + 3 * t) (by omega)]; exact z.1, by rw [nb (34 + 3 * t) (by omega)]; exact z.2⟩
  have mt : ∀ t c, MT h t c → MT h' t c := fun t c z => ⟨by rw [nb 68 (by omega)]; exact z.1, by rw [nb 67 (by omega)]; exact z.2⟩
  refine ⟨E, hi, tN, r, C, a1, a2, a3, ⟨by rw [nb 5 (by omega)]; exact h1, by rw [nb 6 (by omega)]; exact h2, by rw [nb 7 (by omega)]; exact h3, by rw [nb 8 (by omega)]; exact h4, fun k hk => ?_, fun k hk => ?_, t, h7, by rw [nb 5 (by omega)]; exact h8, ct t h7 _ h9⟩, ⟨⟨by rw [nb 59 (by omega)]; exact a5.1.n, by rw [nb 60 (by omega)]; exact a5.1.kind, by rw [nb 61 (by omega)]; exact a5.1.told, by rw [nb 62 (by omega)]; exact a5.1.more, by rw [nb 64 (by omega)]; exact a5.1.people, by rw [nb 65 (by omega)]; exact a5.1.partner, ?_⟩, by rw [nb 63 (by omega)]; exact a5.2⟩, ?_, ?_, ?_, S, ?_⟩
  · rw [rR_2 f.1]; exact ⟨(h5 k hk).1, famA_2 f.1 (h5 k hk).2⟩
  · rw [rR_2 f.1]
    obtain ⟨x1, x2, x3, x4, x5⟩ := h6 k hk
    have ns : ∀ b, b ∈ SSh → ¬ rR T1 h 1 k - 1 = b := fun b hb z => by
      have h2 : famP (rS T1 h b).1 := by rw [← z]; exact x1.2
      simp only [SSh, List.mem_cons, List.not_mem_nil, or_false] at hb
      rcases hb with rfl | rfl | rfl | rfl | rfl | rfl | rfl | rfl | rfl | rfl | rfl
      · have h3 : famP 8 := h2
        rcases h3 with h3 | h3 | h3 | h3 | h3 | h3 <;> exact absurd h3 (by decide)
      · have h3 : famP 100 := h2
        rcases h3 with h3 | h3 | h3 | h3 | h3 | h3 <;> exact absurd h3 (by decide)
      · have h3 : famP 8 := h2
        rcases h3 with h3 | h3 | h3 | h3 | h3 | h3 <;> exact absurd h3 (by decide)
      · have h3 : famP 100 := h2
        rcases h3 with h3 | h3 | h3 | h3 | h3 | h3 <;> exact absurd h3 (by decide)
      · have h3 : famP 8 := h2
        rcases h3 with h3 | h3 | h3 | h3 | h3 | h3 <;> exact absurd h3 (by decide)
      · have h3 : famP 100 := h2
        rcases h3 with h3 | h3 | h3 | h3 | h3 | h3 <;> exact absurd h3 (by decide)
      · have h3 : famP 8 := h2
        rcases h3 with h3 | h3 | h3 | h3 | h3 | h3 <;> exact absurd h3 (by decide)
      · have h3 : famP 100 := h2
        rcases h3 with h3 | h3 | h3 | h3 | h3 | h3 <;> exact absurd h3 (by decide)
      · have h3 : famP 100 := h2
        rcases h3 with h3 | h3 | h3 | h3 | h3 | h3 <;> exact absurd h3 (by decide)
      · have h3 : famP 100 := h2
        rcases h3 with h3 | h3 | h3 | h3 | h3 | h3 <;> exact absurd h3 (by decide)
      · have h3 : famP 100 := h2
        rcases h3 with h3 | h3 | h3 | h3 | h3 | h3 <;> exact absurd h3 (by decide)
    have e := f.2 (rR T1 h 1 k - 1) (fun z => ns _ z rfl)
    exact ⟨famA_2 f.1 x1, by rw [rS_2 f.1]; exact x2, by rw [e]; exact x3, by rw [e]; exact x4, by rw [e]; exact x5⟩
  · obtain ⟨r', b1, b2, b3⟩ := a5.1.text
    exact ⟨r', b1, by rw [nb 59 (by omega)]; exact b2, mt r' _ b3⟩
  · obtain ⟨b1, b2, b3, b4, b5, b6, b7, b8⟩ := a6
    exact ⟨b1, b2, b3, by rw [nb 0 (by omega)]; exact b4, by rw [nb 59 (by omega)]; exact b5, by rw [nb 5 (by omega)]; exact b6, by rw [nb 59 (by omega)]; exact b7, fun t ht => ⟨(b8 t ht).1, ct t (by omega) _ (b8 t ht).2.1, mt t _ (b8 t ht).2.2⟩⟩
  · obtain ⟨L, b1, b2, b3, b4⟩ := a7
    exact ⟨L, b1, by rw [nb 0 (by omega)]; exact b2, by rw [nb 59 (by omega)]; exact b3, by rw [nb 4 (by omega), nb 66 (by omega)]; exact b4⟩
  · unfold Img
    rw [nb 59 (by omega), nb 0 (by omega), nb 9 (by omega), nb 10 (by omega), nb 11 (by omega), nb 12 (by omega), nb 69 (by omega)]
    exact a8
  · unfold Wds; rw [nb 74 (by omega)]; exact a10
theorem renew_loop {s : Nat} {Q : AH → Prop} {h0 : AH} (hs : s < 4) : ∀ (cnt k : Nat) (h : AH), k + cnt = 40 → frm [52 + 2 * s] h0 h → rowR k (h.1 (52 + 2 * s)) (fun _ => 0) → (∀ h', frm [52 + 2 * s] h0 h' → rowR 40 (h'.1 (52 + 2 * s)) (fun _ => 0) → Q h') → p_Sheet_renew_12 Q (cnt + 1) (51 + 2 * s) (nI k) h := by
  intro cnt
  induction cnt with
  | zero =>
    intro k h hk f R HQ
    have hk' : k = 40 := by omega
    subst hk'
    simp only [p_Sheet_renew_12]
    rw [pT (by decide)]
    exact HQ h f R
  | succ cnt ih =>
    intro k h hk f R HQ
    obtain ⟨n', hn'⟩ : ∃ n', n' = cnt + 1 := ⟨_, rfl⟩
    rw [← hn']
    rw [← hn'] at ih
    obtain ⟨t1, t2, t3, t4, t5, t6⟩ := sheetT hs h
    have c40 : ¬ (40 : Int32) ≤ nI k := fun z => by have := (nI_leN (a := 40) (by decide) (by omega)).mp z; omega
    simp only [p_Sheet_renew_12]
    rw [pF c40, t4, Nat.add_sub_cancel, t6, nI_1]
    refine ⟨t2, t3, Nat.succ_pos _, t5, rfl, inb_nI (by omega) (by omega), ih (k + 1) _ (by omega) (frm_w f (by simp)) ?_ HQ⟩
    rw [wI_r, if_pos rfl]
    exact rowR_ext (by omega) R rfl
theorem renew_spec {s : Nat} {x1 x2 : Int32} {Q : AH → Prop} {h : AH} (hs : s < 4) (HQ : ∀ h', frm [51 + 2 * s, 52 + 2 * s] h h' → h'.1 (51 + 2 * s) 1 = x1 → h'.1 (51 + 2 * s) 2 = x2 → rowR 40 (h'.1 (52 + 2 * s)) (fun _ => 0) → Q h') : p_Sheet_renew Q (51 + 2 * s) x1 x2 h := by
  obtain ⟨t1, t2, t3, t4, t5, t6⟩ := sheetT hs h
  refine ⟨t2, t3, 41, renew_loop (h0 := wI (wI h (51 + 2 * s) 1 x1) (51 + 2 * s) 2 x2) hs 40 0 _ (by omega) frm_rf (fun k hk => absurd hk (by omega)) (fun h' f R => HQ h' (frm_tr (S := [51 + 2 * s]) (frm_w (frm_w frm_rf (by simp)) (by simp)) f (by simp) (by simp)) ?_ ?_ R)⟩
  · rw [f.2 (51 + 2 * s) (by simp), wI_r, if_pos rfl, up_n (by decide), wI_r, if_pos rfl, up_s]
  · rw [f.2 (51 + 2 * s) (by simp), wI_r, if_pos rfl, up_s]
theorem MO_sheet_loop {s : Nat} {Q : Int32 → AH → Prop} {h0 : AH} (hs : s < 4) : ∀ (cnt k : Nat) (h : AH), k + cnt = 40 → frm [72] h0 h → (∀ j, j < 160 → h.1 72 (nI j) = if 40 * s ≤ j ∧ j < 40 * s + k then 0 else h0.1 72 (nI j)) → (∀ h', frm [72] h0 h' → (∀ j, j < 160 → h'.1 72 (nI j) = if 40 * s ≤ j ∧ j < 40 * s + 40 then 0 else h0.1 72 (nI j)) → Q 1 h') → p_MO_sheet_70 Q (cnt + 1) (nI s) (nI k) h := by
  intro cnt
  induction cnt with
  | zero =>
    intro k h hk f R HQ
    have hk' : k = 40 := by omega
    subst hk'
    simp only [p_MO_sheet_70]
    rw [pT (by decide)]
    exact HQ h f R
  | succ cnt ih =>
    intro k h hk f R HQ
    obtain ⟨n', hn'⟩ : ∃ n', n' = cnt + 1 := ⟨_, rfl⟩
    rw [← hn']
    rw [← hn'] at ih
    have c40 : ¬ (40 : Int32) ≤ nI k := fun z => by have := (nI_leN (a := 40) (by decide) (by omega)).mp z; omega
    simp only [p_MO_sheet_70]
    rw [pF c40, nI_40, nI_1]
    refine ⟨inb_nI (by omega) (by omega), ih (k + 1) _ (by omega) (frm_w f (by simp)) (fun j hj => ?_) HQ⟩
    rw [wI_r, if_pos rfl, up_a]
    by_cases e : j = 40 * s + k
    · subst e; rw [if_pos rfl, if_pos (by omega)]
    · rw [if_neg (fun z => e ((nI_inj (by omega) (by omega)).mp z)), R j hj]
      by_cases e2 : 40 * s ≤ j ∧ j < 40 * s + k
      · rw [if_pos e2, if_pos (by omega)]
      · rw [if_neg e2, if_neg (by omega)]
theorem Sh_renew {s n : Nat} {so : Int32} {h h1 h2 : AH} (hs : s < 4) (S : Sh h) (hso : -1 ≤ so.toInt ∧ so.toInt ≤ 2) (hn : n ≤ 40) (f1 : frm [51 + 2 * s, 52 + 2 * s] h h1) (e1 : h1.1 (51 + 2 * s) 1 = so) (e2 : h1.1 (51 + 2 * s) 2 = nI n) (e3 : rowR 40 (h1.1 (52 + 2 * s)) (fun _ => 0))
    (f2 : frm [72] (wI (wI h1 70 (nI s) so) 71 (nI s) (nI n)) h2) (R2 : ∀ j, j < 160 → h2.1 72 (nI j) = if 40 * s ≤ j ∧ j < 40 * s + 40 then 0 else h1.1 72 (nI j)) : Sh h2 := fun u hu => by
  have g2 : ∀ b, ¬ b = 70 → ¬ b = 71 → ¬ b = 72 → h2.1 b = h1.1 b := fun b b0 b1 b2 => by
    rw [f2.2 b (by simpa using b2), wI_r, if_neg b1, wI_r, if_neg b0]
  have r70 : h2.1 70 = up (h1.1 70) (nI s) so := f2.2 70 (by decide)
  have r71 : h2.1 71 = up (h1.1 71) (nI s) (nI n) := f2.2 71 (by decide)
  have k1 : ∀ b, ¬ b = 51 + 2 * s → ¬ b = 52 + 2 * s → h1.1 b = h.1 b := fun b b1 b2 => f1.2 b (by simp [b1, b2])
  rw [r70, r71, g2 (51 + 2 * u) (by omega) (by omega) (by omega), g2 (52 + 2 * u) (by omega) (by omega) (by omega)]
  by_cases e : u = s
  · subst e
    rw [up_s, up_s]
    refine ⟨e1, hso, ⟨n, hn, e2, rfl⟩, fun i hi => ?_⟩
    rw [e3 i hi, R2 (40 * u + i) (by omega), if_pos (by omega)]
  · have ne : ¬ nI u = nI s := fun z => e ((nI_inj (by omega) (by omega)).mp z)
    rw [up_n ne, up_n ne, k1 70 (by omega) (by omega), k1 71 (by omega) (by omega), k1 (51 + 2 * u) (by omega) (by omega), k1 (52 + 2 * u) (by omega) (by omega)]
    obtain ⟨s1, s2, s3, s4⟩ := S u hu
    refine ⟨s1, s2, s3, fun i hi => ?_⟩
    rw [s4 i hi, R2 (40 * u + i) (by omega), if_neg (by omega), k1 72 (by omega) (by omega)]
theorem both_sheet {x1 x2 x3 : Int32} {h : AH} (I : Inv h) : p_UF_sheet (fun r1 h1 => p_MO_sheet (K2 r1) x1 x2 x3 h1) x1 x2 x3 h := by
  have S := Inv_Sh I
  have em1 : (-1 : Int32).toInt = -1 := by decide
  have e2 : (2 : Int32).toInt = 2 := by decide
  have e40 : (40 : Int32).toInt = 40 := by decide
  have bad : ∀ v, v = -2 → (¬ (0 ≤ x1 ∧ x1 ≤ 3) ∨ ¬ (-1 ≤ x2 ∧ x2 ≤ 2) ∨ (¬ x2 = -1 ∧ ¬ x3 ≤ 40)) → p_MO_sheet (K2 v) x1 x2 x3 h := fun v hv hb => by
    unfold p_MO_sheet
    rw [MO_in_iff]
    by_cases c1 : 0 ≤ x1 ∧ x1 ≤ 3
    · rw [b01_t c1]
      refine (pF (by decide)).mpr ?_
      rw [MO_in_iff]
      by_cases c2 : -1 ≤ x2 ∧ x2 ≤ 2
      · rw [b01_t c2]
        have c3 := (hb.resolve_left (fun z => z c1)).resolve_left (fun z => z c2)
        exact (pF (by decide)).mpr ((pF c3.1).mpr ((pF c3.2).mpr ⟨hv, I⟩))
      · rw [b01_f c2]; exact (pT rfl).mpr ⟨hv, I⟩
    · rw [b01_f c1]; exact (pT rfl).mpr ⟨hv, I⟩
  have good : ∀ s n, s < 4 → n ≤ 40 → x1 = nI s → (-1 ≤ x2 ∧ x2 ≤ 2) → ((x2 = -1 ∧ n = 0) ∨ (¬ x2 = -1 ∧ x3 = nI n)) → ∀ h1, frm [51 + 2 * s, 52 + 2 * s] h h1 → h1.1 (51 + 2 * s) 1 = x2 → h1.1 (51 + 2 * s) 2 = nI n → rowR 40 (h1.1 (52 + 2 * s)) (fun _ => 0) → p_MO_sheet (K2 1) x1 x2 x3 h1 := fun s n hs hn hx1 c2 hx h1 f1 a1 a2 a3 => by
    subst hx1
    have hso : -1 ≤ x2.toInt ∧ x2.toInt ≤ 2 := by
      rw [Int32.le_iff_toInt_le, Int32.le_iff_toInt_le, em1, e2] at c2; exact c2
    unfold p_MO_sheet
    rw [MO_in_iff, b01_t (sheetN.mpr ⟨s, hs, rfl⟩)]
    refine (pF (by decide)).mpr ?_
    rw [MO_in_iff, b01_t c2]
    refine (pF (by decide)).mpr ?_
    have is : inb (nI s) 4 := inb_nI hs (by omega)
    have fin : p_MO_sheet_66 (K2 1) (nI s) (nI s) (nI n) (wI h1 70 (nI s) x2) := by
      refine ⟨is, 41, MO_sheet_loop (h0 := wI (wI h1 70 (nI s) x2) 71 (nI s) (nI n)) hs 40 0 _ (by omega) frm_rf (fun j hj => by rw [if_neg (by omega)]) (fun h2 f2 R2 => ⟨rfl, ?_⟩)⟩
      refine Inv_sheets (h' := h2) I ?_ (Sh_renew hs S hso hn f1 a1 a2 a3 f2 R2)
      have q1 : ∀ x ∈ [51 + 2 * s, 52 + 2 * s], x ∈ SSh := fun x hx => by
        have h4 : s = 0 ∨ s = 1 ∨ s = 2 ∨ s = 3 := by omega
        simp only [List.mem_cons, List.not_mem_nil, or_false] at hx
        rcases h4 with rfl | rfl | rfl | rfl <;> (rcases hx with rfl | rfl <;> decide)
      exact frm_tr f1 (frm_tr (S := [70, 71]) (S2 := SSh) (frm_w (frm_w frm_rf (by simp)) (by simp)) f2 (by decide) (by decide)) q1 (fun _ z => z)
    have to44 : p_MO_sheet_44 (K2 1) (nI s) x2 x3 h1 := by
      refine ⟨is, ?_⟩
      rcases hx with ⟨z1, z2⟩ | ⟨z1, z2⟩
      · subst z2; exact (nT z1).mpr fin
      · rw [z2]; exact (nF z1).mpr fin
    rcases hx with ⟨z1, z2⟩ | ⟨z1, z2⟩
    · refine (pT z1).mpr ?_
      unfold p_MO_sheet_32
      exact (pT z1).mpr to44
    · have c40 : x3 ≤ 40 := by rw [z2]; exact (nI_leN (b := 40) (by omega) (by decide)).mpr hn
      have c0 : 0 ≤ x3 := by rw [z2]; exact (nI_leN (a := 0) (by decide) (by omega)).mpr (Nat.zero_le _)
      refine (pF z1).mpr ((pT c40).mpr ?_)
      unfold p_MO_sheet_32
      exact (pF z1).mpr ((pT c0).mpr to44)
  unfold p_UF_sheet
  rw [UF_isSheet_iff]
  by_cases c1 : 0 ≤ x1 ∧ x1 ≤ 3
  · rw [b01_t c1]
    refine (pF (by decide)).mpr ?_
    rw [UF_within_iff]
    by_cases c2 : -1 ≤ x2 ∧ x2 ≤ 2
    · rw [b01_t c2]
      refine (nF (by decide)).mpr ?_
      obtain ⟨s, hs, ex1⟩ := sheetN.mp c1
      obtain ⟨t1, t2, t3, t4, t5, t6⟩ := sheetT hs h
      have ecl : rR T1 h 3 x1.toNatClampNeg = 51 + 2 * s + 1 := by rw [ex1, nI_clamp (by omega), t1]
      have is : inb x1 4 := by rw [ex1]; exact inb_nI hs (by omega)
      rw [ecl, Nat.add_sub_cancel]
      by_cases c3 : x2 = -1
      · refine (nT c3).mpr ⟨is, Nat.succ_pos _, t2, t3, ?_⟩
        exact renew_spec hs (fun h1 f1 a1 a2 a3 => good s 0 hs (by omega) ex1 c2 (Or.inl ⟨c3, rfl⟩) h1 f1 (by rw [c3]; exact a1) a2 a3)
      · refine (nF c3).mpr ?_
        by_cases c4 : x3 ≤ 40
        · refine (pT c4).mpr ?_
          by_cases c5 : 0 ≤ x3
          · obtain ⟨n, hn, en⟩ := (upto (n := 40) (by decide)).mp ⟨c5, c4⟩
            refine (pT c5).mpr ⟨is, Nat.succ_pos _, t2, t3, ?_⟩
            exact renew_spec hs (fun h1 f1 a1 a2 a3 => good s n hs hn ex1 c2 (Or.inr ⟨c3, en⟩) h1 f1 a1 (by rw [← en]; exact a2) a3)
          · refine (pF c5).mpr ?_
            show p_MO_sheet (K2 _) _ _ _ _
            unfold p_MO_sheet
            rw [MO_in_iff, b01_t c1]
            refine (pF (by decide)).mpr ?_
            rw [MO_in_iff, b01_t c2]
            refine (pF (by decide)).mpr ((pF c3).mpr ((pT c4).mpr ?_))
            unfold p_MO_sheet_32
            exact (pF c3).mpr ((pF c5).mpr ⟨rfl, I⟩)
        · exact (pF c4).mpr (bad _ rfl (Or.inr (Or.inr ⟨c3, c4⟩)))
    · rw [b01_f c2]
      exact (nT rfl).mpr (bad _ rfl (Or.inr (Or.inl c2)))
  · rw [b01_f c1]
    exact (pT rfl).mpr (bad _ rfl (Or.inl c1))
