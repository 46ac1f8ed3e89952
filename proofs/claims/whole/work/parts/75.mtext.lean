/-! pure: a whole text, the model's side; both openings -/
def frP (t : Nat) (h h' : AH) : Prop := h'.2.2.2 = h.2.2.2 ∧ (∀ a, ¬ a = 25 → h'.2.2.1 a = h.2.2.1 a) ∧ ∀ b, b ∉ SCf t → h'.1 b = h.1 b
theorem Reader_read_spec {b : Nat → Int32} {L t : Nat} {h : AH} {Q : Int32 → AH → Prop} {P : (Int32 → AH → Prop) → Int32 → AH → Prop} (hL : L ≤ 160) (ht : t < 6) (hS : SpecR b L t 0 0 P) (hb : ∀ j, j < L → h.1 4 (nI j) = b j)
    (HS : ∀ es o' h', TOK b L 3 0 0 es → DSo es o' → o'.length ≤ L → (∀ j, j < o'.length → h'.1 (34 + 3 * t) (nI j) = mapC (o'.getD j 0)) → FR t 3 es h' → frP t h h' → Q (-1) h') (HF : ∀ s h', TFl b L 3 0 0 s → s ≤ L → frP t h h' → Q (nI s) h') : p_Reader_read Q P 4 (nI L) (33 + 3 * t) h := by
  unfold p_Reader_read
  refine ⟨vA_s (show 4 < 84 by decide), rfl, ?_⟩
  unfold p_Math_min
  have c : ¬ (160 : Int32) < nI L := fun z => by have := (nI_ltI (a := 160) (by decide) (by omega)).mp z; omega
  have e160 : Int32.ofNat (rS T1 (wR h 25 0 (4 + 1)) 4).2 = 160 := rfl
  rw [e160]
  refine (pF c).mpr ?_
  have er : ∀ hh : AH, rR T1 (wR hh 25 2 (33 + 3 * t + 1)) 25 2 = 33 + 3 * t + 1 := fun hh => rfl
  dsimp only
  rw [er, Nat.add_sub_cancel]
  obtain ⟨l1, l2, l3, l4, l5, l6, l7, l8⟩ := lawT ht (wR (wI (wR h 25 0 (4 + 1)) 25 1 (nI L)) 25 2 (33 + 3 * t + 1))
  have l1 := (lawT ht (wR (wR h 25 0 (4 + 1)) 25 2 (33 + 3 * t + 1))).1
  have l2 := (lawT ht (wR (wR h 25 0 (4 + 1)) 25 2 (33 + 3 * t + 1))).2.1
  obtain ⟨h1, e1⟩ : ∃ h1, h1 = wI (wI (wR (wI (wR h 25 0 (4 + 1)) 25 1 (nI L)) 25 2 (33 + 3 * t + 1)) (33 + 3 * t) 2 0) 25 3 0 := ⟨_, rfl⟩
  refine ⟨Nat.succ_pos _, l1, l2, ?_⟩
  rw [← e1]
  have g1 : ∀ c, ¬ c = 25 → ¬ c = 33 + 3 * t → h1.1 c = h.1 c := fun c c1 c2 => by
    rw [e1, wI_r, if_neg c1, wI_r, if_neg c2]
    show (wI (wR h 25 0 (4 + 1)) 25 1 (nI L)).1 c = _
    rw [wI_r, if_neg c1]; rfl
  have fP1 : frP t h h1 := by
    refine ⟨by rw [e1]; rfl, fun a ha => ?_, fun c hc => g1 c (fun z => hc (by rw [z]; simp [SCf])) (fun z => hc (by rw [z]; simp [SCf]))⟩
    rw [e1]
    show (if a = 25 then _ else if a = 25 then _ else h.2.2.1 a) = _
    rw [if_neg ha, if_neg ha]
  have r25 : h1.1 25 = up (up (h.1 25) 1 (nI L)) 3 0 := by
    rw [e1, wI_r, if_pos rfl, wI_r, if_neg (show ¬ 25 = 33 + 3 * t by omega)]
    show up ((wI (wR h 25 0 (4 + 1)) 25 1 (nI L)).1 25) 3 0 = _
    rw [wI_r, if_pos rfl]; rfl
  have RB1 : RB b L h1 := ⟨by rw [r25, up_n (by decide), up_s], by rw [e1]; rfl, fun j hj => by rw [g1 4 (by decide) (by omega)]; exact hb j hj⟩
  refine Reader_next_spec hL (Nat.zero_le L) RB1 (by rw [r25, up_s]; rfl) (fun h2 f2 T2 => ⟨4, ?_⟩)
  have C2 : CS b L t 0 [] h2 := by
    refine ⟨T2, ?_, ?_, fun j hj => absurd hj (Nat.not_lt_zero j)⟩
    · rw [rR_2 f2.1, e1]; rfl
    · rw [f2.2 (33 + 3 * t) (by simp; omega), e1, wI_r, if_neg (show ¬ 33 + 3 * t = 25 by omega), wI_r, if_pos rfl, up_s]; rfl
  have fP2 : ∀ h', frm (SCf t) h2 h' → frP t h h' := fun h' f => by
    refine ⟨by rw [f.1, f2.1]; exact fP1.1, fun a ha => by rw [f.1, f2.1]; exact fP1.2.1 a ha, fun c hc => ?_⟩
    rw [f.2 c hc, f2.2 c (fun z => hc (by rw [List.mem_singleton.mp z]; simp [SCf]))]
    exact fP1.2.2 c hc
  refine read_loop hL ht hS 3 0 0 [] [] h2 rfl rfl ⟨rfl, fun p hp => absurd hp (Nat.not_lt_zero p)⟩ (Nat.le_refl _) (Nat.zero_le _) C2 frm_rf ⟨fun j hj => absurd hj (Nat.not_lt_zero j), fun z => absurd z (by decide)⟩ (fun es o' h' p' A1 A2 A3 A4 A5 A6 => HS es o' h' A1 A2 A3 A4.2.2.2 A6 (fP2 h' A5)) (fun s h' A1 A2 A3 => HF s h' A1 A2 (fP2 h' A3))
/-! the model -/
def frM (t : Nat) (h0 h : AH) : Prop := h.2 = h0.2 ∧ (∀ b, b ∉ [59, 67, 68, 75] → h.1 b = h0.1 b) ∧ (∀ k, kq k → h.1 59 k = h0.1 59 k) ∧ (∀ j, j < 1200 → ¬ (200 * t ≤ j ∧ j < 200 * t + 200) → h.1 67 (nI j) = h0.1 67 (nI j)) ∧ ∀ j, j < 24 → ¬ (4 * t ≤ j ∧ j < 4 * t + 4) → h.1 68 (nI j) = h0.1 68 (nI j)
theorem frM_rf {t : Nat} {h : AH} : frM t h h := ⟨rfl, fun _ _ => rfl, fun _ _ => rfl, fun _ _ _ => rfl, fun _ _ _ => rfl⟩
theorem frM_tr {t : Nat} {h h' h2 : AH} (a : frM t h h') (c : frM t h' h2) : frM t h h2 := ⟨c.1.trans a.1, fun b hb => (c.2.1 b hb).trans (a.2.1 b hb), fun k hk => (c.2.2.1 k hk).trans (a.2.2.1 k hk), fun j h1 h3 => (c.2.2.2.1 j h1 h3).trans (a.2.2.2.1 j h1 h3), fun j h1 h3 => (c.2.2.2.2 j h1 h3).trans (a.2.2.2.2 j h1 h3)⟩
theorem frM_E {t : Nat} {h h' : AH} (f : frE t h h') : frM t h h' := by
  refine ⟨f.1, fun b hb => f.2.1 b (fun z => hb ?_), f.2.2.1, f.2.2.2, fun j _ _ => by rw [f.2.1 68 (by decide)]⟩
  simp only [List.mem_cons, List.not_mem_nil, or_false] at z ⊢; omega
theorem frM_68 {t j : Nat} {h h' : AH} {x : Int32} (f : frM t h h') (ht : t < 6) (hj : j < 4) : frM t h (wI h' 68 (nI (4 * t + j)) x) := by
  refine ⟨f.1, fun b hb => by rw [wI_r, if_neg (fun z => hb (by rw [z]; decide))]; exact f.2.1 b hb, f.2.2.1, f.2.2.2.1, fun i h1 h2 => ?_⟩
  rw [wI_r, if_pos rfl, up_n (fun z => by have := (nI_inj (by omega) (by omega)).mp z; omega)]
  exact f.2.2.2.2 i h1 h2
def MH (b : Nat → Int32) (L t : Nat) (h0 : AH) (k p : Nat) (o : List Int32) (ds : List (List Int32)) (h : AH) : Prop := MB b L h ∧ h.1 59 21 = nI p ∧ h.1 59 29 = nI o.length ∧ codA t o h ∧ frM t h0 h ∧ (o.length ≤ p ∧ p ≤ L) ∧ h.1 59 11 = nI t ∧ ∀ j, j < k → h.1 68 (nI (4 * t + j)) = nI (offC (cE ds) j)
theorem wd_key : ∀ k : Fin 13, (wdK k.val = 7 ∨ wdK k.val = 8 ∨ wdK k.val = 9) → wdV k.val + 7 = wdK k.val := by decide +kernel
theorem key_V {b : Nat → Int32} {L p : Nat} (hK : tkK b L p = 7 ∨ tkK b L p = 8 ∨ tkK b L p = 9) : tkV b L p + 7 = tkK b L p := by
  have nL : ¬ L ≤ tkS b L p := fun z => by
    have : tkK b L p = 0 := if_pos z
    rw [this] at hK; exact absurd hK (by decide)
  by_cases c1 : ltrB (b (tkS b L p)) = true
  · have eK : tkK b L p = wdK (wNo (seg b (tkS b L p) (tkE b L p))) := by unfold tkK; rw [if_neg nL, if_pos c1]
    have eV : tkV b L p = wdV (wNo (seg b (tkS b L p) (tkE b L p))) := by unfold tkV; rw [if_pos c1]
    rw [eK] at hK
    rw [eK, eV]
    exact wd_key ⟨_, wNo_le _⟩ hK
  · exfalso
    unfold tkK at hK
    rw [if_neg nL, if_neg c1] at hK
    by_cases c2 : dgtB (b (tkS b L p)) = true
    · rw [if_pos c2] at hK
      by_cases c3 : tkE b L p - tkS b L p ≤ 4
      · rw [if_pos c3] at hK; exact absurd hK (by decide)
      · rw [if_neg c3] at hK; exact absurd hK (by decide)
    · rw [if_neg c2] at hK
      by_cases c3 : sgnB (b (tkS b L p)) = true
      · rw [if_pos c3] at hK
        rcases sgnB_t.mp c3 with e | e | e | e | e | e | e | e <;> (rw [e] at hK; exact absurd hK (by decide))
      · rw [if_neg c3] at hK; exact absurd hK (by decide)
section MTEXT
variable {b : Nat → Int32} {L t : Nat} {h0 : AH} {Q : Int32 → AH → Prop}
theorem mtext_122F {s : Nat} {h : AH} (ht : t < 6) (e11 : h.1 59 11 = nI t) (e22 : h.1 59 22 = nI s) (f : frM t h0 h) (HF : ∀ h', frM t h0 h' → Q (-100 - nI s) (wI h' 59 8 0)) : p_MO_text_122 Q 0 h := by
  unfold p_MO_text_122
  rw [e11, e22, show (4 : Int32) * nI t + 3 = nI (4 * t + 3) by rw [show (3 : Int32) = nI 3 from rfl, nI_4rp]]
  exact ⟨inb_nI (by omega) (by omega), (nT rfl).mpr (HF _ (frM_68 f ht (by omega)))⟩
theorem mtext_dead {n k s : Nat} {h : AH} (ht : t < 6) (e11 : h.1 59 11 = nI t) (e22 : h.1 59 22 = nI s) (f : frM t h0 h) (HF : ∀ h', frM t h0 h' → Q (-100 - nI s) (wI h' 59 8 0)) : p_MO_text_26 Q (n + 1) 0 (nI k) h := by
  have d : p_MO_text_101 Q 0 h := by
    unfold p_MO_text_101
    exact (pT rfl).mpr (mtext_122F ht e11 e22 f HF)
  simp only [p_MO_text_26]
  exact ⟨fun _ => d, fun _ => ⟨fun _ => d, fun z => absurd trivial z⟩⟩
theorem mtext_93 {n k s : Nat} {h : AH} (ht : t < 6) (e11 : h.1 59 11 = nI t) (e22 : h.1 59 22 = nI s) (f : frM t h0 h) (HF : ∀ h', frM t h0 h' → Q (-100 - nI s) (wI h' 59 8 0)) : p_MO_text_93 Q (p_MO_text_26 Q (n + 1)) (nI k) h := by
  unfold p_MO_text_93 p_MO_text_94
  rw [nI_1]
  exact mtext_dead ht e11 e22 f HF
theorem MH_next {k p : Nat} {o : List Int32} {ds : List (List Int32)} {h : AH} {Q' : AH → Prop} (hL : L ≤ 160) (M : MH b L t h0 k p o ds h) (HQ : ∀ h1, MH b L t h0 k (tkE b L p) o ds h1 → TM b L p h1 → Q' h1) : p_MO_next Q' h := by
  obtain ⟨m1, m2, m3, m4, m5, ⟨m6, m7⟩, m8, m9⟩ := M
  refine MO_next_spec hL m7 m1 m2 (fun h1 f1 k1 T1 => HQ h1 ⟨m1.tr f1 k1, T1.1, ?_, ?_, ?_, ⟨?_, (tkE_in m7).2.1⟩, ?_, ?_⟩ T1)
  · rw [k1 29 (by decide) (by decide) (by decide) (by decide)]; exact m3
  · unfold codA; rw [f1.2 67 (by decide)]; exact m4
  · refine ⟨f1.1.trans m5.1, fun c hc => ?_, fun j hj => (k1 j hj.1 hj.2.1 hj.2.2.1 hj.2.2.2.1).trans (m5.2.2.1 j hj), fun j h1 h2 => ?_, fun j h1 h2 => ?_⟩
    · rw [f1.2 c (fun z => hc (by rw [List.mem_singleton.mp z]; decide))]; exact m5.2.1 c hc
    · rw [f1.2 67 (by decide)]; exact m5.2.2.2.1 j h1 h2
    · rw [f1.2 68 (by decide)]; exact m5.2.2.2.2 j h1 h2
  · have := (tkS_in (b := b) m7).1
    have := (tkE_in (b := b) m7).1
    omega
  · rw [k1 11 (by decide) (by decide) (by decide) (by decide)]; exact m8
  · rw [f1.2 68 (by decide)]; exact m9
theorem key_c {k : Nat} (hk : k < 3) : nI (7 + k) = 7 ∨ nI (7 + k) = 8 ∨ nI (7 + k) = 9 := by
  match k, hk with
  | 0, _ => exact Or.inl rfl
  | 1, _ => exact Or.inr (Or.inl rfl)
  | 2, _ => exact Or.inr (Or.inr rfl)
theorem mtext_key {k p n' : Nat} {o : List Int32} {ds : List (List Int32)} {h : AH} (hL : L ≤ 160) (ht : t < 6) (hk : k < 3) (hd : ds.length = k) (D : DSo ds o) (M : MH b L t h0 k p o ds h) (kk : tkK b L p = nI (7 + k))
    (G : ∀ hB, MX b L t hB (tkE b L p) [] 0 o hB → frM t h0 hB → (∀ j, j < k + 1 → hB.1 68 (nI (4 * t + j)) = nI (offC (cE ds) j)) → ∃ n, p_MO_eRead_14 (fun r3 h2 => ((r3 = 0 → p_MO_text_93 Q (p_MO_text_26 Q n') (nI k) h2) ∧ (¬ r3 = 0 → p_MO_text_94 Q (p_MO_text_26 Q n') (nI k) 1 h2))) n 1 1 hB) : p_MO_text_26 Q (n' + 1) 1 (nI k) h := by
  simp only [p_MO_text_26]
  refine (pF (fun z => by have := (nI_leN (a := 3) (by decide) (by omega)).mp z; omega)).mpr ((pF (by decide)).mpr (MH_next hL M (fun h1 M1 T1 => ?_)))
  obtain ⟨t21, t22, t23, t24⟩ := T1
  have kc : tkK b L p = 7 ∨ tkK b L p = 8 ∨ tkK b L p = 9 := by rw [kk]; exact key_c hk
  have v1 := key_V kc
  have v : tkV b L p = nI k := by
    rw [kk, show nI (7 + k) = nI k + 7 by rw [show (7 : Int32) = nI 7 from rfl, nI_add, Nat.add_comm]] at v1
    rw [← Int32.add_sub_cancel (tkV b L p) 7, v1, Int32.add_sub_cancel]
  have e24 : h1.1 59 24 = nI k := by rw [t24 (Or.inr (Or.inr kc)), v]
  have e23 : h1.1 59 23 = 3 := by rw [t23]; exact mkT_3.mpr kc
  refine (nT e23).mpr ((nT e24).mpr ?_)
  obtain ⟨m1, m2, m3, m4, m5, ⟨m6, m7⟩, m8, m9⟩ := M1
  unfold p_MO_text_60
  rw [m8, m3, nI_4rp]
  refine ⟨inb_nI (by omega) (by omega), (pF (by decide)).mpr ?_⟩
  obtain ⟨hB, eB⟩ : ∃ hB, hB = wI (wI (wI h1 68 (nI (4 * t + k)) (nI o.length)) 59 27 0) 59 28 0 := ⟨_, rfl⟩
  show ∃ n, p_MO_eRead_14 _ n 1 1 (wI (wI (wI h1 68 (nI (4 * t + k)) (nI o.length)) 59 27 0) 59 28 0)
  rw [← eB]
  have g59 : ∀ j, ¬ j = 27 → ¬ j = 28 → hB.1 59 j = h1.1 59 j := fun j a c => by
    rw [eB, r59, if_neg c, r59, if_neg a]; rfl
  have gb : ∀ c, ¬ c = 59 → ¬ c = 68 → hB.1 c = h1.1 c := fun c a d => by
    rw [eB, wI_r, if_neg a, wI_r, if_neg a, wI_r, if_neg d]
  have g68 : hB.1 68 = up (h1.1 68) (nI (4 * t + k)) (nI o.length) := by
    rw [eB, wI_r, if_neg (by decide), wI_r, if_neg (by decide), wI_r, if_pos rfl]
  have bd := (tkE_in (b := b) (p := p) (L := L))
  refine G hB ⟨⟨?_, ?_, ?_⟩, ?_, ?_, ?_, ?_, trivial, ?_, frE_rf, ⟨?_, m7⟩, ?_, ht⟩ ?_ (fun j hj => ?_)
  · rw [g59 8 (by decide) (by decide)]; exact m1.1
  · rw [gb 66 (by decide) (by decide)]; exact m1.2.1
  · unfold Wds; rw [gb 74 (by decide) (by decide)]; exact m1.2.2
  · rw [g59 21 (by decide) (by decide)]; exact m2
  · rw [eB, r59, if_neg (by decide), r59, if_pos rfl]; rfl
  · rw [eB, r59, if_pos rfl]
  · rw [g59 29 (by decide) (by decide)]; exact m3
  · unfold codA; rw [gb 67 (by decide) (by decide)]; exact m4
  · show 0 + o.length ≤ _; omega
  · rw [g59 11 (by decide) (by decide)]; exact m8
  · refine frM_tr m5 (frM_tr (frM_68 (j := k) (x := nI o.length) frM_rf ht (by omega)) ⟨by rw [eB]; rfl, fun c hc => ?_, fun j hj => ?_, fun j _ _ => ?_, fun j _ _ => ?_⟩)
    · have hc' : ¬ c = 59 := fun z => hc (by rw [z]; decide)
      rw [eB, wI_r, if_neg hc', wI_r, if_neg hc']
    · rw [g59 j hj.2.2.2.2.1 hj.2.2.2.2.2.1]; rfl
    · rw [gb 67 (by decide) (by decide)]; rfl
    · rw [g68]; rfl
  · rw [g68, up_a]
    by_cases e : j = k
    · rw [if_pos (by rw [e]), D.1, hd, e]
    · rw [if_neg (fun z => e (by have := (nI_inj (by omega) (by omega)).mp z; omega))]
      exact m9 j (by omega)
theorem mtext_part {k p q n' : Nat} {o e : List Int32} {ds : List (List Int32)} {h : AH} (hL : L ≤ 160) (ht : t < 6) (hk : k < 3) (hd : ds.length = k) (D : DSo ds o) (M : MH b L t h0 k p o ds h) (kk : tkK b L p = nI (7 + k)) (S : SimOK b L 0 0 (tkE b L p) q e) (hq : tkK b L q = 59)
    (G : ∀ h2, MH b L t h0 (k + 1) (tkE b L q) (o ++ e) (ds ++ [e]) h2 → p_MO_text_26 Q n' 1 (nI (k + 1)) h2) : p_MO_text_26 Q (n' + 1) 1 (nI k) h := by
  refine mtext_key hL ht hk hd D M kk (fun hB XB fB sB => ⟨L - tkE b L p + 1, ?_⟩)
  refine Gd_part hL S hq (fun h2 X2 => ?_) _ hB (Nat.le_refl _) XB
  refine (pF (by decide)).mpr ?_
  unfold p_MO_text_94
  rw [nI_1]
  obtain ⟨r1, r2, r3, r4, r5, r6, r7, r8, ⟨r9, r10⟩, r11, r12⟩ := X2
  obtain ⟨D1, D2⟩ := DSo_s (e := e) D
  refine G h2 ⟨r1, r2, r5, r7, frM_tr fB (frM_E r8), ⟨by have z : 0 + (o ++ e).length ≤ tkE b L q := r9; omega, r10⟩, r11, fun j hj => ?_⟩
  rw [r8.2.1 68 (by decide), sB j hj, offC_app (by omega)]
theorem mtext_ok (hL : L ≤ 160) (ht : t < 6) : ∀ (c k p : Nat) (o : List Int32) (ds es : List (List Int32)) (h : AH), k + c = 3 → ds.length = k → DSo ds o → MH b L t h0 k p o ds h → TOK b L c k p es →
    (∀ o' h', DSo (ds ++ es) o' → o'.length ≤ L → codA t o' h' → frM t h0 h' → (∀ j, j < 4 → h'.1 68 (nI (4 * t + j)) = nI (offC (cE (ds ++ es)) j)) → Q (nI t) (wI (wI h' 59 8 0) 59 11 (nI (t + 1)))) → p_MO_text_26 Q (c + 1) 1 (nI k) h := by
  intro c
  induction c with
  | zero =>
    intro k p o ds es h hk hd D M T HS
    have hk' : k = 3 := by omega
    subst hk'
    obtain ⟨rfl, k0⟩ := T
    rw [List.append_nil] at HS
    simp only [p_MO_text_26]
    refine (pT (by decide)).mpr ?_
    unfold p_MO_text_101
    refine (pF (by decide)).mpr (MH_next hL M (fun h1 M1 T1 => ?_))
    obtain ⟨t21, t22, t23, t24⟩ := T1
    refine (nT (by rw [t23, k0]; rfl)).mpr ?_
    unfold p_MO_text_121 p_MO_text_122
    obtain ⟨m1, m2, m3, m4, m5, ⟨m6, m7⟩, m8, m9⟩ := M1
    rw [m8, m3, nI_1, nI_sub1, show (4 : Int32) * nI t + 3 = nI (4 * t + 3) by rw [show (3 : Int32) = nI 3 from rfl, nI_4rp]]
    refine ⟨inb_nI (by omega) (by omega), (nF (by decide)).mpr ?_⟩
    refine HS o (wI h1 68 (nI (4 * t + 3)) (nI o.length)) D (by omega) m4 (frM_68 m5 ht (by omega)) (fun j hj => ?_)
    rw [wI_r, if_pos rfl, up_a]
    by_cases e : j = 3
    · rw [if_pos (by rw [e]), D.1, hd, e]
    · rw [if_neg (fun z => e (by have := (nI_inj (by omega) (by omega)).mp z; omega))]
      exact m9 j (by omega)
  | succ c ih =>
    intro k p o ds es h hk hd D M T HS
    obtain ⟨e, p', es', rfl, ⟨kk, q, P2, hq, rfl⟩, T'⟩ := T
    refine mtext_part hL ht (by omega) hd D M kk P2.2.2.2 hq (fun h2 M2 => ?_)
    refine ih (k + 1) _ (o ++ e) (ds ++ [e]) es' h2 (by omega) (by simp [hd]) (DSo_s D).1 M2 T' (fun o' h' A1 A2 A3 A4 A5 => ?_)
    rw [List.append_assoc] at A1 A5
    exact HS o' h' A1 A2 A3 A4 A5
theorem mtext_f (hL : L ≤ 160) (ht : t < 6) {s : Nat} (HF : ∀ h', frM t h0 h' → Q (-100 - nI s) (wI h' 59 8 0)) : ∀ (c k p : Nat) (o : List Int32) (ds : List (List Int32)) (h : AH), k + c = 3 → ds.length = k → DSo ds o → MH b L t h0 k p o ds h → TFl b L c k p s → p_MO_text_26 Q (c + 1) 1 (nI k) h := by
  intro c
  induction c with
  | zero =>
    intro k p o ds h hk hd D M T
    have hk' : k = 3 := by omega
    subst hk'
    obtain ⟨k0, rfl⟩ := T
    simp only [p_MO_text_26]
    refine (pT (by decide)).mpr ?_
    unfold p_MO_text_101
    refine (pF (by decide)).mpr (MH_next hL M (fun h1 M1 T1 => ?_))
    obtain ⟨t21, t22, t23, t24⟩ := T1
    refine (nF (fun z => k0 ?_)).mpr ?_
    · rw [t23] at z; exact (mkT_v (by decide)).mp z
    · unfold p_MO_text_121
      exact mtext_122F ht M1.2.2.2.2.2.2.1 t22 M1.2.2.2.2.1 HF
  | succ c ih =>
    intro k p o ds h hk hd D M T
    rcases T with T | ⟨e, p', ⟨kk, q, P2, hq, rfl⟩, T'⟩
    · have qf : ∀ hB s', frM t h0 hB → hB.1 59 11 = nI t → s' = s → QF t (fun r3 h2 => ((r3 = 0 → p_MO_text_93 Q (p_MO_text_26 Q (c + 1)) (nI k) h2) ∧ (¬ r3 = 0 → p_MO_text_94 Q (p_MO_text_26 Q (c + 1)) (nI k) 1 h2))) hB s' := fun hB s' fB e11 es h' f' e22 => by
        refine (pT rfl).mpr (mtext_93 ht ?_ (by rw [e22, es]) (frM_tr fB (frM_E f')) HF)
        rw [f'.2.2.1 11 (by unfold kq; decide)]; exact e11
      rcases T with ⟨kk, hs⟩ | ⟨kk, S⟩ | ⟨kk, q, e, P2, hq, hs⟩
      · simp only [p_MO_text_26]
        refine (pF (fun z => by have := (nI_leN (a := 3) (by decide) (by omega)).mp z; omega)).mpr ((pF (by decide)).mpr (MH_next hL M (fun h1 M1 T1 => ?_)))
        obtain ⟨t21, t22, t23, t24⟩ := T1
        have dead : p_MO_text_59 Q (p_MO_text_26 Q (c + 1)) (nI k) h1 := by
          unfold p_MO_text_59 p_MO_text_60
          rw [M1.2.2.2.2.2.2.1, nI_4rp]
          refine ⟨inb_nI (by omega) (by omega), (pT rfl).mpr (mtext_93 ht ?_ ?_ (frM_68 M1.2.2.2.2.1 ht (by omega)) HF)⟩
          · exact M1.2.2.2.2.2.2.1
          · show h1.1 59 22 = nI s
            rw [t22, hs]
        by_cases c3 : h1.1 59 23 = 3
        · refine (nT c3).mpr ?_
          rw [t23] at c3
          have kc := mkT_3.mp c3
          refine (nF (fun z => kk ?_)).mpr dead
          rw [← key_V kc, ← t24 (Or.inr (Or.inr kc)), z, show (7 : Int32) = nI 7 from rfl, nI_add, Nat.add_comm]
        · exact (nF c3).mpr dead
      · refine mtext_key hL ht (by omega) hd D M kk (fun hB XB fB sB => ⟨L - tkE b L p + 1, ?_⟩)
        exact Gd_partG S (qf hB s fB XB.2.2.2.2.2.2.2.2.2.1 rfl) _ hB (Nat.le_refl _) XB
      · refine mtext_key hL ht (by omega) hd D M kk (fun hB XB fB sB => ⟨L - tkE b L p + 1, ?_⟩)
        exact Gd_partF hL P2.2.2.2 P2.2.2.1 hq (qf hB _ fB XB.2.2.2.2.2.2.2.2.2.1 hs.symm) _ hB (Nat.le_refl _) XB
    · refine mtext_part hL ht (by omega) hd D M kk P2.2.2.2 hq (fun h2 M2 => ?_)
      exact ih (k + 1) _ (o ++ e) (ds ++ [e]) h2 (by omega) (by simp [hd]) (DSo_s D).1 M2 T'
end MTEXT
