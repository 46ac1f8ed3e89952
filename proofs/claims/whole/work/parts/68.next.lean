/-! pure: the class's next token -/
theorem RB.tr {b : Nat → Int32} {L : Nat} {h h' : AH} (R : RB b L h) (f : frm [25] h h') (e : h'.1 25 1 = h.1 25 1) : RB b L h' := ⟨e.trans R.1, by rw [rR_2 f.1]; exact R.2.1, by rw [f.2 4 (by decide)]; exact R.2.2⟩
theorem word_0_spec {b : Nat → Int32} {L : Nat} {Q : AH → Prop} (hL : L ≤ 160) : ∀ (n p : Nat) (h : AH), p + n = L → RB b L h → h.1 25 3 = nI p → (∀ h', frm [25] h h' → (∀ k, ¬ k = 3 → h'.1 25 k = h.1 25 k) → h'.1 25 3 = nI (endW ltrB b n p) → p_Reader_word_39 Q h') → p_Reader_word_0 Q (n + 1) h := by
  intro n
  induction n with
  | zero =>
    intro p h hp R e3 HQ
    simp only [p_Reader_word_0]
    rw [R.1, e3, pT ((nI_leN (by omega) (by omega)).mpr (by omega))]
    exact HQ h frm_rf (fun _ _ => rfl) e3
  | succ n ih =>
    intro p h hp R e3 HQ
    obtain ⟨n', hn'⟩ : ∃ n', n' = n + 1 := ⟨_, rfl⟩
    rw [← hn']
    rw [← hn'] at ih
    obtain ⟨⟨q1, q2, q3, q4⟩, q5⟩ := R.at hL (p := p) (by omega)
    simp only [p_Reader_word_0]
    rw [R.1, e3, pF (fun z => by have := (nI_leN (by omega) (by omega)).mp z; omega), q5, isLetter_iff]
    refine ⟨q1, q2, q3, q4, ?_⟩
    by_cases c : ltrB (b p) = true
    · rw [b01_t (ltrB_t.mp c)]
      refine (pF (by decide)).mpr ?_
      rw [e3, nI_1]
      have ee : endW ltrB b (n + 1) p = endW ltrB b n (p + 1) := if_pos c
      rw [ee] at HQ
      refine ih (p + 1) _ (by omega) (R.w (by decide)) (by rw [wI_r, if_pos rfl, up_s]) (fun h' f k3 e3' => HQ h' (frm_tr (frm_w frm_rf (by decide)) f (fun _ z => z) (fun _ z => z)) (fun k hk => ?_) e3')
      rw [k3 k hk, wI_r, if_pos rfl, up_n hk]
    · rw [b01_f (fun z => c (ltrB_t.mpr z))]
      refine (pT rfl).mpr ?_
      have ee : endW ltrB b (n + 1) p = p := if_neg c
      rw [ee] at HQ
      exact HQ h frm_rf (fun _ _ => rfl) e3
theorem number_5_spec {b : Nat → Int32} {L : Nat} {Q : AH → Prop} (hL : L ≤ 160) : ∀ (n p : Nat) (v : Int32) (h : AH), p + n = L → RB b L h → h.1 25 3 = nI p → h.1 25 6 = v → (∀ h', frm [25] h h' → (∀ k, ¬ k = 3 → ¬ k = 6 → h'.1 25 k = h.1 25 k) → h'.1 25 3 = nI (endW dgtB b n p) → h'.1 25 6 = numV b (endW dgtB b n p - p) p v → p_Reader_number_68 Q h') → p_Reader_number_5 Q (n + 1) h := by
  intro n
  induction n with
  | zero =>
    intro p v h hp R e3 e6 HQ
    simp only [p_Reader_number_5]
    rw [R.1, e3, pT ((nI_leN (by omega) (by omega)).mpr (by omega))]
    exact HQ h frm_rf (fun _ _ _ => rfl) e3 (by rw [show endW dgtB b 0 p - p = 0 from Nat.sub_self p]; exact e6)
  | succ n ih =>
    intro p v h hp R e3 e6 HQ
    obtain ⟨n', hn'⟩ : ∃ n', n' = n + 1 := ⟨_, rfl⟩
    rw [← hn']
    rw [← hn'] at ih
    obtain ⟨⟨q1, q2, q3, q4⟩, q5⟩ := R.at hL (p := p) (by omega)
    simp only [p_Reader_number_5]
    rw [R.1, e3, pF (fun z => by have := (nI_leN (by omega) (by omega)).mp z; omega), q5, isDigit_iff]
    refine ⟨q1, q2, q3, q4, ?_⟩
    by_cases c : dgtB (b p) = true
    · rw [b01_t (dgtB_t.mp c)]
      refine (pF (by decide)).mpr ?_
      rw [e3, e6, q5, nI_1]
      refine ⟨q1, q2, q3, q4, ?_⟩
      have ee : endW dgtB b (n + 1) p = endW dgtB b n (p + 1) := if_pos c
      have ge := (endW_in (P := dgtB) (b := b) n (p + 1)).1
      have en : numV b (endW dgtB b (n + 1) p - p) p v = numV b (endW dgtB b n (p + 1) - (p + 1)) (p + 1) (v * 10 + b p - 48) := by
        rw [ee, show endW dgtB b n (p + 1) - p = (endW dgtB b n (p + 1) - (p + 1)) + 1 by omega]; rfl
      rw [en, ee] at HQ
      refine ih (p + 1) (v * 10 + b p - 48) _ (by omega) ((R.w (by decide)).w (by decide)) (by rw [wI_r, if_pos rfl, up_s]) (by rw [wI_r, if_pos rfl, up_n (by decide), wI_r, if_pos rfl, up_s]) (fun h' f k3 e3' e6' => HQ h' (frm_tr (frm_w (frm_w frm_rf (by decide)) (by decide)) f (fun _ z => z) (fun _ z => z)) (fun k hk hk6 => ?_) e3' e6')
      rw [k3 k hk hk6, wI_r, if_pos rfl, up_n hk, wI_r, if_pos rfl, up_n hk6]
    · rw [b01_f (fun z => c (dgtB_t.mpr z))]
      refine (pT rfl).mpr ?_
      have ee : endW dgtB b (n + 1) p = p := if_neg c
      rw [ee, Nat.sub_self] at HQ
      exact HQ h frm_rf (fun _ _ _ => rfl) e3 e6
def TS (b : Nat → Int32) (L p : Nat) (h : AH) : Prop := RB b L h ∧ h.1 25 3 = nI (tkE b L p) ∧ h.1 25 4 = nI (tkS b L p) ∧ h.1 25 5 = tkK b L p ∧ (tkK b L p = 2 ∨ tkK b L p = 3 → h.1 25 6 = tkV b L p)
theorem wdK_ne : ∀ k : Fin 13, ¬ wdK k.val = 2 := by decide +kernel
theorem wNo_le (ws : List Int32) : wNo ws < 13 := by
  rcases wNo_spec ws with ⟨h, _⟩ | ⟨h, _⟩ <;> omega
theorem sgn_ne {x : Int32} (h : sgnB x = true) : ¬ (x = 2 ∨ x = 3) := by
  rcases sgnB_t.mp h with rfl | rfl | rfl | rfl | rfl | rfl | rfl | rfl <;> decide
theorem next_52_spec {b : Nat → Int32} {L p : Nat} {Q : AH → Prop} {h : AH} (hL : L ≤ 160) (hp : p ≤ L) (R : RB b L h) (e3 : h.1 25 3 = nI (tkS b L p)) (HQ : ∀ h', frm [25] h h' → TS b L p h' → Q h') : p_Reader_next_52 Q h := by
  obtain ⟨s1, s2⟩ := tkS_in (b := b) hp
  obtain ⟨x1, x2, x3⟩ := tkE_in (b := b) hp
  obtain ⟨s, hs⟩ : ∃ s, s = tkS b L p := ⟨_, rfl⟩
  rw [← hs] at s1 s2 x1 x3 e3
  unfold p_Reader_next_52
  rw [R.1, e3]
  have R1 : RB b L (wI h 25 4 (nI s)) := R.w (by decide)
  have f1 : frm [25] h (wI h 25 4 (nI s)) := frm_w frm_rf (by decide)
  have e31 : (wI h 25 4 (nI s)).1 25 3 = nI s := by rw [wI_r, if_pos rfl, up_n (by decide)]; exact e3
  have e41 : (wI h 25 4 (nI s)).1 25 4 = nI s := by rw [wI_r, if_pos rfl, up_s]
  by_cases c : L ≤ s
  · refine (pF (fun z => by have := (nI_ltI (by omega) (by omega)).mp z; omega)).mpr ?_
    have eK : tkK b L p = 0 := by unfold tkK; rw [← hs]; exact if_pos c
    have eE : tkE b L p = s := by unfold tkE; rw [← hs]; exact if_pos c
    refine HQ _ (frm_w f1 (by decide)) ⟨R1.w (by decide), ?_, ?_, ?_, fun z => ?_⟩
    · rw [eE, wI_r, if_pos rfl, up_n (by decide)]; exact e31
    · rw [← hs, wI_r, if_pos rfl, up_n (by decide)]; exact e41
    · rw [eK, wI_r, if_pos rfl, up_s]
    · rw [eK] at z; exact absurd z (by decide)
  · obtain ⟨⟨q1, q2, q3, q4⟩, q5⟩ := R1.at hL (p := s) (by omega)
    have q4' : inb ((wI h 25 4 (nI s)).1 25 3) (rS T1 (wI h 25 4 (nI s)) (rR T1 (wI h 25 4 (nI s)) 25 0 - 1)).2 := by rw [e31]; exact q4
    refine (pT ((nI_ltI (by omega) (by omega)).mpr (by omega))).mpr ⟨q1, q2, q3, q4, ?_⟩
    have q5' : (wI h 25 4 (nI s)).1 (rR T1 h 25 0 - 1) (nI s) = b s := q5
    rw [q5', isLetter_iff]
    by_cases c1 : ltrB (b s) = true
    · rw [b01_t (ltrB_t.mp c1)]
      refine (pF (by decide)).mpr ⟨L - s + 1, word_0_spec hL (L - s) s _ (by omega) R1 e31 (fun h2 f2 k3 e32 => ?_)⟩
      have eE : tkE b L p = endW ltrB b (L - s) s := by unfold tkE; rw [← hs, if_neg c, if_pos c1]
      have eK : tkK b L p = wdK (wNo (seg b s (tkE b L p))) := by unfold tkK; rw [← hs, if_neg c, if_pos c1]
      have eV : tkV b L p = wdV (wNo (seg b s (tkE b L p))) := by unfold tkV; rw [← hs, if_pos c1]
      rw [← eE] at e32
      have R2 : RB b L h2 := R1.tr f2 (k3 1 (by decide))
      refine word_39_spec R2 hL x1 x2 e32 ((k3 4 (by decide)).trans e41) (fun h3 f3 k56 e53 e63 => ?_)
      refine HQ h3 (frm_tr f1 (frm_tr f2 f3 (fun _ z => z) (fun _ z => z)) (fun _ z => z) (fun _ z => z)) ⟨R2.tr f3 (k56 1 (by decide) (by decide)), ?_, ?_, ?_, fun z => ?_⟩
      · exact (k56 3 (by decide) (by decide)).trans e32
      · rw [← hs]; exact (k56 4 (by decide) (by decide)).trans ((k3 4 (by decide)).trans e41)
      · rw [eK]; exact e53
      · rw [eV]
        rw [eK] at z
        exact e63 (e53.trans (z.resolve_left (wdK_ne ⟨_, wNo_le _⟩)))
    · rw [b01_f (fun z => c1 (ltrB_t.mpr z))]
      refine (pT rfl).mpr ⟨q1, q2, q3, q4', ?_⟩
      have q5'' : (wI h 25 4 (nI s)).1 (rR T1 (wI h 25 4 (nI s)) 25 0 - 1) ((wI h 25 4 (nI s)).1 25 3) = b s := by rw [e31]; exact q5
      rw [q5'', isDigit_iff]
      by_cases c2 : dgtB (b s) = true
      · rw [b01_t (dgtB_t.mp c2)]
        have R2 : RB b L (wI (wI h 25 4 (nI s)) 25 6 0) := R1.w (by decide)
        refine (pF (by decide)).mpr ⟨L - s + 1, number_5_spec hL (L - s) s 0 _ (by omega) R2 (by rw [wI_r, if_pos rfl, up_n (by decide)]; exact e31) (by rw [wI_r, if_pos rfl, up_s]) (fun h2 f2 k36 e32 e62 => ?_)⟩
        have eE : tkE b L p = endW dgtB b (L - s) s := by unfold tkE; rw [← hs, if_neg c, if_neg c1, if_pos c2]
        have eK : tkK b L p = if tkE b L p - s ≤ 4 then 2 else 1 := by unfold tkK; rw [← hs, if_neg c, if_neg c1, if_pos c2]
        have eV : tkV b L p = numV b (tkE b L p - s) s 0 := by unfold tkV; rw [← hs, if_neg c1]
        rw [← eE] at e32 e62
        have R3 : RB b L h2 := R2.tr f2 (k36 1 (by decide) (by decide))
        have e42 : h2.1 25 4 = nI s := by rw [k36 4 (by decide) (by decide), wI_r, if_pos rfl, up_n (by decide)]; exact e41
        have f3 : frm [25] h h2 := frm_tr (frm_w f1 (by decide)) f2 (fun _ z => z) (fun _ z => z)
        unfold p_Reader_number_68
        rw [e32, e42, nI_subN x1]
        have fin : ∀ x, x = tkK b L p → Q (wI h2 25 5 x) := fun x hx => by
          refine HQ _ (frm_w f3 (by decide)) ⟨R3.w (by decide), ?_, ?_, ?_, fun z => ?_⟩
          · rw [wI_r, if_pos rfl, up_n (by decide)]; exact e32
          · rw [← hs, wI_r, if_pos rfl, up_n (by decide)]; exact e42
          · rw [wI_r, if_pos rfl, up_s, hx]
          · rw [wI_r, if_pos rfl, up_n (by decide), eV]; exact e62
        by_cases c3 : tkE b L p - s ≤ 4
        · exact (pT ((nI_leN (b := 4) (by omega) (by decide)).mpr c3)).mpr (fin 2 (by rw [eK, if_pos c3]))
        · exact (pF (fun z => c3 ((nI_leN (b := 4) (by omega) (by decide)).mp z))).mpr (fin 1 (by rw [eK, if_neg c3]))
      · rw [b01_f (fun z => c2 (dgtB_t.mpr z))]
        refine (pT rfl).mpr ?_
        have eE : tkE b L p = s + 1 := by unfold tkE; rw [← hs, if_neg c, if_neg c1, if_neg c2]
        have eK : tkK b L p = if sgnB (b s) then b s else 1 := by unfold tkK; rw [← hs, if_neg c, if_neg c1, if_neg c2]
        unfold p_Reader_sign
        rw [e31, q5, nI_1]
        refine ⟨q1, q2, q3, q4, ?_⟩
        have nk : ¬ (tkK b L p = 2 ∨ tkK b L p = 3) := by
          rw [eK]
          by_cases c3 : sgnB (b s) = true
          · rw [if_pos c3]; exact sgn_ne c3
          · rw [if_neg c3]; decide
        have fin : ∀ x, x = tkK b L p → Q (wI (wI (wI h 25 4 (nI s)) 25 3 (nI (s + 1))) 25 5 x) := fun x hx => by
          refine HQ _ (frm_w (frm_w f1 (by decide)) (by decide)) ⟨(R1.w (by decide)).w (by decide), ?_, ?_, ?_, fun z => absurd z nk⟩
          · rw [eE, wI_r, if_pos rfl, up_n (by decide), wI_r, if_pos rfl, up_s]
          · rw [← hs, wI_r, if_pos rfl, up_n (by decide), wI_r, if_pos rfl, up_n (by decide)]; exact e41
          · rw [wI_r, if_pos rfl, up_s, hx]
        have yes : sgnB (b s) = true → p_Reader_sign_68 (fun h13 => Q h13) (b s) (wI (wI h 25 4 (nI s)) 25 3 (nI (s + 1))) := fun z => by
          unfold p_Reader_sign_68 p_Reader_sign_73
          exact (pF (by decide)).mpr (fin _ (by rw [eK, if_pos z]))
        by_cases d1 : b s = 40
        · exact (pT d1).mpr (yes (sgnB_t.mpr (by simp [d1])))
        refine (pF d1).mpr ?_
        by_cases d2 : b s = 41
        · exact (pT d2).mpr (yes (sgnB_t.mpr (by simp [d2])))
        refine (pF d2).mpr ?_
        by_cases d3 : b s = 59
        · exact (pT d3).mpr (yes (sgnB_t.mpr (by simp [d3])))
        refine (pF d3).mpr ?_
        by_cases d4 : b s = 43
        · exact (pT d4).mpr (yes (sgnB_t.mpr (by simp [d4])))
        refine (pF d4).mpr ?_
        by_cases d5 : b s = 45
        · exact (pT d5).mpr (yes (sgnB_t.mpr (by simp [d5])))
        refine (pF d5).mpr ?_
        by_cases d6 : b s = 42
        · exact (pT d6).mpr (yes (sgnB_t.mpr (by simp [d6])))
        refine (pF d6).mpr ?_
        by_cases d7 : b s = 60
        · exact (pT d7).mpr (yes (sgnB_t.mpr (by simp [d7])))
        refine (pF d7).mpr ?_
        by_cases d8 : b s = 61
        · exact (nT d8).mpr (yes (sgnB_t.mpr (by simp [d8])))
        refine (nF d8).mpr ?_
        unfold p_Reader_sign_73
        exact (pT rfl).mpr (fin _ (by rw [eK, if_neg (fun z => by rcases sgnB_t.mp z with z | z | z | z | z | z | z | z <;> contradiction)]))
theorem next_0_spec {b : Nat → Int32} {L : Nat} {Q : AH → Prop} (hL : L ≤ 160) : ∀ (n p : Nat) (h : AH), p + n = L → RB b L h → h.1 25 3 = nI p → (∀ h', frm [25] h h' → RB b L h' → h'.1 25 3 = nI (endW blkB b n p) → p_Reader_next_52 Q h') → p_Reader_next_0 Q (n + 1) h := by
  intro n
  induction n with
  | zero =>
    intro p h hp R e3 HQ
    simp only [p_Reader_next_0]
    rw [R.1, e3, pT ((nI_leN (by omega) (by omega)).mpr (by omega))]
    exact HQ h frm_rf R e3
  | succ n ih =>
    intro p h hp R e3 HQ
    obtain ⟨n', hn'⟩ : ∃ n', n' = n + 1 := ⟨_, rfl⟩
    rw [← hn']
    rw [← hn'] at ih
    obtain ⟨⟨q1, q2, q3, q4⟩, q5⟩ := R.at hL (p := p) (by omega)
    simp only [p_Reader_next_0]
    rw [R.1, e3, pF (fun z => by have := (nI_leN (by omega) (by omega)).mp z; omega), q5]
    refine ⟨q1, q2, q3, q4, ?_⟩
    have go : blkB (b p) = true → p_Reader_next_39 Q (p_Reader_next_0 Q n') h := fun c => by
      unfold p_Reader_next_39
      rw [e3, nI_1]
      have ee : endW blkB b (n + 1) p = endW blkB b n (p + 1) := if_pos c
      rw [ee] at HQ
      exact ih (p + 1) _ (by omega) (R.w (by decide)) (by rw [wI_r, if_pos rfl, up_s]) (fun h' f R' e3' => HQ h' (frm_tr (frm_w frm_rf (by decide)) f (fun _ z => z) (fun _ z => z)) R' e3')
    by_cases d1 : b p = 32
    · exact (pT d1).mpr (go (blkB_t.mpr (Or.inl d1)))
    refine (pF d1).mpr ?_
    by_cases d2 : b p = 10
    · exact (nT d2).mpr (go (blkB_t.mpr (Or.inr d2)))
    refine (nF d2).mpr ?_
    have ee : endW blkB b (n + 1) p = p := if_neg (fun z => by rcases blkB_t.mp z with z | z <;> contradiction)
    rw [ee] at HQ
    exact HQ h frm_rf R e3
theorem Reader_next_spec {b : Nat → Int32} {L p : Nat} {Q : AH → Prop} {h : AH} (hL : L ≤ 160) (hp : p ≤ L) (R : RB b L h) (e3 : h.1 25 3 = nI p) (HQ : ∀ h', frm [25] h h' → TS b L p h' → Q h') : p_Reader_next Q h :=
  ⟨L - p + 1, next_0_spec hL (L - p) p h (by omega) R e3 (fun h1 f1 R1 e31 => next_52_spec hL hp R1 e31 (fun h2 f2 T2 => HQ h2 (frm_tr f1 f2 (fun _ z => z) (fun _ z => z)) T2))⟩
