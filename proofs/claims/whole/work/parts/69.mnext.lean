/-! pure: the model's next token -/
def MB (b : Nat → Int32) (L : Nat) (h : AH) : Prop := h.1 59 8 = nI L ∧ (∀ j, j < L → h.1 66 (nI j) = b j) ∧ Wds h
def k4 (h h' : AH) : Prop := ∀ k, ¬ k = 21 → ¬ k = 22 → ¬ k = 23 → ¬ k = 24 → h'.1 59 k = h.1 59 k
theorem k4_rf {h : AH} : k4 h h := fun _ _ _ _ _ => rfl
theorem k4_tr {h h' h2 : AH} (a : k4 h h') (c : k4 h' h2) : k4 h h2 := fun k h1 h2 h3 h4 => (c k h1 h2 h3 h4).trans (a k h1 h2 h3 h4)
theorem k4_w {h h' : AH} {j x : Int32} (a : k4 h h') (hj : j = 21 ∨ j = 22 ∨ j = 23 ∨ j = 24) : k4 h (wI h' 59 j x) := fun k h1 h2 h3 h4 => by
  rw [wI_r, if_pos rfl, up_n (fun z => by rcases hj with e | e | e | e <;> (rw [e] at z; contradiction))]
  exact a k h1 h2 h3 h4
theorem MB.tr {b : Nat → Int32} {L : Nat} {h h' : AH} (R : MB b L h) (f : frm [59] h h') (k : k4 h h') : MB b L h' := ⟨(k 8 (by decide) (by decide) (by decide) (by decide)).trans R.1, by rw [f.2 66 (by decide)]; exact R.2.1, by unfold Wds; rw [f.2 74 (by decide)]; exact R.2.2⟩
theorem getD_any {l : List Int32} {i : Nat} (h : i < l.length) (x y : Int32) : l.getD i x = l.getD i y := by rw [List.getD_eq_getElem?_getD, List.getD_eq_getElem?_getD, List.getElem?_eq_getElem h]; rfl
theorem getD_out {l : List Int32} {i : Nat} (h : l.length ≤ i) (x : Int32) : l.getD i x = x := by rw [List.getD_eq_getElem?_getD, List.getElem?_eq_none h]; rfl
theorem padW : ∀ k : Fin 12, (Wm k.val).length ≤ 7 ∧ ∀ c : Fin 8, nI (wordL.getD (8 * k.val + c.val) 0) = (Wm k.val).getD c.val 32 ∧ (c.val < (Wm k.val).length → ¬ (Wm k.val).getD c.val 32 = 32) := by decide +kernel
theorem pad_iff {b : Nat → Int32} {s e k : Nat} (hk : k < 12) (hs : s ≤ e) (hl : ∀ j, s ≤ j → j < e → ltrB (b j) = true) : (e - s ≤ 8 ∧ ∀ c, c < 8 → nI (wordL.getD (8 * k + c) 0) = if s + c < e then b (s + c) else 32) ↔ seg b s e = Wm k := by
  obtain ⟨p1, p2⟩ := padW ⟨k, hk⟩
  have p1 : (Wm k).length ≤ 7 := p1
  have p2 : ∀ c : Fin 8, nI (wordL.getD (8 * k + c.val) 0) = (Wm k).getD c.val 32 ∧ (c.val < (Wm k).length → ¬ (Wm k).getD c.val 32 = 32) := p2
  rw [seg_eq]
  constructor
  · rintro ⟨h1, h2⟩
    have len : e - s = (Wm k).length := by
      by_cases c1 : e - s < (Wm k).length
      · have a := h2 (e - s) (by omega)
        rw [if_neg (by omega)] at a
        obtain ⟨q1, q2⟩ := p2 ⟨e - s, by omega⟩
        exact absurd (q1.symm.trans a) (q2 c1)
      · by_cases c2 : (Wm k).length < e - s
        · have a := h2 (Wm k).length (by omega)
          rw [if_pos (by omega)] at a
          obtain ⟨q1, q2⟩ := p2 ⟨(Wm k).length, by omega⟩
          have q1 : nI (wordL.getD (8 * k + (Wm k).length) 0) = (Wm k).getD (Wm k).length 32 := q1
          rw [getD_out (Nat.le_refl _)] at q1
          have l := hl (s + (Wm k).length) (by omega) (by omega)
          rw [← a, q1] at l
          exact absurd l (by decide)
        · omega
    refine ⟨len, fun j hj => ?_⟩
    have a := h2 j (by omega)
    rw [if_pos (by omega)] at a
    have q1 : nI (wordL.getD (8 * k + j) 0) = (Wm k).getD j 32 := (p2 ⟨j, by omega⟩).1
    rw [← a, q1]
    exact getD_any hj _ _
  · rintro ⟨h1, h2⟩
    refine ⟨by omega, fun c hc => ?_⟩
    have q1 : nI (wordL.getD (8 * k + c) 0) = (Wm k).getD c 32 := (p2 ⟨c, hc⟩).1
    rw [q1]
    by_cases c1 : c < (Wm k).length
    · rw [if_pos (by omega), h2 c c1]; exact getD_any c1 _ _
    · rw [if_neg (by omega)]; exact getD_out (by omega) _
theorem nI_8 (k c : Nat) : (8 : Int32) * nI k + nI c = nI (8 * k + c) := by
  rw [show (8 : Int32) = nI 8 from rfl, nI_mul, nI_add]
theorem wordFrom_in {b : Nat → Int32} {L s e k : Nat} {Q : Int32 → AH → Prop} {K : Int32 → Int32 → Int32 → AH → Prop} {h : AH} (M : MB b L h) (hL : L ≤ 160) (hk : k < 12) (hs : s ≤ e) (he : e ≤ L) (hl : ∀ j, s ≤ j → j < e → ltrB (b j) = true) (H1 : seg b s e = Wm k → Q (nI k) h) (H2 : ¬ seg b s e = Wm k → K (nI s) (nI e) (nI (k + 1)) h) : ∀ (cnt c : Nat) (x : Int32), c + cnt = 8 → ((x = 1 ∧ e - s ≤ 8 ∧ ∀ c', c' < c → nI (wordL.getD (8 * k + c') 0) = if s + c' < e then b (s + c') else 32) ∨ (x = 0 ∧ ¬ seg b s e = Wm k)) → p_MO_wordFrom_26 Q K (cnt + 1) (nI s) (nI e) (nI k) x (nI c) h := by
  intro cnt
  have d88 : ∀ x : Int32, (x = 1 ∧ seg b s e = Wm k) ∨ (x = 0 ∧ ¬ seg b s e = Wm k) → p_MO_wordFrom_88 Q K (nI s) (nI e) (nI k) x h := fun x hx => by
    unfold p_MO_wordFrom_88
    rw [nI_1]
    rcases hx with ⟨rfl, hx⟩ | ⟨rfl, hx⟩
    · exact (pF (by decide)).mpr (H1 hx)
    · exact (pT rfl).mpr (H2 hx)
  induction cnt with
  | zero =>
    intro c x hc A
    have hc' : c = 8 := by omega
    subst hc'
    simp only [p_MO_wordFrom_26]
    refine (pT (by decide)).mpr (d88 x ?_)
    rcases A with ⟨h1, h2, h3⟩ | A
    · exact Or.inl ⟨h1, (pad_iff hk hs hl).mp ⟨h2, h3⟩⟩
    · exact Or.inr A
  | succ cnt ih =>
    intro c x hc A
    obtain ⟨n', hn'⟩ : ∃ n', n' = cnt + 1 := ⟨_, rfl⟩
    rw [← hn']
    rw [← hn'] at ih
    simp only [p_MO_wordFrom_26]
    rw [pF (fun z => by have := (nI_leN (a := 8) (by decide) (by omega)).mp z; omega)]
    rcases A with ⟨rfl, h2, h3⟩ | ⟨rfl, hx⟩
    · refine (pF (by decide)).mpr ?_
      rw [nI_8, nI_add, M.2.2 (8 * k + c) (by omega)]
      refine ⟨inb_nI (by omega) (by omega), ?_⟩
      have go : ∀ y, y = (if s + c < e then b (s + c) else 32) → p_MO_wordFrom_72 Q K (p_MO_wordFrom_26 Q K n') (nI s) (nI e) (nI k) (nI c) (nI (wordL.getD (8 * k + c) 0)) y h := fun y hy => by
        unfold p_MO_wordFrom_72 p_MO_wordFrom_80
        rw [nI_1]
        by_cases d : nI (wordL.getD (8 * k + c) 0) = y
        · refine (nT d).mpr (ih (c + 1) 1 (by omega) (Or.inl ⟨rfl, h2, fun c' hc' => ?_⟩))
          by_cases e9 : c' = c
          · rw [e9, d, hy]
          · exact h3 c' (by omega)
        · refine (nF d).mpr (ih (c + 1) 0 (by omega) (Or.inr ⟨rfl, fun z => d ?_⟩))
          rw [hy]; exact ((pad_iff hk hs hl).mpr z).2 c (by omega)
      by_cases d : e ≤ s + c
      · exact (pT ((nI_leN (by omega) (by omega)).mpr d)).mpr (go 32 (by rw [if_neg (by omega)]))
      · refine (pF (fun z => d ((nI_leN (by omega) (by omega)).mp z))).mpr ⟨inb_nI (by omega) (by omega), ?_⟩
        rw [M.2.1 (s + c) (by omega)]
        exact go _ (by rw [if_pos (by omega)])
    · exact (pT rfl).mpr (d88 0 (Or.inr ⟨rfl, hx⟩))
theorem wordFrom_spec {b : Nat → Int32} {L s e : Nat} {Q : Int32 → AH → Prop} {h : AH} (M : MB b L h) (hL : L ≤ 160) (hs : s ≤ e) (he : e ≤ L) (hl : ∀ j, s ≤ j → j < e → ltrB (b j) = true) (HQ : Q (nI (wNo (seg b s e))) h) : p_MO_wordFrom Q (nI s) (nI e) h := by
  have loop : ∀ (cnt k : Nat), k + cnt = 12 → wFind (seg b s e) cnt k = wNo (seg b s e) → p_MO_wordFrom_2 Q (cnt + 1) (nI s) (nI e) (nI k) h := by
    intro cnt
    induction cnt with
    | zero =>
      intro k hk hw
      have hk' : k = 12 := by omega
      subst hk'
      simp only [p_MO_wordFrom_2]
      refine (pT (by decide)).mpr ?_
      rw [← hw] at HQ
      exact HQ
    | succ cnt ih =>
      intro k hk hw
      obtain ⟨n', hn'⟩ : ∃ n', n' = cnt + 1 := ⟨_, rfl⟩
      rw [← hn']
      rw [← hn'] at ih
      simp only [p_MO_wordFrom_2]
      rw [pF (fun z => by have := (nI_leN (a := 12) (by decide) (by omega)).mp z; omega), nI_subN hs]
      have H1 : seg b s e = Wm k → Q (nI k) h := fun c => by
        have : wFind (seg b s e) (cnt + 1) k = k := if_pos c
        rw [← hw, this] at HQ; exact HQ
      have H2 : ¬ seg b s e = Wm k → p_MO_wordFrom_2 Q n' (nI s) (nI e) (nI (k + 1)) h := fun c => by
        have : wFind (seg b s e) (cnt + 1) k = wFind (seg b s e) cnt (k + 1) := if_neg c
        exact ih (k + 1) (by omega) (by rw [← this]; exact hw)
      unfold p_MO_wordFrom_21
      by_cases c : 8 < e - s
      · refine (pT ((nI_ltI (a := 8) (by decide) (by omega)).mpr c)).mpr ⟨9, wordFrom_in M hL (by omega) hs he hl H1 H2 8 0 0 (by omega) (Or.inr ⟨rfl, fun z => ?_⟩)⟩
        have := (seg_eq.mp z).1
        have p : (Wm k).length ≤ 7 := (padW ⟨k, by omega⟩).1
        omega
      · exact (pF (fun z => c ((nI_ltI (a := 8) (by decide) (by omega)).mp z))).mpr ⟨9, wordFrom_in M hL (by omega) hs he hl H1 H2 8 0 1 (by omega) (Or.inl ⟨rfl, by omega, fun c' hc' => absurd hc' (by omega)⟩)⟩
  exact ⟨13, loop 12 0 (by omega) rfl⟩
def mkT (c : Int32) : Int32 := if c = 1 then -1 else if c = 2 then 1 else if c = 3 then 2 else if c = 7 ∨ c = 8 ∨ c = 9 then 3 else c
def TM (b : Nat → Int32) (L p : Nat) (h : AH) : Prop := h.1 59 21 = nI (tkE b L p) ∧ h.1 59 22 = nI (tkS b L p) ∧ h.1 59 23 = mkT (tkK b L p) ∧ ((tkK b L p = 2 ∨ tkK b L p = 3 ∨ tkK b L p = 7 ∨ tkK b L p = 8 ∨ tkK b L p = 9) → h.1 59 24 = tkV b L p)
theorem r59 {h : AH} {k x j : Int32} : (wI h 59 k x).1 59 j = if j = k then x else h.1 59 j := by rw [wI_r, if_pos rfl, up_a]
theorem mnext_103 {b : Nat → Int32} {L : Nat} {Q : AH → Prop} (hL : L ≤ 160) : ∀ (n p : Nat) (h : AH), p + n = L → MB b L h → h.1 59 21 = nI p → (∀ h', frm [59] h h' → k4 h h' → h'.1 59 22 = h.1 59 22 → h'.1 59 21 = nI (endW ltrB b n p) → p_MO_next_146 Q h') → p_MO_next_103 Q (n + 1) h := by
  intro n
  induction n with
  | zero =>
    intro p h hp M e HQ
    simp only [p_MO_next_103]
    rw [M.1, e, pT ((nI_leN (by omega) (by omega)).mpr (by omega))]
    exact HQ h frm_rf k4_rf rfl e
  | succ n ih =>
    intro p h hp M e HQ
    obtain ⟨n', hn'⟩ : ∃ n', n' = n + 1 := ⟨_, rfl⟩
    rw [← hn']
    rw [← hn'] at ih
    simp only [p_MO_next_103]
    rw [M.1, e, pF (fun z => by have := (nI_leN (by omega) (by omega)).mp z; omega), M.2.1 p (by omega), MO_in_iff]
    refine ⟨inb_nI (by omega) (by omega), ?_⟩
    by_cases c : ltrB (b p) = true
    · rw [b01_t (ltrB_t.mp c)]
      refine (pF (by decide)).mpr ?_
      rw [e, nI_1]
      have ee : endW ltrB b (n + 1) p = endW ltrB b n (p + 1) := if_pos c
      rw [ee] at HQ
      have f : frm [59] h (wI h 59 21 (nI (p + 1))) := frm_w frm_rf (by decide)
      have k : k4 h (wI h 59 21 (nI (p + 1))) := k4_w k4_rf (by decide)
      refine ih (p + 1) _ (by omega) (M.tr f k) (by rw [r59, if_pos rfl]) (fun h' f' k' e22 e' => HQ h' (frm_tr f f' (fun _ z => z) (fun _ z => z)) (k4_tr k k') (e22.trans (by rw [r59, if_neg (by decide)])) e')
    · rw [b01_f (fun z => c (ltrB_t.mpr z))]
      have ee : endW ltrB b (n + 1) p = p := if_neg c
      rw [ee] at HQ
      exact (pT rfl).mpr (HQ h frm_rf k4_rf rfl e)
theorem mnext_230 {b : Nat → Int32} {L : Nat} {Q : AH → Prop} (hL : L ≤ 160) : ∀ (n p c : Nat) (v : Int32) (h : AH), p + n = L → c ≤ p → MB b L h → h.1 59 21 = nI p → h.1 59 24 = v → (∀ h', frm [59] h h' → k4 h h' → h'.1 59 22 = h.1 59 22 → h'.1 59 21 = nI (endW dgtB b n p) → (c + (endW dgtB b n p - p) ≤ 4 → h'.1 59 24 = numV b (endW dgtB b n p - p) p v) → p_MO_next_309 Q (nI (c + (endW dgtB b n p - p))) h') → p_MO_next_230 Q (n + 1) (nI c) h := by
  intro n
  induction n with
  | zero =>
    intro p c v h hp hc M e e24 HQ
    simp only [p_MO_next_230]
    rw [M.1, e, pT ((nI_leN (by omega) (by omega)).mpr (by omega))]
    have e0 : endW dgtB b 0 p - p = 0 := Nat.sub_self p
    have H := HQ h frm_rf k4_rf rfl e (fun _ => by rw [e0]; exact e24)
    rw [e0] at H
    exact H
  | succ n ih =>
    intro p c v h hp hc M e e24 HQ
    obtain ⟨n', hn'⟩ : ∃ n', n' = n + 1 := ⟨_, rfl⟩
    rw [← hn']
    rw [← hn'] at ih
    simp only [p_MO_next_230]
    rw [M.1, e, pF (fun z => by have := (nI_leN (by omega) (by omega)).mp z; omega), M.2.1 p (by omega), MO_in_iff]
    refine ⟨inb_nI (by omega) (by omega), ?_⟩
    by_cases d : dgtB (b p) = true
    · rw [b01_t (dgtB_t.mp d)]
      refine (pF (by decide)).mpr ?_
      have ee : endW dgtB b (n + 1) p = endW dgtB b n (p + 1) := if_pos d
      have ge := (endW_in (P := dgtB) (b := b) n (p + 1)).1
      have go : ∀ w, (c < 4 → w = v * 10 + b p - 48) → p_MO_next_290 Q (p_MO_next_230 Q n') (nI c) w h := fun w hw => by
        unfold p_MO_next_290
        have f : frm [59] h (wI (wI h 59 24 w) 59 21 (nI p + 1)) := frm_w (frm_w frm_rf (by decide)) (by decide)
        have k : k4 h (wI (wI h 59 24 w) 59 21 (nI p + 1)) := k4_w (k4_w k4_rf (by decide)) (by decide)
        rw [e, nI_1]
        refine ih (p + 1) (c + 1) w _ (by omega) (by omega) (M.tr f k) (by rw [r59, if_pos rfl, nI_1]) (by rw [r59, if_neg (by decide), r59, if_pos rfl]) (fun h' f' k' e22 e' ev => ?_)
        have H := HQ h' (frm_tr f f' (fun _ z => z) (fun _ z => z)) (k4_tr k k') (e22.trans (by rw [r59, if_neg (by decide), r59, if_neg (by decide)])) (by rw [ee]; exact e') (fun z => ?_)
        · rw [ee, show c + (endW dgtB b n (p + 1) - p) = c + 1 + (endW dgtB b n (p + 1) - (p + 1)) by omega] at H
          exact H
        · rw [ee] at z ⊢
          rw [ev (by omega), hw (by omega), show endW dgtB b n (p + 1) - p = (endW dgtB b n (p + 1) - (p + 1)) + 1 by omega]
          rfl
      by_cases c4 : 4 ≤ c
      · exact (pT ((nI_leN (a := 4) (by decide) (by omega)).mpr c4)).mpr (go 0 (fun z => absurd z (by omega)))
      · refine (pF (fun z => c4 ((nI_leN (a := 4) (by decide) (by omega)).mp z))).mpr ?_
        rw [e]
        refine ⟨inb_nI (by omega) (by omega), go _ (fun _ => ?_)⟩
        rw [e24, M.2.1 p (by omega), Int32.mul_comm]
    · rw [b01_f (fun z => d (dgtB_t.mpr z))]
      have ee : endW dgtB b (n + 1) p = p := if_neg d
      rw [ee, Nat.sub_self] at HQ
      exact (pT rfl).mpr (HQ h frm_rf k4_rf rfl e (fun _ => e24))
theorem wdK_mk : ∀ k : Fin 13, mkT (wdK k.val) = (if 3 ≤ k.val then (if 9 ≤ k.val then (if k.val = 12 then -1 else nI (4 + k.val - 9)) else 2) else 3) ∧ wdV k.val = (if 3 ≤ k.val then nI (k.val - 3) else nI k.val) := by decide +kernel
theorem sgn_mk {x : Int32} (h : sgnB x = true) : mkT x = x ∧ ¬ (x = 2 ∨ x = 3 ∨ x = 7 ∨ x = 8 ∨ x = 9) := by
  rcases sgnB_t.mp h with rfl | rfl | rfl | rfl | rfl | rfl | rfl | rfl <;> decide
theorem mnext_146 {b : Nat → Int32} {L s e : Nat} {Q : AH → Prop} {h : AH} (M : MB b L h) (hL : L ≤ 160) (hs : s ≤ e) (he : e ≤ L) (hl : ∀ j, s ≤ j → j < e → ltrB (b j) = true) (e21 : h.1 59 21 = nI e) (e22 : h.1 59 22 = nI s) (HQ : ∀ h', frm [59] h h' → k4 h h' → h'.1 59 21 = nI e → h'.1 59 22 = nI s → h'.1 59 23 = mkT (wdK (wNo (seg b s e))) → h'.1 59 24 = wdV (wNo (seg b s e)) → Q h') : p_MO_next_146 Q h := by
  unfold p_MO_next_146
  rw [e21, e22]
  refine wordFrom_spec M hL hs he hl ?_
  obtain ⟨k, hk⟩ : ∃ k, k = wNo (seg b s e) := ⟨_, rfl⟩
  rw [← hk] at HQ ⊢
  have k13 : k < 13 := by rw [hk]; exact wNo_le _
  obtain ⟨m1, m2⟩ := wdK_mk ⟨k, k13⟩
  have m1 : mkT (wdK k) = (if 3 ≤ k then (if 9 ≤ k then (if k = 12 then -1 else nI (4 + k - 9)) else 2) else 3) := m1
  have m2 : wdV k = (if 3 ≤ k then nI (k - 3) else nI k) := m2
  have fin : ∀ x y, x = mkT (wdK k) → y = wdV k → Q (wI (wI h 59 23 x) 59 24 y) := fun x y hx hy => by
    refine HQ _ (frm_w (frm_w frm_rf (by decide)) (by decide)) (k4_w (k4_w k4_rf (by decide)) (by decide)) ?_ ?_ ?_ ?_
    · rw [r59, if_neg (by decide), r59, if_neg (by decide)]; exact e21
    · rw [r59, if_neg (by decide), r59, if_neg (by decide)]; exact e22
    · rw [r59, if_neg (by decide), r59, if_pos rfl, hx]
    · rw [r59, if_pos rfl, hy]
  have d195 : ∀ x, x = mkT (wdK k) → p_MO_next_195 Q (nI k) x h := fun x hx => by
    unfold p_MO_next_195
    by_cases c3 : 3 ≤ k
    · refine (pT ((nI_leN (a := 3) (by decide) (by omega)).mpr c3)).mpr (fin _ _ hx ?_)
      rw [m2, if_pos c3, show (3 : Int32) = nI 3 from rfl, nI_subN c3]
    · refine (pF (fun z => c3 ((nI_leN (a := 3) (by decide) (by omega)).mp z))).mpr (fin _ _ hx ?_)
      rw [m2, if_neg c3]
  by_cases c3 : 3 ≤ k
  · refine (pT ((nI_leN (a := 3) (by decide) (by omega)).mpr c3)).mpr ?_
    rw [if_pos c3] at m1
    by_cases c9 : 9 ≤ k
    · refine (pT ((nI_leN (a := 9) (by decide) (by omega)).mpr c9)).mpr ?_
      rw [if_pos c9] at m1
      by_cases c12 : k = 12
      · refine (nT (by rw [c12]; rfl)).mpr (d195 _ ?_)
        rw [m1, if_pos c12]
      · refine (nF (fun z => c12 ((nI_inj (b := 12) (by omega) (by decide)).mp z))).mpr (d195 _ ?_)
        rw [m1, if_neg c12, show (4 : Int32) = nI 4 from rfl, nI_add, show (9 : Int32) = nI 9 from rfl, nI_subN (by omega)]
    · refine (pF (fun z => c9 ((nI_leN (a := 9) (by decide) (by omega)).mp z))).mpr (d195 _ ?_)
      rw [m1, if_neg c9]
  · refine (pF (fun z => c3 ((nI_leN (a := 3) (by decide) (by omega)).mp z))).mpr (d195 _ ?_)
    rw [m1, if_neg c3]
theorem mnext_52 {b : Nat → Int32} {L p : Nat} {Q : AH → Prop} {h : AH} (hL : L ≤ 160) (hp : p ≤ L) (M : MB b L h) (e21 : h.1 59 21 = nI (tkS b L p)) (HQ : ∀ h', frm [59] h h' → k4 h h' → TM b L p h' → Q h') : p_MO_next_52 Q h := by
  obtain ⟨s1, s2⟩ := tkS_in (b := b) hp
  obtain ⟨x1, x2, x3⟩ := tkE_in (b := b) hp
  obtain ⟨s, hs⟩ : ∃ s, s = tkS b L p := ⟨_, rfl⟩
  rw [← hs] at s1 s2 x1 x3 e21
  unfold p_MO_next_52
  rw [M.1, e21]
  obtain ⟨h1, eh1⟩ : ∃ h1, h1 = wI (wI (wI h 59 22 (nI s)) 59 23 0) 59 24 0 := ⟨_, rfl⟩
  rw [← eh1]
  have f1 : frm [59] h h1 := by rw [eh1]; exact frm_w (frm_w (frm_w frm_rf (by decide)) (by decide)) (by decide)
  have k1 : k4 h h1 := by rw [eh1]; exact k4_w (k4_w (k4_w k4_rf (by decide)) (by decide)) (by decide)
  have M1 : MB b L h1 := M.tr f1 k1
  have e211 : h1.1 59 21 = nI s := by rw [eh1, r59, if_neg (by decide), r59, if_neg (by decide), r59, if_neg (by decide)]; exact e21
  have e221 : h1.1 59 22 = nI s := by rw [eh1, r59, if_neg (by decide), r59, if_neg (by decide), r59, if_pos rfl]
  have e231 : h1.1 59 23 = 0 := by rw [eh1, r59, if_neg (by decide), r59, if_pos rfl]
  have e241 : h1.1 59 24 = 0 := by rw [eh1, r59, if_pos rfl]
  by_cases c : s = L
  · refine (nT (by rw [c])).mpr ?_
    have eK : tkK b L p = 0 := by unfold tkK; rw [← hs]; exact if_pos (by omega)
    have eE : tkE b L p = s := by unfold tkE; rw [← hs]; exact if_pos (by omega)
    refine HQ h1 f1 k1 ⟨by rw [eE]; exact e211, by rw [← hs]; exact e221, by rw [eK]; exact e231, fun z => ?_⟩
    rw [eK] at z; exact absurd z (by decide)
  · have cL : ¬ L ≤ s := by omega
    refine (nF (fun z => c ((nI_inj (by omega) (by omega)).mp z))).mpr ⟨inb_nI (by omega) (by omega), ?_⟩
    rw [M.2.1 s (by omega), MO_in_iff]
    by_cases c1 : ltrB (b s) = true
    · rw [b01_t (ltrB_t.mp c1)]
      refine (pF (by decide)).mpr ⟨L - s + 1, mnext_103 hL (L - s) s h1 (by omega) M1 e211 (fun h2 f2 k2 e222 e212 => ?_)⟩
      have eE : tkE b L p = endW ltrB b (L - s) s := by unfold tkE; rw [← hs, if_neg cL, if_pos c1]
      have eK : tkK b L p = wdK (wNo (seg b s (tkE b L p))) := by unfold tkK; rw [← hs, if_neg cL, if_pos c1]
      have eV : tkV b L p = wdV (wNo (seg b s (tkE b L p))) := by unfold tkV; rw [← hs, if_pos c1]
      rw [← eE] at e212
      refine mnext_146 (M1.tr f2 k2) hL x1 x2 (fun j hj1 hj2 => endW_all (L - s) s j hj1 (by rw [← eE]; exact hj2)) e212 (e222.trans e221) (fun h3 f3 k3 g1 g2 g3 g4 => ?_)
      refine HQ h3 (frm_tr f1 (frm_tr f2 f3 (fun _ z => z) (fun _ z => z)) (fun _ z => z) (fun _ z => z)) (k4_tr k1 (k4_tr k2 k3)) ⟨g1, by rw [← hs]; exact g2, by rw [eK]; exact g3, fun _ => by rw [eV]; exact g4⟩
    · rw [b01_f (fun z => c1 (ltrB_t.mpr z))]
      refine (pT rfl).mpr ?_
      rw [MO_in_iff]
      by_cases c2 : dgtB (b s) = true
      · rw [b01_t (dgtB_t.mp c2)]
        refine ⟨fun y => absurd y (by decide), fun _ => ?_⟩
        · refine ⟨L - s + 1, mnext_230 hL (L - s) s 0 0 h1 (by omega) (by omega) M1 e211 e241 (fun h2 f2 k2 e222 e212 ev => ?_)⟩
          have eE : tkE b L p = endW dgtB b (L - s) s := by unfold tkE; rw [← hs, if_neg cL, if_neg c1, if_pos c2]
          have eK : tkK b L p = if tkE b L p - s ≤ 4 then 2 else 1 := by unfold tkK; rw [← hs, if_neg cL, if_neg c1, if_pos c2]
          have eV : tkV b L p = numV b (tkE b L p - s) s 0 := by unfold tkV; rw [← hs, if_neg c1]
          rw [← eE] at e212 ev ⊢
          rw [Nat.zero_add] at ev ⊢
          have f3 : frm [59] h h2 := frm_tr f1 f2 (fun _ z => z) (fun _ z => z)
          unfold p_MO_next_309
          have fin : ∀ x, x = mkT (tkK b L p) → (tkK b L p = 2 → tkE b L p - s ≤ 4) → ¬ tkK b L p = 3 ∧ ¬ tkK b L p = 7 ∧ ¬ tkK b L p = 8 ∧ ¬ tkK b L p = 9 → Q (wI h2 59 23 x) := fun x hx h4 hn => by
            refine HQ _ (frm_w f3 (by decide)) (k4_w (k4_tr k1 k2) (by decide)) ⟨?_, ?_, ?_, fun z => ?_⟩
            · rw [r59, if_neg (by decide)]; exact e212
            · rw [← hs, r59, if_neg (by decide)]; exact e222.trans e221
            · rw [r59, if_pos rfl, hx]
            · rw [r59, if_neg (by decide), eV]
              refine ev (h4 ?_)
              rcases z with z | z | z | z | z
              · exact z
              · exact absurd z hn.1
              · exact absurd z hn.2.1
              · exact absurd z hn.2.2.1
              · exact absurd z hn.2.2.2
          by_cases c3 : tkE b L p - s ≤ 4
          · rw [if_pos c3] at eK
            exact (pT ((nI_leN (b := 4) (by omega) (by decide)).mpr c3)).mpr (fin 1 (by rw [eK]; rfl) (fun _ => c3) (by rw [eK]; decide))
          · rw [if_neg c3] at eK
            exact (pF (fun z => c3 ((nI_leN (b := 4) (by omega) (by decide)).mp z))).mpr (fin (-1) (by rw [eK]; rfl) (fun z => by rw [eK] at z; exact absurd z (by decide)) (by rw [eK]; decide))
      · rw [b01_f (fun z => c2 (dgtB_t.mpr z))]
        refine (pT rfl).mpr ?_
        have eE : tkE b L p = s + 1 := by unfold tkE; rw [← hs, if_neg cL, if_neg c1, if_neg c2]
        have eK : tkK b L p = if sgnB (b s) then b s else 1 := by unfold tkK; rw [← hs, if_neg cL, if_neg c1, if_neg c2]
        have fin : ∀ x, x = mkT (tkK b L p) → Q (wI (wI h1 59 23 x) 59 21 (h1.1 59 21 + 1)) := fun x hx => by
          rw [e211, nI_1]
          refine HQ _ (frm_w (frm_w f1 (by decide)) (by decide)) (k4_w (k4_w k1 (by decide)) (by decide)) ⟨?_, ?_, ?_, fun z => ?_⟩
          · rw [eE, r59, if_pos rfl]
          · rw [← hs, r59, if_neg (by decide), r59, if_neg (by decide)]; exact e221
          · rw [r59, if_neg (by decide), r59, if_pos rfl, hx]
          · rw [eK] at z
            by_cases c3 : sgnB (b s) = true
            · rw [if_pos c3] at z; exact absurd z (sgn_mk c3).2
            · rw [if_neg c3] at z; exact absurd z (by decide)
        have yes : sgnB (b s) = true → p_MO_next_374 Q (b s) h1 := fun z => by
          unfold p_MO_next_374 p_MO_next_379
          exact (pF (by decide)).mpr (fin _ (by rw [eK, if_pos z]; exact (sgn_mk z).1.symm))
        by_cases d1 : b s = 40
        · exact (pT d1).mpr (yes (sgnB_t.mpr (by simp [d1])))
        refine (pF d1).mpr ?_
        by_cases d2 : b s = 41
        · exact (pT d2).mpr (yes (sgnB_t.mpr (by simp [d2])))
        refine (pF d2).mpr ?_
        by_cases d3 : b s = 59
        · exact (pT d3).mpr (yes (sgnB_t.mpr (by simp [d3])))
        refine (pF d3).mpr ?_
        by_cases d4 : b s = 43
        · exact (pT d4).mpr (yes (sgnB_t.mpr (by simp [d4])))
        refine (pF d4).mpr ?_
        by_cases d5 : b s = 45
        · exact (pT d5).mpr (yes (sgnB_t.mpr (by simp [d5])))
        refine (pF d5).mpr ?_
        by_cases d6 : b s = 42
        · exact (pT d6).mpr (yes (sgnB_t.mpr (by simp [d6])))
        refine (pF d6).mpr ?_
        by_cases d7 : b s = 60
        · exact (pT d7).mpr (yes (sgnB_t.mpr (by simp [d7])))
        refine (pF d7).mpr ?_
        by_cases d8 : b s = 61
        · exact (nT d8).mpr (yes (sgnB_t.mpr (by simp [d8])))
        refine (nF d8).mpr ?_
        unfold p_MO_next_379
        exact (pT rfl).mpr (fin _ (by rw [eK, if_neg (fun z => by rcases sgnB_t.mp z with z | z | z | z | z | z | z | z <;> contradiction)]; rfl))
theorem mnext_0 {b : Nat → Int32} {L : Nat} {Q : AH → Prop} (hL : L ≤ 160) : ∀ (n p : Nat) (h : AH), p + n = L → MB b L h → h.1 59 21 = nI p → (∀ h', frm [59] h h' → k4 h h' → h'.1 59 21 = nI (endW blkB b n p) → p_MO_next_52 Q h') → p_MO_next_0 Q (n + 1) h := by
  intro n
  induction n with
  | zero =>
    intro p h hp M e HQ
    simp only [p_MO_next_0]
    rw [M.1, e, pT ((nI_leN (by omega) (by omega)).mpr (by omega))]
    exact HQ h frm_rf k4_rf e
  | succ n ih =>
    intro p h hp M e HQ
    obtain ⟨n', hn'⟩ : ∃ n', n' = n + 1 := ⟨_, rfl⟩
    rw [← hn']
    rw [← hn'] at ih
    simp only [p_MO_next_0]
    rw [M.1, e, pF (fun z => by have := (nI_leN (by omega) (by omega)).mp z; omega), M.2.1 p (by omega)]
    refine ⟨inb_nI (by omega) (by omega), ?_⟩
    have go : blkB (b p) = true → p_MO_next_39 Q (p_MO_next_0 Q n') h := fun c => by
      unfold p_MO_next_39
      rw [e, nI_1]
      have ee : endW blkB b (n + 1) p = endW blkB b n (p + 1) := if_pos c
      rw [ee] at HQ
      have f : frm [59] h (wI h 59 21 (nI (p + 1))) := frm_w frm_rf (by decide)
      have k : k4 h (wI h 59 21 (nI (p + 1))) := k4_w k4_rf (by decide)
      exact ih (p + 1) _ (by omega) (M.tr f k) (by rw [r59, if_pos rfl]) (fun h' f' k' e' => HQ h' (frm_tr f f' (fun _ z => z) (fun _ z => z)) (k4_tr k k') e')
    by_cases d1 : b p = 32
    · exact (pT d1).mpr (go (blkB_t.mpr (Or.inl d1)))
    refine (pF d1).mpr ?_
    by_cases d2 : b p = 10
    · exact (nT d2).mpr (go (blkB_t.mpr (Or.inr d2)))
    refine (nF d2).mpr ?_
    have ee : endW blkB b (n + 1) p = p := if_neg (fun z => by rcases blkB_t.mp z with z | z <;> contradiction)
    rw [ee] at HQ
    exact HQ h frm_rf k4_rf e
theorem MO_next_spec {b : Nat → Int32} {L p : Nat} {Q : AH → Prop} {h : AH} (hL : L ≤ 160) (hp : p ≤ L) (M : MB b L h) (e : h.1 59 21 = nI p) (HQ : ∀ h', frm [59] h h' → k4 h h' → TM b L p h' → Q h') : p_MO_next Q h :=
  ⟨L - p + 1, mnext_0 hL (L - p) p h (by omega) M e (fun h1 f1 k1 e1 => mnext_52 hL hp (M.tr f1 k1) e1 (fun h2 f2 k2 T2 => HQ h2 (frm_tr f1 f2 (fun _ z => z) (fun _ z => z)) (k4_tr k1 k2) T2))⟩
