/-! pure: a whole text, the class's side -/
def cE (es : List (List Int32)) (p : Nat) : List Int32 := es.getD p []
theorem getD_appL {α : Type} {l l2 : List α} {i : Nat} {z : α} (h : i < l.length) : (l ++ l2).getD i z = l.getD i z := by
  rw [List.getD_eq_getElem?_getD, List.getD_eq_getElem?_getD, List.getElem?_append_left h]
theorem getD_appR {α : Type} {l l2 : List α} {i : Nat} {z : α} : (l ++ l2).getD (l.length + i) z = l2.getD i z := by
  rw [List.getD_eq_getElem?_getD, List.getD_eq_getElem?_getD, List.getElem?_append_right (Nat.le_add_right _ _), Nat.add_sub_cancel_left]
theorem offC_cong {c c' : Nat → List Int32} : ∀ {j : Nat}, (∀ p, p < j → c p = c' p) → offC c j = offC c' j := by
  intro j
  induction j with
  | zero => intro _; rfl
  | succ j ih =>
    intro h
    show offC c j + (c j).length = offC c' j + (c' j).length
    rw [ih (fun p hp => h p (by omega)), h j (by omega)]
theorem offC_app {ds es : List (List Int32)} {j : Nat} (hj : j ≤ ds.length) : offC (cE (ds ++ es)) j = offC (cE ds) j := offC_cong (fun p hp => getD_appL (by omega))
def DSo (ds : List (List Int32)) (o : List Int32) : Prop := o.length = offC (cE ds) ds.length ∧ ∀ p, p < ds.length → ∀ j, j < (cE ds p).length → o.getD (offC (cE ds) p + j) 0 = (cE ds p).getD j 0
theorem DSo_s {ds : List (List Int32)} {o e : List Int32} (D : DSo ds o) : DSo (ds ++ [e]) (o ++ e) ∧ offC (cE (ds ++ [e])) (ds.length + 1) = o.length + e.length := by
  have ek : cE (ds ++ [e]) ds.length = e := by
    have := getD_appR (l := ds) (l2 := [e]) (i := 0) (z := ([] : List Int32))
    rw [Nat.add_zero] at this
    exact this
  have e1 : offC (cE (ds ++ [e])) (ds.length + 1) = o.length + e.length := by
    show offC (cE (ds ++ [e])) ds.length + (cE (ds ++ [e]) ds.length).length = _
    rw [offC_app (Nat.le_refl _), ek, D.1]
  refine ⟨⟨by rw [List.length_append, List.length_append]; exact e1.symm, fun p hp j hj => ?_⟩, e1⟩
  have hp' : p < ds.length + 1 := by simpa using hp
  rw [offC_app (by omega)]
  by_cases c : p < ds.length
  · have e2 : cE (ds ++ [e]) p = cE ds p := getD_appL c
    rw [e2] at hj ⊢
    have := offC_le (c := cE ds) (p := p + 1) (q := ds.length) (by omega)
    have e3 : offC (cE ds) (p + 1) = offC (cE ds) p + (cE ds p).length := rfl
    rw [getD_appL (by rw [D.1]; omega)]
    exact D.2 p c j hj
  · have e2 : p = ds.length := by omega
    subst e2
    rw [ek] at hj ⊢
    rw [← D.1]
    exact getD_appR
def PartOK (b : Nat → Int32) (L k p p' : Nat) (e : List Int32) : Prop := tkK b L p = nI (7 + k) ∧ ∃ q, PostOK b L 0 0 (tkE b L p) q e ∧ tkK b L q = 59 ∧ p' = tkE b L q
def PartF (b : Nat → Int32) (L k p s : Nat) : Prop := (¬ tkK b L p = nI (7 + k) ∧ s = tkS b L p) ∨ (tkK b L p = nI (7 + k) ∧ SimF b L 0 0 (tkE b L p) s) ∨ (tkK b L p = nI (7 + k) ∧ ∃ q e, PostOK b L 0 0 (tkE b L p) q e ∧ ¬ tkK b L q = 59 ∧ s = tkS b L q)
def TOK (b : Nat → Int32) (L : Nat) : Nat → Nat → Nat → List (List Int32) → Prop
  | 0, _, p, es => es = [] ∧ tkK b L p = 0
  | c + 1, k, p, es => ∃ e p' es', es = e :: es' ∧ PartOK b L k p p' e ∧ TOK b L c (k + 1) p' es'
def TFl (b : Nat → Int32) (L : Nat) : Nat → Nat → Nat → Nat → Prop
  | 0, _, p, s => ¬ tkK b L p = 0 ∧ s = tkS b L p
  | c + 1, k, p, s => PartF b L k p s ∨ ∃ e p', PartOK b L k p p' e ∧ TFl b L c (k + 1) p' s
def SCf (t : Nat) : List Nat := [25, 33 + 3 * t, 34 + 3 * t, 35 + 3 * t]
theorem SCl_f {t : Nat} : ∀ x ∈ SCl t, x ∈ SCf t := fun x z => by
  simp only [SCl, SCf, List.mem_cons, List.not_mem_nil, or_false] at z ⊢; omega
def FR (t k : Nat) (ds : List (List Int32)) (h : AH) : Prop := (∀ j, j < k → h.1 (35 + 3 * t) (nI j) = nI (offC (cE ds) j)) ∧ (1 ≤ k → h.1 (35 + 3 * t) (nI k) = nI (offC (cE ds) k))
section READ
variable {b : Nat → Int32} {L t : Nat}
theorem CS_w35 {p : Nat} {o : List Int32} {h : AH} {k x : Int32} (ht : t < 6) (C : CS b L t p o h) : CS b L t p o (wI h (35 + 3 * t) k x) := by
  have g : ∀ c, ¬ c = 35 + 3 * t → (wI h (35 + 3 * t) k x).1 c = h.1 c := fun c hc => by rw [wI_r, if_neg hc]
  obtain ⟨⟨T1', T2, T3, T4, T5⟩, c1, c2, c3⟩ := C
  refine ⟨⟨⟨?_, T1'.2.1, ?_⟩, ?_, ?_, ?_, ?_⟩, c1, ?_, ?_⟩
  · rw [g 25 (by omega)]; exact T1'.1
  · rw [g 4 (by omega)]; exact T1'.2.2
  · rw [g 25 (by omega)]; exact T2
  · rw [g 25 (by omega)]; exact T3
  · rw [g 25 (by omega)]; exact T4
  · rw [g 25 (by omega)]; exact T5
  · rw [g (33 + 3 * t) (by omega)]; exact c2
  · rw [g (34 + 3 * t) (by omega)]; exact c3
theorem CS_from {o : List Int32} {p : Nat} {h : AH} (ht : t < 6) (C : CS b L t p o h) : 0 < rR T1 h (rR T1 h 25 2 - 1) 1 ∧ vA T1 h (rR T1 h (rR T1 h 25 2 - 1) 1 - 1) ∧ (rS T1 h (rR T1 h (rR T1 h 25 2 - 1) 1 - 1)).1 = 100 ∧ (rS T1 h (rR T1 h (rR T1 h 25 2 - 1) 1 - 1)).2 = 4 ∧ rR T1 h (rR T1 h 25 2 - 1) 1 - 1 = 35 + 3 * t ∧ h.1 (rR T1 h 25 2 - 1) 2 = nI o.length := by
  obtain ⟨l1, l2, l3, l4, l5, l6, l7, l8⟩ := lawT ht h
  rw [C.2.1, Nat.add_sub_cancel, l4, Nat.add_sub_cancel, l8]
  exact ⟨Nat.succ_pos _, l7, rfl, rfl, rfl, C.2.2.1⟩
theorem read_loop {h0 : AH} {Q : Int32 → AH → Prop} {P : (Int32 → AH → Prop) → Int32 → AH → Prop} (hL : L ≤ 160) (ht : t < 6) (hS : SpecR b L t 0 0 P) : ∀ (c k p : Nat) (o : List Int32) (ds : List (List Int32)) (h : AH), k + c = 3 → ds.length = k → DSo ds o → o.length ≤ p → p ≤ L → CS b L t p o h → frm (SCf t) h0 h → FR t k ds h →
    (∀ es o' h' p', TOK b L c k p es → DSo (ds ++ es) o' → o'.length ≤ L → CS b L t p' o' h' → frm (SCf t) h0 h' → FR t 3 (ds ++ es) h' → Q (-1) h') → (∀ s h', TFl b L c k p s → s ≤ L → frm (SCf t) h0 h' → Q (nI s) h') → p_Reader_read_40 Q P (c + 1) (nI k) h := by
  intro c
  induction c with
  | zero =>
    intro k p o ds h hk hd D ho hp C f F HS HF
    have hk' : k = 3 := by omega
    subst hk'
    simp only [p_Reader_read_40]
    refine (pT (by decide)).mpr ?_
    rw [(CS_tok C).1, (CS_tok C).2]
    by_cases k0 : tkK b L p = 0
    · refine (nT k0).mpr (HS [] o h p ⟨rfl, k0⟩ (by rw [List.append_nil]; exact D) (by omega) C f (by rw [List.append_nil]; exact F))
    · exact (nF k0).mpr (HF _ h ⟨k0, rfl⟩ (tkS_in hp).2 f)
  | succ c ih =>
    intro k p o ds h hk hd D ho hp C f F HS HF
    obtain ⟨n', hn'⟩ : ∃ n', n' = c + 1 := ⟨_, rfl⟩
    rw [← hn']
    rw [← hn'] at ih
    simp only [p_Reader_read_40]
    obtain ⟨a1, a2, a3⟩ := CS_law ht C
    obtain ⟨b1, b2, b3, b4, b5, b6⟩ := CS_from ht C
    rw [b4, b5, b6]
    rw [b5] at b2 b3
    refine (pF (fun z => by have := (nI_leN (a := 3) (by decide) (by omega)).mp z; omega)).mpr ⟨a1, a2, a3, b1, b2, b3, inb_nI (by omega) (by omega), ?_⟩
    obtain ⟨hA, eA⟩ : ∃ hA, hA = wI h (35 + 3 * t) (nI k) (nI o.length) := ⟨_, rfl⟩
    rw [← eA]
    have CA : CS b L t p o hA := by rw [eA]; exact CS_w35 ht C
    have fA : frm (SCf t) h0 hA := by rw [eA]; exact frm_w f (by simp [SCf])
    have rA : ∀ j, j < k + 1 → hA.1 (35 + 3 * t) (nI j) = nI (offC (cE ds) j) := fun j hj => by
      rw [eA, wI_r, if_pos rfl, up_a]
      by_cases e : j = k
      · rw [if_pos (by rw [e]), D.1, hd, e]
      · rw [if_neg (fun z => e ((nI_inj (by omega) (by omega)).mp z))]; exact F.1 j (by omega)
    unfold p_Reader_take
    rw [(CS_tok CA).1, show (7 : Int32) + nI k = nI (7 + k) by rw [show (7 : Int32) = nI 7 from rfl, nI_add]]
    have ge := tkE_in (b := b) hp
    have gs := tkS_in (b := b) hp
    by_cases kk : tkK b L p = nI (7 + k)
    · refine (pT kk).mpr (CS_next hL hp CA (frm_rf (S := SCl t)) (fun h1 C1 f1 => (pF (by decide)).mpr ?_))
      refine hS (tkE b L p) o h1 hA _ (by omega) ge.2.1 C1 f1 (fun q e h2 P2 C2 f2 => ?_) (fun s h2 F2 e4 f2 => ?_)
      · refine (pF (by decide)).mpr ?_
        rw [(CS_tok C2).1]
        have l2 := P2.1
        have gq := tkE_in (b := b) l2.2.2
        have gqs := tkS_in (b := b) l2.2.2
        by_cases k59 : tkK b L q = 59
        · refine (pT k59).mpr (CS_next hL l2.2.2 C2 f2 (fun h3 C3 f3 => (nF (by decide)).mpr ?_))
          obtain ⟨a1, a2, a3⟩ := CS_law ht C3
          obtain ⟨b1, b2, b3, b4, b5, b6⟩ := CS_from ht C3
          rw [b4, b5, b6, nI_1]
          rw [b5] at b2 b3
          refine ⟨a1, a2, a3, b1, b2, b3, inb_nI (by omega) (by omega), ?_⟩
          obtain ⟨D1, D2⟩ := DSo_s (e := e) D
          rw [hd] at D2
          have f03 : frm (SCf t) h0 h3 := frm_tr fA f3 (fun _ z => z) SCl_f
          have r3 : ∀ j, j < k + 1 → h3.1 (35 + 3 * t) (nI j) = nI (offC (cE ds) j) := fun j hj => by
            rw [f3.2 (35 + 3 * t) (by simp [SCl]; omega)]; exact rA j hj
          refine ih (k + 1) (tkE b L q) (o ++ e) (ds ++ [e]) _ (by omega) (by simp [hd]) D1 (by rw [List.length_append]; omega) gq.2.1 (CS_w35 ht C3) (frm_w f03 (by simp [SCf])) ⟨fun j hj => ?_, fun _ => ?_⟩ (fun es o' h' p' A1 A2 A3 A4 A5 A6 => ?_) (fun s h' A1 A2 A3 => ?_)
          · rw [wI_r, if_pos rfl, up_n (fun z => by have := (nI_inj (by omega) (by omega)).mp z; omega), r3 j hj, offC_app (by omega)]
          · rw [wI_r, if_pos rfl, up_s, D2, List.length_append]
          · rw [List.append_assoc] at A2 A6
            exact HS (e :: es) o' h' p' ⟨e, _, es, rfl, ⟨kk, q, P2, k59, rfl⟩, A1⟩ A2 A3 A4 A5 A6
          · exact HF s h' (Or.inr ⟨e, _, ⟨kk, q, P2, k59, rfl⟩, A1⟩) A2 A3
        · refine (pF k59).mpr ((nT rfl).mpr ?_)
          rw [(CS_tok C2).2]
          exact HF _ h2 (Or.inl (Or.inr (Or.inr ⟨kk, q, e, P2, k59, rfl⟩))) gqs.2 (frm_tr fA f2 (fun _ z => z) SCl_f)
      · refine (pT rfl).mpr ?_
        rw [e4]
        exact HF s h2 (Or.inl (Or.inr (Or.inl ⟨kk, F2⟩))) F2.1 (frm_tr fA f2 (fun _ z => z) SCl_f)
    · refine (pF kk).mpr ((pT rfl).mpr ?_)
      rw [(CS_tok CA).2]
      exact HF _ hA (Or.inl (Or.inl ⟨kk, rfl⟩)) gs.2 fA
end READ
