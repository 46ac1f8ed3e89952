/-! pure: chains, on both sides -/
def looseF (pa : Nat → Int32) (k : Nat) : Nat → Int32 := if pa k = -1 then pa else upN (upN pa (pa k).toNatClampNeg (-1)) k (-1)
def joinF (pa : Nat → Int32) (a b : Nat) : Nat → Int32 := if a = b then looseF (looseF pa a) b else upN (upN (looseF (looseF pa a) b) a (nI b)) b (nI a)
def paOk (N : Nat) (pa : Nat → Int32) : Prop := ∀ k, k < N → pa k = -1 ∨ ∃ j, j < N ∧ pa k = nI j
theorem paOk_up {N k : Nat} {pa : Nat → Int32} {x : Int32} (H : paOk N pa) (hx : x = -1 ∨ ∃ j, j < N ∧ x = nI j) : paOk N (upN pa k x) := fun j hj => by
  by_cases e : j = k
  · subst e; rw [upN_s]; exact hx
  · rw [upN_n e]; exact H j hj
theorem paOk_loose {N k : Nat} {pa : Nat → Int32} (H : paOk N pa) : paOk N (looseF pa k) := by
  unfold looseF
  by_cases c : pa k = -1
  · rw [if_pos c]; exact H
  · rw [if_neg c]; exact paOk_up (paOk_up H (Or.inl rfl)) (Or.inl rfl)
theorem paOk_join {N a b : Nat} {pa : Nat → Int32} (H : paOk N pa) (ha : a < N) (hb : b < N) : paOk N (joinF pa a b) := by
  unfold joinF
  by_cases c : a = b
  · rw [if_pos c]; exact paOk_loose (paOk_loose H)
  · rw [if_neg c]; exact paOk_up (paOk_up (paOk_loose (paOk_loose H)) (Or.inr ⟨b, hb, rfl⟩)) (Or.inr ⟨a, ha, rfl⟩)
def isTown (a b : Nat) : Prop := ∀ h : AH, vA T1 h a ∧ (rS T1 h a).1 = 10 ∧ rR T1 h a 2 = b + 1 ∧ vA T1 h b ∧ rS T1 h b = (100, 7)
theorem tw14 : isTown 14 17 := fun _ => ⟨vA_s (show 14 < 84 by decide), rfl, rfl, vA_s (show 17 < 84 by decide), rfl⟩
theorem tw5 : isTown 5 8 := fun _ => ⟨vA_s (show 5 < 84 by decide), rfl, rfl, vA_s (show 8 < 84 by decide), rfl⟩
theorem loosen_spec {a b N k : Nat} {pa : Nat → Int32} {h : AH} {Q : AH → Prop} (tw : isTown a b) (n7 : N ≤ 7) (P : paOk N pa) (hk : k < N) (R : rowR N (h.1 b) pa) (HQ : ∀ h', frm [b] h h' → rowR N (h'.1 b) (looseF pa k) → Q h') : p_Town_loosen Q a (nI k) h := by
  have ik : inb (nI k) 7 := inb_nI (by omega) (by omega)
  obtain ⟨t1, t2, t3, t4, t5⟩ := tw h
  unfold p_Town_loosen
  rw [UF_within_iff, t3, Nat.add_sub_cancel, t5, R k hk]
  refine ⟨t1, t2, Nat.succ_pos _, t4, rfl, ik, ?_⟩
  rcases P k hk with e | ⟨j, hj, e⟩
  · rw [e, b01_f (by decide)]
    refine (pT rfl).mpr ?_
    refine ⟨t1, t2, Nat.succ_pos _, t4, rfl, ik, HQ _ (frm_w frm_rf (by simp)) ?_⟩
    unfold looseF; rw [if_pos e]
    have H := rowR_up (x := -1) (by omega) hk R
    rw [wI_r, if_pos rfl]
    intro i hi
    have H2 := H i hi
    by_cases c : i = k
    · subst c; rw [H2, upN_s, e]
    · rw [H2, upN_n c]
  · have hb : (0 : Int32) ≤ nI j ∧ nI j ≤ 6 := (upto (n := 6) (by decide)).mpr ⟨j, by omega, rfl⟩
    rw [e, b01_t hb]
    refine (pF (by decide)).mpr ?_
    refine ⟨t1, t2, Nat.succ_pos _, t4, rfl, inb_nI (by omega) (by omega), ik, HQ _ (frm_w (frm_w frm_rf (by simp)) (by simp)) ?_⟩
    unfold looseF
    rw [if_neg (by rw [e]; exact nI_ne1 (by omega)), e, nI_clamp (by omega), wI_r, if_pos rfl, wI_r, if_pos rfl]
    exact rowR_up (by omega) hk (rowR_up (by omega) hj R)
theorem join_spec {a b N i j : Nat} {pa : Nat → Int32} {h : AH} {Q : AH → Prop} (tw : isTown a b) (n7 : N ≤ 7) (P : paOk N pa) (hi : i < N) (hj : j < N) (R : rowR N (h.1 b) pa) (HQ : ∀ h', frm [b] h h' → rowR N (h'.1 b) (joinF pa i j) → Q h') : p_Town_join Q a (nI i) (nI j) h := by
  unfold p_Town_join
  refine ⟨(tw h).1, (tw h).2.1, loosen_spec tw n7 P hi R (fun h1 f1 R1 => ⟨(tw h1).1, (tw h1).2.1, ?_⟩)⟩
  refine loosen_spec tw n7 (paOk_loose P) hj R1 (fun h2 f2 R2 => ?_)
  obtain ⟨t1, t2, t3, t4, t5⟩ := tw h2
  have f : frm [b] h h2 := frm_tr f1 f2 (fun _ z => z) (fun _ z => z)
  by_cases c : i = j
  · subst c
    refine (nT rfl).mpr (HQ h2 f ?_)
    unfold joinF; rw [if_pos rfl]; exact R2
  · refine (nF (fun z => c ((nI_inj (by omega) (by omega)).mp z))).mpr ?_
    rw [t3, Nat.add_sub_cancel, t5]
    refine ⟨t1, t2, Nat.succ_pos _, t4, rfl, inb_nI (by omega) (by omega), inb_nI (by omega) (by omega), HQ _ (frm_w (frm_w f (by simp)) (by simp)) ?_⟩
    unfold joinF; rw [if_neg c, wI_r, if_pos rfl, wI_r, if_pos rfl]
    exact rowR_up (by omega) hj (rowR_up (by omega) hi R2)
theorem comesFree_spec {N k : Nat} {pa : Nat → Int32} {h : AH} {Q : AH → Prop} (n7 : N ≤ 7) (P : paOk N pa) (hk : k < N) (R : rowR N (h.1 65) pa) (HQ : ∀ h', frm [65] h h' → rowR N (h'.1 65) (looseF pa k) → Q h') : p_MO_comesFree Q (nI k) h := by
  have ik : inb (nI k) 7 := inb_nI (by omega) (by omega)
  unfold p_MO_comesFree
  rw [R k hk]
  refine ⟨ik, ?_⟩
  rcases P k hk with e | ⟨j, hj, e⟩
  · rw [pT e]
    refine HQ h frm_rf ?_
    unfold looseF; rw [if_pos e]; exact R
  · have ne : ¬ pa k = -1 := by rw [e]; exact nI_ne1 (by omega)
    rw [pF ne, e]
    refine ⟨inb_nI (by omega) (by omega), HQ _ (frm_w (frm_w frm_rf (by simp)) (by simp)) ?_⟩
    unfold looseF
    rw [if_neg ne, e, nI_clamp (by omega), wI_r, if_pos rfl, wI_r, if_pos rfl]
    exact rowR_up (by omega) hk (rowR_up (by omega) hj R)
theorem links_spec {N i j : Nat} {pa : Nat → Int32} {h : AH} {Q : AH → Prop} (n7 : N ≤ 7) (P : paOk N pa) (hi : i < N) (hj : j < N) (R : rowR N (h.1 65) pa) (HQ : ∀ h', frm [65] h h' → rowR N (h'.1 65) (joinF pa i j) → Q h') : p_MO_links Q (nI i) (nI j) h := by
  unfold p_MO_links
  refine comesFree_spec n7 P hi R (fun h1 f1 R1 => ?_)
  refine comesFree_spec n7 (paOk_loose P) hj R1 (fun h2 f2 R2 => ?_)
  have f : frm [65] h h2 := frm_tr f1 f2 (fun _ z => z) (fun _ z => z)
  by_cases c : i = j
  · subst c
    refine (pT rfl).mpr (HQ h2 f ?_)
    unfold joinF; rw [if_pos rfl]; exact R2
  · refine (pF (fun z => c ((nI_inj (by omega) (by omega)).mp z))).mpr ?_
    refine ⟨inb_nI (by omega) (by omega), inb_nI (by omega) (by omega), HQ _ (frm_w (frm_w f (by simp)) (by simp)) ?_⟩
    unfold joinF; rw [if_neg c, wI_r, if_pos rfl, wI_r, if_pos rfl]
    exact rowR_up (by omega) hj (rowR_up (by omega) hi R2)
def withPa (E : EV) (p : Nat → Int32) : EV := (E.N, E.kind, E.told, E.more, E.people, p, E.c)
theorem withPa_ok {E : EV} {p : Nat → Int32} (e : E.ok) (h : paOk E.N p) : (withPa E p).ok := ⟨e.1, e.2.1, e.2.2.1, h, e.2.2.2.2⟩
theorem CRep.setPa {E : EV} {h h' : AH} {p : Nat → Int32} (R : CRep E h) (f : frm [17] h h') (H : rowR E.N (h'.1 17) p) : CRep (withPa E p) h' := by
  obtain ⟨t, h1, h2, h3⟩ := R.text
  have g : ∀ b, ¬ b = 17 → h'.1 b = h.1 b := fun b hb => f.2 b (by simpa using hb)
  refine ⟨by rw [g 14 (by decide)]; exact R.n, by rw [g 16 (by decide)]; exact R.people, H, fun k hk => ?_, t, h1, by rw [rR_2 f.1]; exact h2, ?_, ?_⟩
  · obtain ⟨a1, a2, a3, a4, a5, a6⟩ := R.ho k hk
    rw [rR_2 f.1]
    have e := g _ (isHo_ne (b := 17) (n := 7) a2 rfl)
    exact ⟨a1, famA_2 f.1 a2, by rw [rS_2 f.1]; exact a3, by rw [e]; exact a4, by rw [e]; exact a5, by rw [e]; exact a6⟩
  · rw [g _ (show ¬ 35 + 3 * t = 17 by omega)]; exact h3.1
  · rw [g _ (show ¬ 34 + 3 * t = 17 by omega)]; exact h3.2
theorem CD.fr {N : Nat} {D : DS} {S : List Nat} {h h' : AH} (R : CD N D h) (f : frm S h h') (hS : ∀ x ∈ S, x = 16 ∨ x = 17) : CD N D h' := by
  have g : ∀ b, ¬ b = 16 → ¬ b = 17 → h'.1 b = h.1 b := fun b b1 b2 => f.2 b (fun z => (hS b z).elim b1 b2)
  exact ⟨by rw [g 15 (by decide) (by decide)]; exact R.hi, by rw [g 20 (by decide) (by decide)]; exact R.mv, by rw [g 19 (by decide) (by decide)]; exact R.run, by rw [g 22 (by decide) (by decide)]; exact R.lh, by rw [g 21 (by decide) (by decide)]; exact R.ht⟩
theorem MTn.setPa {E : EV} {hi : Nat → Int32} {h h' : AH} {p : Nat → Int32} (R : MTn E hi h) (f : frm [65] h h') (H : rowR E.N (h'.1 65) p) : MTn (withPa E p) hi h' := by
  obtain ⟨r, h1, h2, h3⟩ := R.1.text
  have g : ∀ b, ¬ b = 65 → h'.1 b = h.1 b := fun b hb => f.2 b (by simpa using hb)
  refine ⟨⟨by rw [g 59 (by decide)]; exact R.1.n, by rw [g 60 (by decide)]; exact R.1.kind, by rw [g 61 (by decide)]; exact R.1.told, by rw [g 62 (by decide)]; exact R.1.more, by rw [g 64 (by decide)]; exact R.1.people, H, r, h1, by rw [g 59 (by decide)]; exact h2, ?_, ?_⟩, by rw [g 63 (by decide)]; exact R.2⟩
  · rw [g 68 (by decide)]; exact h3.1
  · rw [g 67 (by decide)]; exact h3.2
/-- what a thought of the model that also moves chains about leaves as it was -/
def frX (h h' : AH) : Prop := h'.2.2 = h.2.2 ∧ (∀ b, b ∉ (65 :: 83 :: 59 :: SM) → h'.1 b = h.1 b) ∧ ∀ k, ¬ k = 37 → h'.1 59 k = h.1 59 k
theorem frX_V {h h' : AH} (f : frV h h') : frX h h' := ⟨f.1, fun b hb => f.2.1 b (fun z => hb (List.mem_cons_of_mem _ (List.mem_cons_of_mem _ z))), f.2.2⟩
theorem frX_tr {h h' h2 : AH} (a : frX h h') (b : frX h' h2) : frX h h2 := ⟨b.1.trans a.1, fun c hc => (b.2.1 c hc).trans (a.2.1 c hc), fun k hk => (b.2.2 k hk).trans (a.2.2 k hk)⟩
theorem frX_frm {S : List Nat} {h h' : AH} (f : frm S h h') (hS : ∀ x ∈ S, x = 65 ∨ x = 83) : frX h h' := by
  refine ⟨by rw [f.1], fun b hb => f.2 b (fun z => ?_), fun k _ => ?_⟩
  · rcases hS b z with e | e
    · exact hb (by rw [e]; decide)
    · exact hb (by rw [e]; decide)
  · rw [f.2 59 (fun z => by rcases hS 59 z with e | e <;> exact absurd e (by decide))]
theorem frX_rf {h : AH} : frX h h := frX_V frV_rf
theorem MTn.X {E : EV} {hi : Nat → Int32} {h h' : AH} (R : MTn E hi h) (f : frX h h') (H : rowR E.N (h'.1 65) E.partner) : MTn E hi h' := by
  obtain ⟨r, h1, h2, h3⟩ := R.1.text
  refine ⟨⟨(f.2.2 0 (by decide)).trans R.1.n, by rw [f.2.1 60 (by decide)]; exact R.1.kind, by rw [f.2.1 61 (by decide)]; exact R.1.told, by rw [f.2.1 62 (by decide)]; exact R.1.more, by rw [f.2.1 64 (by decide)]; exact R.1.people, H, r, h1, (f.2.2 12 (by decide)).trans h2, ?_, ?_⟩, by rw [f.2.1 63 (by decide)]; exact R.2⟩
  · rw [f.2.1 68 (by decide)]; exact h3.1
  · rw [f.2.1 67 (by decide)]; exact h3.2
theorem Inv_X {h h' : AH} (I : Inv h) (f : frX h h') (H : ∀ j, j < 7 → h'.1 65 (nI j) = h.1 65 (nI j)) : Inv h' := by
  obtain ⟨E, hi, nT', r, C, a1, a2, a3, a4, a5, a6, a7, a8, a9, a10⟩ := I
  have n7 := a1.n7
  have m5 : MTn E hi h' := a5.X f (fun k hk => (H k (by omega)).trans (a5.1.partner k hk))
  have nb : ∀ b, (b < 59 ∨ (59 < b ∧ b < 65) ∨ (65 < b ∧ b < 76)) → b ∉ (65 :: 83 :: 59 :: SM) := fun b hb z => by
    simp only [SM, List.mem_cons, List.not_mem_nil, or_false] at z; omega
  have tx : Txt nT' r C h' := by
    obtain ⟨b1, b2, b3, b4, b5, b6, b7, b8⟩ := a6
    refine ⟨b1, b2, b3, by rw [f.2.1 0 (by decide)]; exact b4, (f.2.2 11 (by decide)).trans b5, by rw [f.2.1 5 (by decide)]; exact b6, (f.2.2 12 (by decide)).trans b7, fun t ht => ⟨(b8 t ht).1, ⟨?_, ?_⟩, ?_, ?_⟩⟩
    · rw [f.2.1 _ (nb (35 + 3 * t) (by omega))]; exact (b8 t ht).2.1.1
    · rw [f.2.1 _ (nb (34 + 3 * t) (by omega))]; exact (b8 t ht).2.1.2
    · rw [f.2.1 68 (by decide)]; exact (b8 t ht).2.2.1
    · rw [f.2.1 67 (by decide)]; exact (b8 t ht).2.2.2
  have tp : Tape h' := by
    obtain ⟨L, b1, b2, b3, b4⟩ := a7
    exact ⟨L, b1, by rw [f.2.1 0 (by decide)]; exact b2, (f.2.2 8 (by decide)).trans b3, by rw [f.2.1 4 (by decide), f.2.1 66 (by decide)]; exact b4⟩
  have im : Img E.N nT' h' := by
    unfold Img
    rw [f.2.2 13 (by decide), f.2.2 14 (by decide), f.2.2 15 (by decide), f.2.1 0 (by decide), f.2.1 9 (by decide), f.2.1 10 (by decide), f.2.1 11 (by decide), f.2.1 12 (by decide), f.2.1 69 (by decide)]
    exact a8
  have ct : CTn E hi h' := by
    obtain ⟨h1, h2, h3, h4, h5, h6, t, h7, h8, h9⟩ := a4
    have fa : ∀ a, famA T1 h a → famA T1 h' a := fun a z => ⟨by unfold vA nC; rw [f.1]; exact z.1, by unfold rS; rw [f.1]; exact z.2⟩
    have r1 : ∀ k, rR T1 h' 1 k = rR T1 h 1 k := fun k => by show h'.2.2.1 1 k = h.2.2.1 1 k; rw [f.1]
    refine ⟨by rw [f.2.1 5 (by decide)]; exact h1, by rw [f.2.1 6 (by decide)]; exact h2, by rw [f.2.1 7 (by decide)]; exact h3, by rw [f.2.1 8 (by decide)]; exact h4, fun k hk => ?_, fun k hk => ?_, t, h7, by rw [f.2.1 5 (by decide)]; exact h8, ?_, ?_⟩
    · rw [r1]; exact ⟨(h5 k hk).1, fa _ (h5 k hk).2⟩
    · rw [r1]
      obtain ⟨c1, c2, c3, c4, c5⟩ := h6 k hk
      have ne : (rR T1 h 1 k - 1) ∉ (65 :: 83 :: 59 :: SM) := fun z => by
        rcases List.mem_cons.mp z with z | z
        · exact isHo_ne (b := 65) (n := 7) c1 rfl z
        · rcases List.mem_cons.mp z with z | z
          · exact isHo_ne (b := 83) (n := 7) c1 rfl z
          · rcases List.mem_cons.mp z with z | z
            · exact notSM c1 (by rw [z]; exact List.mem_cons_self)
            · exact notSM c1 (List.mem_cons_of_mem _ (List.mem_append_right _ z))
      have e := f.2.1 _ ne
      exact ⟨fa _ c1, by unfold rS; rw [f.1]; exact c2, by rw [e]; exact c3, by rw [e]; exact c4, by rw [e]; exact c5⟩
    · rw [f.2.1 _ (nb (35 + 3 * t) (by omega))]; exact h9.1
    · rw [f.2.1 _ (nb (34 + 3 * t) (by omega))]; exact h9.2
  exact ⟨E, hi, nT', r, C, a1, a2, a3, ct, m5, tx, tp, im, fun s hs => by
    rw [f.2.1 70 (by decide), f.2.1 71 (by decide), f.2.1 72 (by decide), f.2.1 (51 + 2 * s) (fun z => by simp only [SM, List.mem_cons, List.not_mem_nil, or_false] at z; omega), f.2.1 (52 + 2 * s) (fun z => by simp only [SM, List.mem_cons, List.not_mem_nil, or_false] at z; omega)]
    exact a9 s hs, by
    unfold Wds; rw [f.2.1 74 (by decide)]; exact a10⟩
theorem keeps_loop {h0 : AH} {Q : AH → Prop} : ∀ (cnt k : Nat) (h : AH), k + cnt = 7 → frm [83] h0 h → rowR k (h.1 83) (fun j => h0.1 65 (nI j)) → (∀ h', frm [83] h0 h' → rowR 7 (h'.1 83) (fun j => h0.1 65 (nI j)) → Q h') → p_MO_keeps_2 Q (cnt + 1) (nI k) h := by
  intro cnt
  induction cnt with
  | zero =>
    intro k h hk f R HQ
    have hk' : k = 7 := by omega
    subst hk'
    simp only [p_MO_keeps_2]
    rw [pT (by decide)]
    exact HQ h f R
  | succ cnt ih =>
    intro k h hk f R HQ
    obtain ⟨n', hn'⟩ : ∃ n', n' = cnt + 1 := ⟨_, rfl⟩
    rw [← hn']
    rw [← hn'] at ih
    have c7 : ¬ (7 : Int32) ≤ nI k := fun z => by have := (nI_leN (a := 7) (by decide) (by omega)).mp z; omega
    simp only [p_MO_keeps_2]
    rw [pF c7, nI_1]
    refine ⟨inb_nI (by omega) (by omega), ih (k + 1) _ (by omega) (frm_w f (by simp)) ?_ HQ⟩
    exact rowR_ext (by omega) R (by rw [f.2 65 (by simp)])
theorem keeps_spec {h : AH} {Q : AH → Prop} (HQ : ∀ h', frm [83] h h' → rowR 7 (h'.1 83) (fun j => h.1 65 (nI j)) → Q h') : p_MO_keeps Q h :=
  ⟨8, keeps_loop 7 0 h (by omega) frm_rf (fun k hk => absurd hk (by omega)) HQ⟩
theorem lays_loop {h0 : AH} {g : Nat → Int32} {Q : AH → Prop} (G : rowR 7 (h0.1 83) g) : ∀ (cnt k : Nat) (h : AH), k + cnt = 7 → frm [65] h0 h → rowR k (h.1 65) g → (∀ h', frm [65] h0 h' → rowR 7 (h'.1 65) g → Q h') → p_MO_laysBack_2 Q (cnt + 1) (nI k) h := by
  intro cnt
  induction cnt with
  | zero =>
    intro k h hk f R HQ
    have hk' : k = 7 := by omega
    subst hk'
    simp only [p_MO_laysBack_2]
    rw [pT (by decide)]
    exact HQ h f R
  | succ cnt ih =>
    intro k h hk f R HQ
    obtain ⟨n', hn'⟩ : ∃ n', n' = cnt + 1 := ⟨_, rfl⟩
    rw [← hn']
    rw [← hn'] at ih
    have c7 : ¬ (7 : Int32) ≤ nI k := fun z => by have := (nI_leN (a := 7) (by decide) (by omega)).mp z; omega
    simp only [p_MO_laysBack_2]
    rw [pF c7, nI_1]
    refine ⟨inb_nI (by omega) (by omega), ih (k + 1) _ (by omega) (frm_w f (by simp)) ?_ HQ⟩
    exact rowR_ext (by omega) R (by rw [f.2 83 (by simp)]; exact G k (by omega))
theorem lays_spec {h : AH} {g : Nat → Int32} {Q : AH → Prop} (G : rowR 7 (h.1 83) g) (HQ : ∀ h', frm [65] h h' → rowR 7 (h'.1 65) g → Q h') : p_MO_laysBack Q h :=
  ⟨8, lays_loop G 7 0 h (by omega) frm_rf (fun k hk => absurd hk (by omega)) HQ⟩
