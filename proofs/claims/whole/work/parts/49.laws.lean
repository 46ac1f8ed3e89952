/-! pure: thief, laws -/
theorem UF_thief_loop {E : EV} {hi : Nat → Int32} {k n s : Nat} {c : Nat → Int32} {Q : Int32 → AH → Prop} {h0 : AH} (T0 : Tn E hi h0) (hk : k < E.N) (hn : n ≤ 24) (hs : s < 4) (C : ∀ h', frR h0 h' → rowR 40 (h'.1 (52 + 2 * s)) c) : ∀ (cnt m : Nat) (a : Int32) (h : AH), m + cnt = 21 → frR h0 h → (∀ h', frR h0 h' → Q (orL (fun m => unlikeN c (goD (moreE E k (nI m)) hi n).hi E.N 0) cnt m a) h') → p_UF_thief_42 Q (cnt + 1) (nI s) (nI n) (nI k) a (nI m) h := by
  intro cnt
  have n7 := T0.1.n7
  induction cnt with
  | zero =>
    intro m a h hm f HQ
    have hm' : m = 21 := by omega
    subst hm'
    simp only [p_UF_thief_42]
    rw [pT (by decide)]
    exact HQ h f
  | succ cnt ih =>
    intro m a h hm f HQ
    obtain ⟨n', hn'⟩ : ∃ n', n' = cnt + 1 := ⟨_, rfl⟩
    rw [← hn']
    rw [← hn'] at ih
    have T := Tn_I (frI_R f) T0
    have c20 : ¬ (20 : Int32) < nI m := fun z => by have := (nI_ltI (a := 20) (by decide) (by omega)).mp z; omega
    simp only [p_UF_thief_42]
    rw [pF c20]
    refine UF_ready_spec T.1 T.2.2.1 (fun h1 f1 R1 M1 => ⟨inb_nI (by omega) (by omega), ?_⟩)
    rw [R1.people k hk]
    have R1' := R1.addP (x := E.people k + nI m) n7 hk
    have M1' : CD E.N (bornF hi) (wI h1 16 (nI k) (E.people k + nI m)) := M1
    refine Dusk_go_spec (E := moreE E k (nI m)) T.1 hn R1' M1' T.hiOk (fun h3 f3 M3 => ?_)
    have f03 : frR h0 h3 := frR_tr f (frR_tr (frR_w f1 (by decide)) (frR_SC f3))
    have R3 : CRep (moreE E k (nI m)) h3 := CRep.tr (E := moreE E k (nI m)) R1' f3 (fun _ z => z)
    refine other_spec n7 hs R3.n M3.hi (C h3 f03) ?_
    have nxt : ∀ a', (if unlikeN c (goD (moreE E k (nI m)) hi n).hi E.N 0 = -1 then a ||| (1 <<< (nI m &&& 31)) else a) = a' → p_UF_thief_107 Q (p_UF_thief_42 Q n') (nI s) (nI n) (nI k) a' (nI m) h3 := fun a' ha => by
      unfold p_UF_thief_107
      rw [nI_1]
      refine ih (m + 1) a' h3 (by omega) f03 (fun h' f' => ?_)
      have H := HQ h' f'
      unfold orL at H
      rwa [ha] at H
    by_cases c1 : unlikeN c (goD (moreE E k (nI m)) hi n).hi E.N 0 = -1
    · exact (nT c1).mpr (nxt _ (if_pos c1))
    · exact (nF c1).mpr (nxt _ (if_neg c1))
theorem wI_wI {h : AH} {b : Nat} {k x y : Int32} : wI (wI h b k x) b k y = wI h b k y := by
  unfold wI
  congr 1
  funext c
  by_cases hc : c = b
  · subst hc; simp only [if_true]; exact up_up
  · simp only [if_neg hc]
theorem frV_re {h0 h : AH} {b : Nat} {k x y : Int32} (f : frV (wI h0 b k x) h) (hb : b ∉ (59 :: SM)) : frV (wI h0 b k y) (wI h b k y) := by
  have n59 : ¬ 59 = b := fun z => hb (by rw [← z]; exact List.mem_cons_self)
  refine ⟨f.1, fun c hc => ?_, fun j hj => ?_⟩
  · rw [wI_r, wI_r]
    by_cases e : c = b
    · subst e; rw [if_pos rfl, if_pos rfl, f.2.1 c hc, wI_r, if_pos rfl, up_up]
    · rw [if_neg e, if_neg e, f.2.1 c hc, wI_r, if_neg e]
  · rw [wI_r, wI_r, if_neg n59, if_neg n59, f.2.2 j hj, wI_r, if_neg n59]
theorem frV_self {h : AH} {b : Nat} {k : Int32} : frV (wI h b k (h.1 b k)) h := by
  refine ⟨rfl, fun c hc => ?_, fun j hj => ?_⟩
  · rw [wI_r]
    by_cases e : c = b
    · subst e; rw [if_pos rfl, up_id rfl]
    · rw [if_neg e]
  · rw [wI_r]
    by_cases e : 59 = b
    · subst e; rw [if_pos rfl, up_id rfl]
    · rw [if_neg e]
theorem MO_thief_loop {E : EV} {hi : Nat → Int32} {k n s : Nat} {c : Nat → Int32} {Q : Int32 → AH → Prop} {h0 : AH} (e : E.ok) (R0 : MTn E hi h0) (hk : k < E.N) (hn : n ≤ 24) (hs : s < 4) (C : ∀ j, j < 40 → h0.1 72 (nI (40 * s + j)) = c j) : ∀ (cnt m : Nat) (a : Int32) (h : AH), m + cnt = 21 → (∃ x, frV (wI h0 64 (nI k) x) h) → (∀ h', frV h0 h' → Q (orL (fun m => unlikeN c (goD (moreE E k (nI m)) hi n).hi E.N 0) cnt m a) h') → p_MO_thief_50 Q (cnt + 1) (nI s) (nI n) (nI k) (E.people k) a (nI m) h := by
  intro cnt
  have n7 := e.n7
  have i : inb (nI k) 7 := inb_nI (by omega) (by omega)
  have b64 : 64 ∉ (59 :: SM) := by decide
  have back : ∀ h, (∃ x, frV (wI h0 64 (nI k) x) h) → frV h0 (wI h 64 (nI k) (E.people k)) := fun h ⟨x, f⟩ => frV_back f b64 (R0.1.people k hk).symm
  induction cnt with
  | zero =>
    intro m a h hm f HQ
    have hm' : m = 21 := by omega
    subst hm'
    simp only [p_MO_thief_50]
    rw [pT (by decide)]
    exact ⟨i, HQ _ (back h f)⟩
  | succ cnt ih =>
    intro m a h hm f HQ
    obtain ⟨n', hn'⟩ : ∃ n', n' = cnt + 1 := ⟨_, rfl⟩
    have c20 : ¬ (20 : Int32) < nI m := fun z => by have := (nI_ltI (a := 20) (by decide) (by omega)).mp z; omega
    rw [← hn']
    rw [← hn'] at ih
    simp only [p_MO_thief_50]
    rw [pF c20]
    refine ⟨i, ?_⟩
    obtain ⟨x, f⟩ := f
    have fw : frV h0 (wI h 64 (nI k) (E.people k)) := back h ⟨x, f⟩
    have R1 : MTn E hi (wI h 64 (nI k) (E.people k)) := ⟨R0.1.tr (keepM_frV fw), by rw [fw.2.1 63 (by decide)]; exact R0.2⟩
    have R2 : MTn (moreE E k (nI m)) hi (wI h 64 (nI k) (E.people k + nI m)) := by
      rw [← wI_wI (x := E.people k)]
      exact ⟨R1.1.addP n7 hk, R1.2⟩
    have C2 : ∀ j, j < 40 → (wI h 64 (nI k) (E.people k + nI m)).1 72 (nI (40 * s + j)) = c j := fun j hj => by
      have e72 : (wI h 64 (nI k) (E.people k + nI m)).1 72 = h0.1 72 := f.2.1 72 (by decide)
      rw [e72]; exact C j hj
    refine MO_unlike_spec (E := moreE E k (nI m)) e hn hs R2 C2 (fun h4 f4 => ?_)
    have f04 : ∃ x, frV (wI h0 64 (nI k) x) h4 := ⟨E.people k + nI m, frV_tr (frV_re f b64) f4⟩
    have nxt : ∀ a', (if unlikeN c (goD (moreE E k (nI m)) hi n).hi E.N 0 = -1 then a ||| (1 <<< (nI m &&& 31)) else a) = a' → p_MO_thief_50 Q n' (nI s) (nI n) (nI k) (E.people k) a' (nI m + 1) h4 := fun a' ha => by
      rw [nI_1]
      refine ih (m + 1) a' h4 (by omega) f04 (fun h' f' => ?_)
      have H := HQ h' f'
      unfold orL at H
      rwa [ha] at H
    by_cases c1 : unlikeN c (goD (moreE E k (nI m)) hi n).hi E.N 0 = -1
    · refine (nT c1).mpr ?_
      unfold p_MO_thief_88
      exact nxt _ (if_pos c1)
    · refine (nF c1).mpr ?_
      unfold p_MO_thief_88
      rw [or_0]
      exact nxt _ (if_neg c1)
theorem both_thief {x1 x2 x3 : Int32} {h : AH} (I : Inv h) : p_UF_thief (fun r1 h1 => p_MO_thief (K2 r1) x1 x2 x3 h1) x1 x2 x3 h := by
  obtain ⟨E, hi, T⟩ := Tn_of I
  have n7 := T.1.n7
  have S := Inv_Sh I
  unfold p_UF_thief
  refine UF_refusal S T.nn ?_
  by_cases c0 : refF h x1 = 0
  · refine (pT c0).mpr ?_
    obtain ⟨s, hs, rfl⟩ := refF_0 c0
    rw [UF_isHouse_iff]
    by_cases c1 : 0 ≤ x3 ∧ x3 ≤ h.1 5 3 - 1
    · rw [b01_t c1]
      refine (nF (by decide)).mpr ?_
      rw [UF_isSpan_iff]
      by_cases c2 : 0 ≤ x2 ∧ x2 ≤ 24
      · rw [b01_t c2]
        refine (nF (by decide)).mpr ?_
        obtain ⟨n, hn, rfl⟩ := spanN.mp c2
        obtain ⟨k, hk, rfl⟩ := (houseC T).mp c1
        refine ⟨22, UF_thief_loop T hk hn hs (fun h' f' => cellC S f' hs) 21 0 0 h (by omega) frR_rf (fun h1 f1 => ?_)⟩
        have T1' := Tn_I (frI_R f1) T
        show p_MO_thief (K2 _) _ _ _ _
        unfold p_MO_thief
        refine MO_refusal ?_
        rw [refF_I (frI_R f1)]
        refine (pT c0).mpr ?_
        rw [MO_isHouse_iff, b01_t ((houseM T1').mpr ⟨k, hk, rfl⟩)]
        refine (nF (by decide)).mpr ?_
        rw [MO_isMany_iff, b01_t c2]
        refine (nF (by decide)).mpr ⟨inb_nI (by omega) (by omega), 22, ?_⟩
        rw [T1'.2.2.2.1.people k hk]
        exact MO_thief_loop T.1 T1'.2.2.2 hk hn hs (cellM (frI_R f1)) 21 0 0 h1 (by omega) ⟨_, frV_self⟩ (fun h2 f2 => ⟨rfl, Inv_I (frI_tr (frI_R f1) (frI_V f2)) I⟩)
      · rw [b01_f c2]
        refine (nT rfl).mpr ?_
        show p_MO_thief (K2 _) _ _ _ _
        unfold p_MO_thief
        refine MO_refusal ((pT c0).mpr ?_)
        rw [MO_isHouse_iff, b01_t ((houseM T).mpr ((houseC T).mp c1))]
        refine (nF (by decide)).mpr ?_
        rw [MO_isMany_iff, b01_f c2]
        exact (nT rfl).mpr ⟨rfl, I⟩
    · rw [b01_f c1]
      refine (nT rfl).mpr ?_
      show p_MO_thief (K2 _) _ _ _ _
      unfold p_MO_thief
      refine MO_refusal ((pT c0).mpr ?_)
      rw [MO_isHouse_iff, b01_f (fun z => c1 ((houseC T).mpr ((houseM T).mp z)))]
      exact (nT rfl).mpr ⟨rfl, I⟩
  · refine (pF c0).mpr ?_
    show p_MO_thief (K2 _) _ _ _ _
    unfold p_MO_thief
    exact MO_refusal ((pF c0).mpr ⟨rfl, I⟩)
def withC (E : EV) (c : Nat → List Int32) : EV := (E.N, E.kind, E.told, E.more, E.people, E.partner, c)
theorem withC_ok {E : EV} {c : Nat → List Int32} (e : E.ok) (h : okC c) : (withC E c).ok := ⟨e.1, e.2.1, e.2.2.1, e.2.2.2.1, h⟩
theorem textT {t : Nat} (ht : t < 6) (h : AH) : rR T1 h 2 t = 33 + 3 * t + 1 := by
  have h6 : t = 0 ∨ t = 1 ∨ t = 2 ∨ t = 3 ∨ t = 4 ∨ t = 5 := by omega
  rcases h6 with rfl | rfl | rfl | rfl | rfl | rfl <;> rfl
theorem CRep.setC {E : EV} {h : AH} {t : Nat} {c : Nat → List Int32} (R : CRep E h) (ht : t < 6) (hC : CT h t c) : CRep (withC E c) (wR h 13 8 (33 + 3 * t + 1)) := by
  refine ⟨R.n, R.people, R.partner, fun k hk => R.ho k hk, t, ht, rfl, hC⟩
theorem frR_wR {h h' : AH} {k x : Nat} (f : frR h h') : frR h (wR h' 13 k x) := ⟨f.1, f.2.1, fun a h1 h2 => by
  rw [← f.2.2.1 a h1 h2]
  show (if a = 13 then _ else _) = _
  rw [if_neg h1], f.2.2.2⟩
def lawV (E : EV) (hi : Nat → Int32) (n : Nat) (C : Nat → Nat → List Int32) (c : Nat → Int32) (t : Nat) : Int32 := unlikeN c (goD (withC E (C t)) hi n).hi E.N 0
theorem UF_laws_loop {E : EV} {hi : Nat → Int32} {n s tN r : Nat} {C : Nat → Nat → List Int32} {c : Nat → Int32} {Q : Int32 → AH → Prop} {h0 : AH} (T0 : Tn E hi h0) (X : Txt tN r C h0) (hn : n ≤ 24) (hs : s < 4) (Ce : ∀ h', frR h0 h' → rowR 40 (h'.1 (52 + 2 * s)) c) : ∀ (cnt t : Nat) (a : Int32) (h : AH), t + cnt = tN → frR h0 h → (∀ h', frR h0 h' → Q (orL (lawV E hi n C c) cnt t a) h') → p_UF_laws_28 Q (cnt + 1) (nI s) (nI n) a (nI t) h := by
  intro cnt
  have n7 := T0.1.n7
  induction cnt with
  | zero =>
    intro t a h hm f HQ
    have hm' : t = tN := by omega
    subst hm'
    have X1 := Txt_I (frI_R f) X
    simp only [p_UF_laws_28]
    rw [X1.2.2.2.1, pT (Int32.le_refl _)]
    exact HQ h f
  | succ cnt ih =>
    intro t a h hm f HQ
    obtain ⟨n', hn'⟩ : ∃ n', n' = cnt + 1 := ⟨_, rfl⟩
    rw [← hn']
    rw [← hn'] at ih
    have T := Tn_I (frI_R f) T0
    have X1 := Txt_I (frI_R f) X
    have tN6 := X.2.1
    have t6 : t < 6 := by omega
    simp only [p_UF_laws_28]
    rw [X1.2.2.2.1, pF (fun z => by have := (nI_leN (by omega) (by omega)).mp z; omega)]
    refine UF_ready_spec T.1 T.2.2.1 (fun h1 f1 R1 M1 => ?_)
    have X2 := (Txt_I (frI_R f1) X1).2.2.2.2.2.2.2 t (by omega)
    rw [nI_clamp (by omega), textT t6, Nat.add_sub_cancel]
    refine ⟨inb_nI t6 (by omega), Nat.succ_pos _, ?_⟩
    have e' := withC_ok T.1 X2.1
    have R1' := R1.setC t6 X2.2.1
    have M1' : CD E.N (bornF hi) (wR h1 13 8 (33 + 3 * t + 1)) := M1
    refine Dusk_go_spec (E := withC E (C t)) e' hn R1' M1' T.hiOk (fun h3 f3 M3 => ?_)
    have f03 : frR h0 h3 := frR_tr f (frR_tr (frR_wR f1) (frR_SC f3))
    have R3 : CRep (withC E (C t)) h3 := CRep.tr (E := withC E (C t)) R1' f3 (fun _ z => z)
    refine other_spec n7 hs R3.n M3.hi (Ce h3 f03) ?_
    have nxt : ∀ a', (if lawV E hi n C c t = -1 then a ||| (1 <<< (nI t &&& 31)) else a) = a' → p_UF_laws_92 Q (p_UF_laws_28 Q n') (nI s) (nI n) a' (nI t) h3 := fun a' ha => by
      unfold p_UF_laws_92
      rw [nI_1]
      refine ih (t + 1) a' h3 (by omega) f03 (fun h' f' => ?_)
      have H := HQ h' f'
      unfold orL at H
      rwa [ha] at H
    by_cases c1 : lawV E hi n C c t = -1
    · exact (nT c1).mpr (nxt _ (if_pos c1))
    · exact (nF c1).mpr (nxt _ (if_neg c1))
theorem frV_re59 {h0 h : AH} {x y : Int32} (f : frV (wI h0 59 12 x) h) : frV (wI h0 59 12 y) (wI h 59 12 y) := by
  refine ⟨f.1, fun c hc => ?_, fun j hj => ?_⟩
  · have e : ¬ c = 59 := fun z => hc (by rw [z]; exact List.mem_cons_self)
    rw [wI_r, wI_r, if_neg e, if_neg e, f.2.1 c hc, wI_r, if_neg e]
  · show up (h.1 59) 12 y j = up (h0.1 59) 12 y j
    rw [up_a, up_a]
    by_cases e : j = 12
    · rw [if_pos e, if_pos e]
    · rw [if_neg e, if_neg e, f.2.2 j hj]; exact if_neg e
theorem frV_back59 {h0 h : AH} {x : Int32} (f : frV (wI h0 59 12 x) h) : frV h0 (wI h 59 12 (h0.1 59 12)) := by
  have g := frV_re59 (y := h0.1 59 12) f
  refine frV_tr (h' := wI h0 59 12 (h0.1 59 12)) ⟨rfl, fun c hc => ?_, fun j hj => ?_⟩ g
  · rw [wI_r, if_neg (fun z => hc (by rw [z]; exact List.mem_cons_self))]
  · show up (h0.1 59) 12 (h0.1 59 12) j = _
    rw [up_id rfl]
theorem MO_laws_loop {E : EV} {hi : Nat → Int32} {n s tN r : Nat} {C : Nat → Nat → List Int32} {c : Nat → Int32} {Q : Int32 → AH → Prop} {h0 : AH} (e : E.ok) (R0 : MTn E hi h0) (X : Txt tN r C h0) (hn : n ≤ 24) (hs : s < 4) (Ce : ∀ j, j < 40 → h0.1 72 (nI (40 * s + j)) = c j) : ∀ (cnt t : Nat) (a : Int32) (h : AH), t + cnt = tN → (∃ x, frV (wI h0 59 12 x) h) → (∀ h', frV h0 h' → Q (orL (lawV E hi n C c) cnt t a) h') → p_MO_laws_25 Q (cnt + 1) (nI s) (nI n) (h0.1 59 12) a (nI t) h := by
  intro cnt
  have tN6 := X.2.1
  induction cnt with
  | zero =>
    intro t a h hm ⟨x, f⟩ HQ
    have hm' : t = tN := by omega
    subst hm'
    have e11 : h.1 59 11 = nI t := (f.2.2 11 (by decide)).trans X.2.2.2.2.1
    simp only [p_MO_laws_25]
    rw [e11, pT (Int32.le_refl _)]
    exact HQ _ (frV_back59 f)
  | succ cnt ih =>
    intro t a h hm ⟨x, f⟩ HQ
    obtain ⟨n', hn'⟩ : ∃ n', n' = cnt + 1 := ⟨_, rfl⟩
    rw [← hn']
    rw [← hn'] at ih
    have t6 : t < 6 := by omega
    have e11 : h.1 59 11 = nI tN := (f.2.2 11 (by decide)).trans X.2.2.2.2.1
    simp only [p_MO_laws_25]
    rw [e11, pF (fun z => by have := (nI_leN (by omega) (by omega)).mp z; omega)]
    have X2 := X.2.2.2.2.2.2.2 t (by omega)
    have g : ∀ b, b ∉ (59 :: SM) → (wI h 59 12 (nI t)).1 b = h0.1 b := fun b hb => by
      have hb' : ¬ b = 59 := fun z => hb (by rw [z]; exact List.mem_cons_self)
      rw [wI_r, if_neg hb', f.2.1 b hb, wI_r, if_neg hb']
    have R2 : MTn (withC E (C t)) hi (wI h 59 12 (nI t)) := by
      refine ⟨⟨(f.2.2 0 (by decide)).trans R0.1.n, by rw [g 60 (by decide)]; exact R0.1.kind, by rw [g 61 (by decide)]; exact R0.1.told, by rw [g 62 (by decide)]; exact R0.1.more, by rw [g 64 (by decide)]; exact R0.1.people, by rw [g 65 (by decide)]; exact R0.1.partner, t, t6, rfl, ?_, ?_⟩, by rw [g 63 (by decide)]; exact R0.2⟩
      · rw [g 68 (by decide)]; exact X2.2.2.1
      · rw [g 67 (by decide)]; exact X2.2.2.2
    refine MO_unlike_spec (E := withC E (C t)) (withC_ok e X2.1) hn hs R2 (by rw [g 72 (by decide)]; exact Ce) (fun h4 f4 => ?_)
    have f04 : ∃ x, frV (wI h0 59 12 x) h4 := ⟨nI t, frV_tr (frV_re59 f) f4⟩
    have nxt : ∀ a', (if lawV E hi n C c t = -1 then a ||| (1 <<< (nI t &&& 31)) else a) = a' → p_MO_laws_25 Q n' (nI s) (nI n) (h0.1 59 12) a' (nI t + 1) h4 := fun a' ha => by
      rw [nI_1]
      refine ih (t + 1) a' h4 (by omega) f04 (fun h' f' => ?_)
      have H := HQ h' f'
      unfold orL at H
      rwa [ha] at H
    by_cases c1 : lawV E hi n C c t = -1
    · refine (nT c1).mpr ?_
      unfold p_MO_laws_60
      exact nxt _ (if_pos c1)
    · refine (nF c1).mpr ?_
      unfold p_MO_laws_60
      rw [or_0]
      exact nxt _ (if_neg c1)
theorem both_laws {x1 x2 : Int32} {h : AH} (I : Inv h) : p_UF_laws (fun r1 h1 => p_MO_laws (K2 r1) x1 x2 h1) x1 x2 h := by
  have I0 := I
  have S := Inv_Sh I
  obtain ⟨E, hi, tN, r, C, a1, a2, a3, a4, a5, X, a7⟩ := I
  have T : Tn E hi h := ⟨a1, a3, a4, a5⟩
  unfold p_UF_laws
  refine UF_refusal S T.nn ?_
  by_cases c0 : refF h x1 = 0
  · refine (pT c0).mpr ?_
    rw [UF_isSpan_iff]
    by_cases c2 : 0 ≤ x2 ∧ x2 ≤ 24
    · rw [b01_t c2]
      refine (nF (by decide)).mpr ?_
      obtain ⟨n, hn, rfl⟩ := spanN.mp c2
      obtain ⟨s, hs, rfl⟩ := refF_0 c0
      refine ⟨tN + 1, UF_laws_loop T X hn hs (fun h' f' => cellC S f' hs) tN 0 0 h (by omega) frR_rf (fun h1 f1 => ?_)⟩
      have T1' := Tn_I (frI_R f1) T
      show p_MO_laws (K2 _) _ _ _
      unfold p_MO_laws p_MO_toldWrong
      refine MO_refusal ?_
      rw [refF_I (frI_R f1)]
      refine (pT c0).mpr ?_
      rw [MO_isMany_iff, b01_t c2]
      refine (pF (by decide)).mpr ((pT rfl).mpr ⟨tN + 1, ?_⟩)
      exact MO_laws_loop T.1 T1'.2.2.2 (Txt_I (frI_R f1) X) hn hs (cellM (frI_R f1)) tN 0 0 h1 (by omega) ⟨_, frV_self⟩ (fun h2 f2 => ⟨rfl, Inv_I (frI_tr (frI_R f1) (frI_V f2)) I0⟩)
    · rw [b01_f c2]
      refine (nT rfl).mpr ?_
      show p_MO_laws (K2 _) _ _ _
      unfold p_MO_laws p_MO_toldWrong
      refine MO_refusal ((pT c0).mpr ?_)
      rw [MO_isMany_iff, b01_f c2]
      exact (pT rfl).mpr ((pF (by decide)).mpr ⟨rfl, I0⟩)
  · refine (pF c0).mpr ?_
    show p_MO_laws (K2 _) _ _ _
    unfold p_MO_laws p_MO_toldWrong
    refine MO_refusal ((pF c0).mpr ((pF c0).mpr ⟨rfl, I0⟩))
