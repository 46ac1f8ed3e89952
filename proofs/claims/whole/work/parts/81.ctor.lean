/-! the constructors: rows generic in T; one view of a heap into another (printed by wip/gen/ctor.py) -/
def addI (T : TT) (h : AH) (a k N : Nat) : AH := wR (wN T h (100, N)) a k (nC T h + 1)
def addQ (T : TT) (h : AH) (a k t N : Nat) : AH := wR (wN T h (101 + t, N)) a k (nC T h + 1)
theorem nC_wR {T : TT} {h : AH} {a k x : Nat} : nC T (wR h a k x) = nC T h := rfl
theorem nC_wI {T : TT} {h : AH} {a : Nat} {k x : Int32} : nC T (wI h a k x) = nC T h := rfl
theorem nC_addI {T : TT} {h : AH} {a k N : Nat} : nC T (addI T h a k N) = nC T h + 1 := nC_wN
theorem rS_addI {T : TT} {h : AH} {a k N b : Nat} (hb : vA T h b) : rS T (addI T h a k N) b = rS T h b := rS_wN_ne (Nat.ne_of_lt hb)
theorem vA_addI {T : TT} {h : AH} {a k N b : Nat} (hb : vA T h b) : vA T (addI T h a k N) b := by
  show b < nC T (addI T h a k N)
  rw [nC_addI]; exact Nat.lt_succ_of_lt hb
theorem nC_addQ {T : TT} {h : AH} {a k t N : Nat} : nC T (addQ T h a k t N) = nC T h + 1 := nC_wN
theorem rS_addQ {T : TT} {h : AH} {a k t N b : Nat} (hb : vA T h b) : rS T (addQ T h a k t N) b = rS T h b := rS_wN_ne (Nat.ne_of_lt hb)
theorem vA_addQ {T : TT} {h : AH} {a k t N b : Nat} (hb : vA T h b) : vA T (addQ T h a k t N) b := by
  show b < nC T (addQ T h a k t N)
  rw [nC_addQ]; exact Nat.lt_succ_of_lt hb
theorem frN_T0 (h : AH) : frN T0 h := ⟨rfl, fun _ => rfl⟩
section TOPM
variable {G : GG} {T : TT} {q : MM} {d pc : Nat} {L : LL} {st : List Value} {h : AH} {bc bs : Nat} {Q : QQ}
theorem A_mkI {a idx c k N : Nat} {n : Int32} {ty : FieldType} (hd1 : decode q.2.2.1 pc = .ok (.newarray .int, 2)) (hd2 : decode q.2.2.1 (pc + 2) = .ok (.putfield idx, 3)) (hF : FOK q.1 idx c k) (hT : FTY c k ty true q.1) (hini : q.2.1.name = "<init>") (h0 : fty c k = 1) (ha : vA T h a) (hs : (rS T h a).1 = c) (hdyn : T.1 a k = none) (hnw : ∀ z, narrow ty (.ref z) = .ref z) (hfit : ∀ z, fits ty (.ref z) = true) (hN : n = Int32.ofNat N) (hN2 : N < 100000) (hfr : frN T h) (kk : Att G T q d (pc + 5) L st (addI T h a k N) bc bs Q) : Att G T q d pc L (.int n :: .ref a :: st) h (bc + 1) (bs + N) Q := by
  refine A_newa hd1 hN hN2 (tG 68 (by decide +kernel) (by decide +kernel)) hfr ?_
  have hne := Nat.ne_of_lt ha
  refine A_putR (b := nC T h) (k := k) hd2 hF (Or.inl hT) (fun _ => hini) h0 ?_ ?_ hdyn hnw hfit kk
  · show a < nC T (wN T h (100, N))
    rw [nC_wN]; exact Nat.lt_succ_of_lt ha
  · rw [rS_wN_ne hne]; exact hs
theorem A_mkQ {a idx idx2 c k t N : Nat} {n : Int32} {C : String} {ty : FieldType} (hd1 : decode q.2.2.1 pc = .ok (.anewarray idx2, 3)) (hd2 : decode q.2.2.1 (pc + 3) = .ok (.putfield idx, 3)) (ht : t < 3) (hC9 : (tyG G)[t + 1]? = some (G.2.2.1 (t + 1), .object C)) (hcl : Cond.classLink q.1 idx2 C ∈ tblG) (hF : FOK q.1 idx c k) (hT : FTY c k ty true q.1) (hini : q.2.1.name = "<init>") (h0 : fty c k = 1) (ha : vA T h a) (hs : (rS T h a).1 = c) (hdyn : T.1 a k = none) (hnw : ∀ z, narrow ty (.ref z) = .ref z) (hfit : ∀ z, fits ty (.ref z) = true) (hN : n = Int32.ofNat N) (hN2 : N < 100000) (hfr : frN T h) (kk : Att G T q d (pc + 6) L st (addQ T h a k t N) bc bs Q) : Att G T q d pc L (.int n :: .ref a :: st) h (bc + 1) (bs + N) Q := by
  refine A_newq hd1 ht hC9 hcl hN hN2 hfr ?_
  have hne := Nat.ne_of_lt ha
  refine A_putR (b := nC T h) (k := k) hd2 hF (Or.inl hT) (fun _ => hini) h0 ?_ ?_ hdyn hnw hfit kk
  · show a < nC T (wN T h (101 + t, N))
    rw [nC_wN]; exact Nat.lt_succ_of_lt ha
  · rw [rS_wN_ne hne]; exact hs
/-- one view for another: the same cells -/
theorem A_view {T2 : TT} {h2 : AH} {Q2 : QQ} (hn : nC T2 h2 = nC T h) (he : ∀ k, k < nC T h → ent G T2 h2 k = ent G T h k) (hQ : ∀ v g, Q2 v g → ∃ g', Q v g' ∧ nC T g' = nC T2 g ∧ ∀ k, k < nC T2 g → ent G T g' k = ent G T2 g k) (kk : Att G T2 q d pc L st h2 bc bs Q2) : Att G T q d pc L st h bc bs Q := by
  intro p e R s m args below meth cc H locs cells slots KK Zs ls hC hH hS hl hc1 hc2 hk1 hk2 hE
  refine kk p e R s m args below meth cc H locs cells slots KK Zs ls hC ⟨by rw [hn]; exact hH.1, fun k hk => ?_⟩ hS hl hc1 hc2 (by rw [hn]; exact hk1) hk2 ?_
  · rw [hn] at hk
    rw [he k hk]; exact hH.2 k hk
  · intro H' locs' cells' slots' h' ls' pc' v hH' hS' hc1' hc2' hk' hq hok
    obtain ⟨g', q1, q2, q3⟩ := hQ v h' hq
    refine hE H' locs' cells' slots' g' ls' pc' v ⟨by rw [q2]; exact hH'.1, fun k hk => ?_⟩ hS' hc1' hc2' (by rw [q2]; exact hk') q1 hok
    rw [q2] at hk
    rw [q3 k hk]; exact hH'.2 k hk
end TOPM
theorem ent_view {G : GG} {T T2 : TT} {h h2 : AH} {a : Nat} (e1 : h2.1 a = h.1 a) (e2 : h2.2.1 a = h.2.1 a) (e3 : ∀ k, rR T2 h2 a k = rR T h a k) (e4 : rS T2 h2 a = rS T h a) : ent G T2 h2 a = ent G T h a := by
  have e5 : ∀ t k, fV T2 h2 a t k = fV T h a t k := fun t k => by
    match t with
    | 0 => show Value.int (h2.1 a _) = _; rw [e1]; rfl
    | 1 => show vR (rR T2 h2 a k) = _; rw [e3]; rfl
    | n + 2 => show Value.long (h2.2.1 a _) = _; rw [e2]; rfl
  have e6 : entO G T2 h2 a = entO G T h a := by funext c; unfold entO; congr 1; funext k; rw [e5]
  have e7 : entI h2 a = entI h a := by unfold entI; rw [e1]
  have e8 : entR G T2 h2 a = entR G T h a := by unfold entR; funext j; rw [e3]
  unfold ent
  rw [e4, e6, e7, e8]
/-- T's fixed part is T2's -/
def subT (T T2 : TT) : Prop := (∀ a k v, T.1 a k = some v → T2.1 a k = some v) ∧ (∀ a v, T.2.1 a = some v → T2.2.1 a = some v) ∧ T.2.2 ≤ T2.2.2
def flT (T2 T : TT) (g : AH) : AH := (g.1, g.2.1, rR T2 g, rS T2 g, nC T2 g - T.2.2)
theorem flT_nC {T T2 : TT} (s : subT T T2) (g : AH) : nC T (flT T2 T g) = nC T2 g := by
  show T.2.2 + (T2.2.2 + g.2.2.2.2 - T.2.2) = T2.2.2 + g.2.2.2.2
  have := s.2.2
  omega
theorem flT_rR {T T2 : TT} (s : subT T T2) (g : AH) (a k : Nat) : rR T (flT T2 T g) a k = rR T2 g a k := by
  cases e : T.1 a k with
  | none => unfold rR; rw [e]; rfl
  | some v => unfold rR; rw [e, s.1 a k v e]
theorem flT_rS {T T2 : TT} (s : subT T T2) (g : AH) (a : Nat) : rS T (flT T2 T g) a = rS T2 g a := by
  cases e : T.2.1 a with
  | none => unfold rS; rw [e]; rfl
  | some v => unfold rS; rw [e, s.2.1 a v e]
theorem flT_ent {G : GG} {T T2 : TT} (s : subT T T2) (g : AH) (a : Nat) : ent G T (flT T2 T g) a = ent G T2 g a :=
  ent_view rfl rfl (flT_rR s g a) (flT_rS s g a)
/-- the first 59 cells stand -/
def tblRU : List (List (Option Nat)) := tblR.take 59
def tblSU : List (Option (Nat × Nat)) := tblS.take 59
def TU : TT := (fun a k => nthN (nthN tblRU a []) k none, fun a => nthN tblSU a none, 59)
theorem nthN_mem {α : Type} : ∀ (l : List α) (k : Nat) (z : α), nthN l k z = z ∨ (k < l.length ∧ nthN l k z ∈ l) := by
  intro l
  induction l with
  | nil => intro k z; exact Or.inl rfl
  | cons a l ih =>
    intro k z
    cases k with
    | zero => exact Or.inr ⟨Nat.succ_pos _, List.mem_cons_self⟩
    | succ k => exact (ih k z).imp id (fun x => ⟨Nat.succ_lt_succ x.1, List.mem_cons_of_mem _ x.2⟩)
theorem nthN_take {α : Type} : ∀ (l : List α) (n k : Nat) (z : α), k < n → nthN (l.take n) k z = nthN l k z := by
  intro l
  induction l with
  | nil => intro n k z _; rw [List.take_nil]
  | cons a l ih =>
    intro n k z h
    cases n with
    | zero => exact absurd h (Nat.not_lt_zero _)
    | succ n => cases k with
      | zero => rfl
      | succ k => exact ih n k z (Nat.lt_of_succ_lt_succ h)
theorem TU_lt {a : Nat} (h : a < 59) : (∀ k, TU.1 a k = T1.1 a k) ∧ TU.2.1 a = T1.2.1 a := by
  refine ⟨fun k => ?_, nthN_take _ _ _ _ h⟩
  show nthN (nthN tblRU a []) k none = nthN (nthN tblR a []) k none
  rw [tblRU, nthN_take _ _ _ _ h]
theorem TU_ge {a : Nat} (h : 59 ≤ a) : (∀ k, TU.1 a k = none) ∧ TU.2.1 a = none := by
  refine ⟨fun k => ?_, nthN_ge _ _ _ (Nat.le_trans (by decide) h)⟩
  show nthN (nthN tblRU a []) k none = none
  rw [nthN_ge tblRU a [] (Nat.le_trans (by decide) h)]; rfl
theorem subT_0U : subT T0 TU := ⟨fun _ _ v h => absurd (show none = some v from h) (fun z => by cases z), fun _ v h => absurd (show none = some v from h) (fun z => by cases z), Nat.zero_le _⟩
theorem subT_U1 : subT TU T1 := by
  refine ⟨fun a k v h => ?_, fun a v h => ?_, (by decide)⟩
  · by_cases c : a < 59
    · rw [← (TU_lt c).1 k]; exact h
    · rw [(TU_ge (Nat.le_of_not_lt c)).1 k] at h; cases h
  · by_cases c : a < 59
    · rw [← (TU_lt c).2]; exact h
    · rw [(TU_ge (Nat.le_of_not_lt c)).2] at h; cases h
theorem frN_TU (h : AH) : frN TU h := by
  have l : 59 ≤ nC TU h := Nat.le_add_right _ _
  exact ⟨(TU_ge l).2, (TU_ge l).1⟩
theorem d_Town_init_0 : decode prog_12_method_1_code 0 = .ok (.aload_n 0, 1) := by decide +kernel
theorem d_Town_init_1 : decode prog_12_method_1_code 1 = .ok (.invokespecial 3, 3) := by decide +kernel
theorem d_Town_init_4 : decode prog_12_method_1_code 4 = .ok (.aload_n 0, 1) := by decide +kernel
theorem d_Town_init_5 : decode prog_12_method_1_code 5 = .ok (.bipush 7, 2) := by decide +kernel
theorem d_Town_init_7 : decode prog_12_method_1_code 7 = .ok (.newarray .int, 2) := by decide +kernel
theorem d_Town_init_9 : decode prog_12_method_1_code 9 = .ok (.putfield 9, 3) := by decide +kernel
theorem d_Town_init_12 : decode prog_12_method_1_code 12 = .ok (.aload_n 0, 1) := by decide +kernel
theorem d_Town_init_13 : decode prog_12_method_1_code 13 = .ok (.bipush 7, 2) := by decide +kernel
theorem d_Town_init_15 : decode prog_12_method_1_code 15 = .ok (.newarray .int, 2) := by decide +kernel
theorem d_Town_init_17 : decode prog_12_method_1_code 17 = .ok (.putfield 15, 3) := by decide +kernel
theorem d_Town_init_20 : decode prog_12_method_1_code 20 = .ok (.aload_n 0, 1) := by decide +kernel
theorem d_Town_init_21 : decode prog_12_method_1_code 21 = .ok (.bipush 7, 2) := by decide +kernel
theorem d_Town_init_23 : decode prog_12_method_1_code 23 = .ok (.newarray .int, 2) := by decide +kernel
theorem d_Town_init_25 : decode prog_12_method_1_code 25 = .ok (.putfield 18, 3) := by decide +kernel
theorem d_Town_init_28 : decode prog_12_method_1_code 28 = .ok (.return_, 1) := by decide +kernel
def mkTown (T : TT) (h : AH) (a : Nat) : AH := addI T (addI T (addI T h a 0 7) a 1 7) a 2 7
theorem w_Town_init {G : GG} {d : Nat} {Q : AH → Prop} {h : AH} {a : Nat} (ha : vA T0 h a) (hs : (rS T0 h a).1 = 10) (H : Q (mkTown T0 h a)) : WP G T0 m_Town_init (d + 1) [.ref a] h 3 21 (vQ Q) := by
  refine WP.enter 0 (by decide) rfl rfl ?_
  refine A_aload_n d_Town_init_0 rfl ?_
  refine A_objI d_Town_init_1 (tG 40 (by decide +kernel) (by decide +kernel)) (tG 27 (by decide +kernel) (by decide +kernel)) (tG 28 (by decide +kernel) (by decide +kernel)) (by decide) ?_
  refine A_aload_n d_Town_init_4 rfl ?_
  refine A_bipush 7 (by decide) d_Town_init_5 ?_
  refine A_mkI (bc := 2) (bs := 14) (k := 0) (N := 7) d_Town_init_7 d_Town_init_9 (fo_Town_9_10 rfl) ft_10_0 rfl rfl ha hs rfl (fun _ => rfl) (fun _ => rfl) (by decide) (by decide) (frN_T0 _) ?_
  refine A_aload_n d_Town_init_12 rfl ?_
  refine A_bipush 7 (by decide) d_Town_init_13 ?_
  refine A_mkI (bc := 1) (bs := 7) (k := 1) (N := 7) d_Town_init_15 d_Town_init_17 (fo_Town_15_10 rfl) ft_10_1 rfl rfl (vA_addI ha) (by rw [rS_addI ha]; exact hs) rfl (fun _ => rfl) (fun _ => rfl) (by decide) (by decide) (frN_T0 _) ?_
  refine A_aload_n d_Town_init_20 rfl ?_
  refine A_bipush 7 (by decide) d_Town_init_21 ?_
  refine A_mkI (bc := 0) (bs := 0) (k := 2) (N := 7) d_Town_init_23 d_Town_init_25 (fo_Town_18_10 rfl) ft_10_2 rfl rfl (vA_addI (vA_addI ha)) (by rw [rS_addI (vA_addI ha)]; exact (by rw [rS_addI ha]; exact hs)) rfl (fun _ => rfl) (fun _ => rfl) (by decide) (by decide) (frN_T0 _) ?_
  exact A_ret d_Town_init_28 rfl H
theorem d_Law_init_0 : decode prog_8_method_1_code 0 = .ok (.aload_n 0, 1) := by decide +kernel
theorem d_Law_init_1 : decode prog_8_method_1_code 1 = .ok (.invokespecial 5, 3) := by decide +kernel
theorem d_Law_init_4 : decode prog_8_method_1_code 4 = .ok (.aload_n 0, 1) := by decide +kernel
theorem d_Law_init_5 : decode prog_8_method_1_code 5 = .ok (.sipush 160, 3) := by decide +kernel
theorem d_Law_init_8 : decode prog_8_method_1_code 8 = .ok (.newarray .int, 2) := by decide +kernel
theorem d_Law_init_10 : decode prog_8_method_1_code 10 = .ok (.putfield 11, 3) := by decide +kernel
theorem d_Law_init_13 : decode prog_8_method_1_code 13 = .ok (.aload_n 0, 1) := by decide +kernel
theorem d_Law_init_14 : decode prog_8_method_1_code 14 = .ok (.iconst 4, 1) := by decide +kernel
theorem d_Law_init_15 : decode prog_8_method_1_code 15 = .ok (.newarray .int, 2) := by decide +kernel
theorem d_Law_init_17 : decode prog_8_method_1_code 17 = .ok (.putfield 15, 3) := by decide +kernel
theorem d_Law_init_20 : decode prog_8_method_1_code 20 = .ok (.return_, 1) := by decide +kernel
def mkLaw (T : TT) (h : AH) (a : Nat) : AH := addI T (addI T h a 0 160) a 1 4
theorem w_Law_init {G : GG} {d : Nat} {Q : AH → Prop} {h : AH} {a : Nat} (ha : vA T0 h a) (hs : (rS T0 h a).1 = 6) (H : Q (mkLaw T0 h a)) : WP G T0 m_Law_init (d + 1) [.ref a] h 2 164 (vQ Q) := by
  refine WP.enter 0 (by decide) rfl rfl ?_
  refine A_aload_n d_Law_init_0 rfl ?_
  refine A_objI d_Law_init_1 (tG 171 (by decide +kernel) (by decide +kernel)) (tG 27 (by decide +kernel) (by decide +kernel)) (tG 28 (by decide +kernel) (by decide +kernel)) (by decide) ?_
  refine A_aload_n d_Law_init_4 rfl ?_
  refine A_sipush 160 (by decide) d_Law_init_5 ?_
  refine A_mkI (bc := 1) (bs := 4) (k := 0) (N := 160) d_Law_init_8 d_Law_init_10 (fo_Law_11_6 rfl) ft_6_0 rfl rfl ha hs rfl (fun _ => rfl) (fun _ => rfl) (by decide) (by decide) (frN_T0 _) ?_
  refine A_aload_n d_Law_init_13 rfl ?_
  refine A_iconst 4 (by decide) d_Law_init_14 ?_
  refine A_mkI (bc := 0) (bs := 0) (k := 1) (N := 4) d_Law_init_15 d_Law_init_17 (fo_Law_15_6 rfl) ft_6_1 rfl rfl (vA_addI ha) (by rw [rS_addI ha]; exact hs) rfl (fun _ => rfl) (fun _ => rfl) (by decide) (by decide) (frN_T0 _) ?_
  exact A_ret d_Law_init_20 rfl H
theorem d_Sheet_init_0 : decode prog_10_method_1_code 0 = .ok (.aload_n 0, 1) := by decide +kernel
theorem d_Sheet_init_1 : decode prog_10_method_1_code 1 = .ok (.invokespecial 3, 3) := by decide +kernel
theorem d_Sheet_init_4 : decode prog_10_method_1_code 4 = .ok (.aload_n 0, 1) := by decide +kernel
theorem d_Sheet_init_5 : decode prog_10_method_1_code 5 = .ok (.bipush 40, 2) := by decide +kernel
theorem d_Sheet_init_7 : decode prog_10_method_1_code 7 = .ok (.newarray .int, 2) := by decide +kernel
theorem d_Sheet_init_9 : decode prog_10_method_1_code 9 = .ok (.putfield 9, 3) := by decide +kernel
theorem d_Sheet_init_12 : decode prog_10_method_1_code 12 = .ok (.aload_n 0, 1) := by decide +kernel
theorem d_Sheet_init_13 : decode prog_10_method_1_code 13 = .ok (.iconst (-1), 1) := by decide +kernel
theorem d_Sheet_init_14 : decode prog_10_method_1_code 14 = .ok (.putfield 15, 3) := by decide +kernel
theorem d_Sheet_init_17 : decode prog_10_method_1_code 17 = .ok (.return_, 1) := by decide +kernel
def mkSheet (T : TT) (h : AH) (a : Nat) : AH := wI (addI T h a 0 40) a 1 (-1)
theorem w_Sheet_init {G : GG} {d : Nat} {Q : AH → Prop} {h : AH} {a : Nat} (ha : vA T0 h a) (hs : (rS T0 h a).1 = 8) (H : Q (mkSheet T0 h a)) : WP G T0 m_Sheet_init (d + 1) [.ref a] h 1 40 (vQ Q) := by
  refine WP.enter 0 (by decide) rfl rfl ?_
  refine A_aload_n d_Sheet_init_0 rfl ?_
  refine A_objI d_Sheet_init_1 (tG 188 (by decide +kernel) (by decide +kernel)) (tG 27 (by decide +kernel) (by decide +kernel)) (tG 28 (by decide +kernel) (by decide +kernel)) (by decide) ?_
  refine A_aload_n d_Sheet_init_4 rfl ?_
  refine A_bipush 40 (by decide) d_Sheet_init_5 ?_
  refine A_mkI (bc := 0) (bs := 0) (k := 0) (N := 40) d_Sheet_init_7 d_Sheet_init_9 (fo_Sheet_9_8 rfl) ft_8_0 rfl rfl ha hs rfl (fun _ => rfl) (fun _ => rfl) (by decide) (by decide) (frN_T0 _) ?_
  refine A_aload_n d_Sheet_init_12 rfl ?_
  refine A_iconst (-1) (by decide) d_Sheet_init_13 ?_
  refine A_putI (k := 1) (x := (-1)) d_Sheet_init_14 (fo_Sheet_15_8 rfl) (Or.inl ft_8_1) (fun z => by cases z) rfl (vA_addI ha) (by rw [rS_addI ha]; exact hs) rfl rfl ?_
  exact A_ret d_Sheet_init_17 rfl H
theorem d_Reader_init_0 : decode prog_9_method_1_code 0 = .ok (.aload_n 0, 1) := by decide +kernel
theorem d_Reader_init_1 : decode prog_9_method_1_code 1 = .ok (.invokespecial 3, 3) := by decide +kernel
theorem d_Reader_init_4 : decode prog_9_method_1_code 4 = .ok (.return_, 1) := by decide +kernel
def mkReader (T : TT) (h : AH) (a : Nat) : AH := h
theorem w_Reader_init {G : GG} {d : Nat} {Q : AH → Prop} {h : AH} {a : Nat} (ha : vA T0 h a) (hs : (rS T0 h a).1 = 7) (H : Q (mkReader T0 h a)) : WP G T0 m_Reader_init (d + 1) [.ref a] h 0 0 (vQ Q) := by
  refine WP.enter 0 (by decide) rfl rfl ?_
  refine A_aload_n d_Reader_init_0 rfl ?_
  refine A_objI d_Reader_init_1 (tG 116 (by decide +kernel) (by decide +kernel)) (tG 27 (by decide +kernel) (by decide +kernel)) (tG 28 (by decide +kernel) (by decide +kernel)) (by decide) ?_
  exact A_ret d_Reader_init_4 rfl H
theorem A_mkO {G : GG} {q q2 : MM} {d pc : Nat} {L : LL} {st : List Value} {h : AH} {bc bs : Nat} {Q : QQ} {idx2 idx3 c mc ms : Nat} {C : String} {F : u_T} {mk : AH} (ty : Nat → FieldType) (hd0 : decode q.2.2.1 pc = .ok (.new idx2, 3)) (hd1 : decode q.2.2.1 (pc + 3) = .ok (.dup, 1)) (hd2 : decode q.2.2.1 (pc + 4) = .ok (.invokespecial idx3, 3)) (hF : CLK c C F) (hty : ∀ k, k < nfD c → parseFieldDescriptor (F k).2.2.1 = some (ty k)) (hz : ∀ k, k < nfD c → defaultValue (ty k) = (match fty c k with | 0 => Value.int 0 | 1 => .null | _ => .long 0)) (hcl : Cond.classLink q.1 idx2 C ∈ tblG) (hins : Cond.instantiable C (nfD c) ∈ tblG) (hini : Cond.initialized C ∈ tblG) (hct : CallTo q q2 (.invokespecial idx3) 1 (some none)) (hml : q2.2.2.2.1 ≤ 21) (hsum : ((Value.ref (nC T0 h) :: st).map fun v => v.category).sum ≤ 8)
    (hw : ∀ Q : AH → Prop, Q mk → WP G T0 q2 d [.ref (nC T0 h)] (wN T0 h (c, nfD c)) mc ms (vQ Q)) (kk : Att G T0 q (d + 1) (pc + 7) L (.ref (nC T0 h) :: st) mk bc bs Q) : Att G T0 q (d + 1) pc L st h (bc + mc + 1) (bs + ms + nfD c) Q := by
  refine A_new ty hd0 hF hty hz hcl hins hini (frN_T0 h) ?_
  refine A_dup rfl hd1 ?_
  refine A_callV [.ref (nC T0 h)] (.ref (nC T0 h) :: st) hct hd2 rfl rfl hml hsum ⟨_, _, rfl⟩ mc ms (Nat.le_add_left _ _) (Nat.le_add_left _ _) (hw (fun h' => h' = mk) rfl) (fun h' e => ?_)
  rw [Nat.add_sub_cancel, Nat.add_sub_cancel, e]
  exact kk
theorem mkTown_fr {h : AH} {a b : Nat} (hb : vA T0 h b) : vA T0 (mkTown T0 h a) b ∧ rS T0 (mkTown T0 h a) b = rS T0 h b :=
  ⟨vA_addI (vA_addI (vA_addI hb)), by unfold mkTown; rw [rS_addI (vA_addI (vA_addI hb)), rS_addI (vA_addI hb), rS_addI hb]⟩
theorem nC_mkTown {h : AH} {a : Nat} : nC T0 (mkTown T0 h a) = nC T0 h + 3 := by unfold mkTown; rw [nC_addI, nC_addI, nC_addI]
def addT (h : AH) (a k : Nat) : AH := wR (mkTown T0 (wN T0 h (10, 5)) (nC T0 h)) a k (nC T0 h + 1)
theorem vA_addT {h : AH} {a k b : Nat} (hb : vA T0 h b) : vA T0 (addT h a k) b := by
  have h1 : vA T0 (wN T0 h (10, 5)) b := by
    show b < nC T0 (wN T0 h (10, 5))
    rw [nC_wN]; exact Nat.lt_succ_of_lt hb
  exact (mkTown_fr h1).1
theorem rS_addT {h : AH} {a k b : Nat} (hb : vA T0 h b) : rS T0 (addT h a k) b = rS T0 h b := by
  have h1 : vA T0 (wN T0 h (10, 5)) b := by
    show b < nC T0 (wN T0 h (10, 5))
    rw [nC_wN]; exact Nat.lt_succ_of_lt hb
  exact ((mkTown_fr h1).2).trans (rS_wN_ne (Nat.ne_of_lt hb))
theorem d_Dusk_init_0 : decode prog_4_method_1_code 0 = .ok (.aload_n 0, 1) := by decide +kernel
theorem d_Dusk_init_1 : decode prog_4_method_1_code 1 = .ok (.invokespecial 3, 3) := by decide +kernel
theorem d_Dusk_init_4 : decode prog_4_method_1_code 4 = .ok (.aload_n 0, 1) := by decide +kernel
theorem d_Dusk_init_5 : decode prog_4_method_1_code 5 = .ok (.new 9, 3) := by decide +kernel
theorem d_Dusk_init_8 : decode prog_4_method_1_code 8 = .ok (.dup, 1) := by decide +kernel
theorem d_Dusk_init_9 : decode prog_4_method_1_code 9 = .ok (.invokespecial 11, 3) := by decide +kernel
theorem d_Dusk_init_12 : decode prog_4_method_1_code 12 = .ok (.putfield 12, 3) := by decide +kernel
theorem d_Dusk_init_15 : decode prog_4_method_1_code 15 = .ok (.aload_n 0, 1) := by decide +kernel
theorem d_Dusk_init_16 : decode prog_4_method_1_code 16 = .ok (.bipush 7, 2) := by decide +kernel
theorem d_Dusk_init_18 : decode prog_4_method_1_code 18 = .ok (.anewarray 18, 3) := by decide +kernel
theorem d_Dusk_init_21 : decode prog_4_method_1_code 21 = .ok (.putfield 20, 3) := by decide +kernel
theorem d_Dusk_init_24 : decode prog_4_method_1_code 24 = .ok (.aload_n 0, 1) := by decide +kernel
theorem d_Dusk_init_25 : decode prog_4_method_1_code 25 = .ok (.bipush 7, 2) := by decide +kernel
theorem d_Dusk_init_27 : decode prog_4_method_1_code 27 = .ok (.newarray .int, 2) := by decide +kernel
theorem d_Dusk_init_29 : decode prog_4_method_1_code 29 = .ok (.putfield 24, 3) := by decide +kernel
theorem d_Dusk_init_32 : decode prog_4_method_1_code 32 = .ok (.aload_n 0, 1) := by decide +kernel
theorem d_Dusk_init_33 : decode prog_4_method_1_code 33 = .ok (.bipush 7, 2) := by decide +kernel
theorem d_Dusk_init_35 : decode prog_4_method_1_code 35 = .ok (.newarray .int, 2) := by decide +kernel
theorem d_Dusk_init_37 : decode prog_4_method_1_code 37 = .ok (.putfield 28, 3) := by decide +kernel
theorem d_Dusk_init_40 : decode prog_4_method_1_code 40 = .ok (.aload_n 0, 1) := by decide +kernel
theorem d_Dusk_init_41 : decode prog_4_method_1_code 41 = .ok (.bipush 7, 2) := by decide +kernel
theorem d_Dusk_init_43 : decode prog_4_method_1_code 43 = .ok (.newarray .int, 2) := by decide +kernel
theorem d_Dusk_init_45 : decode prog_4_method_1_code 45 = .ok (.putfield 31, 3) := by decide +kernel
theorem d_Dusk_init_48 : decode prog_4_method_1_code 48 = .ok (.aload_n 0, 1) := by decide +kernel
theorem d_Dusk_init_49 : decode prog_4_method_1_code 49 = .ok (.bipush 7, 2) := by decide +kernel
theorem d_Dusk_init_51 : decode prog_4_method_1_code 51 = .ok (.newarray .int, 2) := by decide +kernel
theorem d_Dusk_init_53 : decode prog_4_method_1_code 53 = .ok (.putfield 34, 3) := by decide +kernel
theorem d_Dusk_init_56 : decode prog_4_method_1_code 56 = .ok (.aload_n 0, 1) := by decide +kernel
theorem d_Dusk_init_57 : decode prog_4_method_1_code 57 = .ok (.bipush 6, 2) := by decide +kernel
theorem d_Dusk_init_59 : decode prog_4_method_1_code 59 = .ok (.newarray .int, 2) := by decide +kernel
theorem d_Dusk_init_61 : decode prog_4_method_1_code 61 = .ok (.putfield 39, 3) := by decide +kernel
theorem d_Dusk_init_64 : decode prog_4_method_1_code 64 = .ok (.aload_n 0, 1) := by decide +kernel
theorem d_Dusk_init_65 : decode prog_4_method_1_code 65 = .ok (.sipush 160, 3) := by decide +kernel
theorem d_Dusk_init_68 : decode prog_4_method_1_code 68 = .ok (.newarray .int, 2) := by decide +kernel
theorem d_Dusk_init_70 : decode prog_4_method_1_code 70 = .ok (.putfield 42, 3) := by decide +kernel
theorem d_Dusk_init_73 : decode prog_4_method_1_code 73 = .ok (.return_, 1) := by decide +kernel
def mkDusk (h : AH) (a : Nat) : AH := addI T0 (addI T0 (addI T0 (addI T0 (addI T0 (addI T0 (addQ T0 (addT h a 0) a 1 0 7) a 2 7) a 3 7) a 4 7) a 5 7) a 6 6) a 7 160
theorem w_Dusk_init {G : GG} {d : Nat} {Q : AH → Prop} {h : AH} {a : Nat} (ha : vA T0 h a) (hs : (rS T0 h a).1 = 2) (H : Q (mkDusk h a)) : WP G T0 m_Dusk_init (d + 2) [.ref a] h 11 227 (vQ Q) := by
  refine WP.enter 0 (by decide) rfl rfl ?_
  refine A_aload_n d_Dusk_init_0 rfl ?_
  refine A_objI d_Dusk_init_1 (tG 74 (by decide +kernel) (by decide +kernel)) (tG 27 (by decide +kernel) (by decide +kernel)) (tG 28 (by decide +kernel) (by decide +kernel)) (by decide) ?_
  refine A_aload_n d_Dusk_init_4 rfl ?_
  refine A_mkO (bc := 7) (bs := 201) (mc := 3) (ms := 21) (c := 10) t_Town d_Dusk_init_5 d_Dusk_init_8 d_Dusk_init_9 ck_Town t_Town_ok (fun k hk => by match k, hk with | 0, _ => rfl | 1, _ => rfl | 2, _ => rfl | 3, _ => rfl | 4, _ => rfl) (tG 75 (by decide +kernel) (by decide +kernel)) (tG 36 (by decide +kernel) (by decide +kernel)) (tG 2 (by decide +kernel) (by decide +kernel)) (ct_Dusk_11 rfl) (by decide) (Nat.le_of_ble_eq_true rfl) (fun Q H => w_Town_init (vA_wN (T := T0)) (by rw [rS_wN rfl]) H) ?_
  refine A_putR (k := 0) (b := nC T0 h) d_Dusk_init_12 (fo_Dusk_12_2 rfl) (Or.inl ft_2_0) (fun _ => rfl) rfl (vA_addT (k := 0) (a := a) ha) (by have := rS_addT (k := 0) (a := a) ha; exact (congrArg Prod.fst this).trans hs) rfl (fun _ => rfl) (fun _ => rfl) ?_
  change Att G T0 m_Dusk_init (d + 2) 15 _ [] (addT h a 0) _ _ _
  refine A_aload_n d_Dusk_init_15 rfl ?_
  refine A_bipush 7 (by decide) d_Dusk_init_16 ?_
  refine A_mkQ (bc := 6) (bs := 194) (k := 1) (t := 0) (N := 7) d_Dusk_init_18 d_Dusk_init_21 (by decide) rfl (tG 77 (by decide +kernel) (by decide +kernel)) (fo_Dusk_20_2 rfl) ft_2_1 rfl rfl (vA_addT (k := 0) (a := a) ha) ((congrArg Prod.fst (rS_addT (k := 0) (a := a) ha)).trans hs) rfl (fun _ => rfl) (fun _ => rfl) (by decide) (by decide) (frN_T0 _) ?_
  refine A_aload_n d_Dusk_init_24 rfl ?_
  refine A_bipush 7 (by decide) d_Dusk_init_25 ?_
  refine A_mkI (bc := 5) (bs := 187) (k := 2) (N := 7) d_Dusk_init_27 d_Dusk_init_29 (fo_Dusk_24_2 rfl) ft_2_2 rfl rfl (vA_addQ (vA_addT (k := 0) (a := a) ha)) ((congrArg Prod.fst (rS_addQ (vA_addT (k := 0) (a := a) ha))).trans ((congrArg Prod.fst (rS_addT (k := 0) (a := a) ha)).trans hs)) rfl (fun _ => rfl) (fun _ => rfl) (by decide) (by decide) (frN_T0 _) ?_
  refine A_aload_n d_Dusk_init_32 rfl ?_
  refine A_bipush 7 (by decide) d_Dusk_init_33 ?_
  refine A_mkI (bc := 4) (bs := 180) (k := 3) (N := 7) d_Dusk_init_35 d_Dusk_init_37 (fo_Dusk_28_2 rfl) ft_2_3 rfl rfl (vA_addI (vA_addQ (vA_addT (k := 0) (a := a) ha))) ((congrArg Prod.fst (rS_addI (vA_addQ (vA_addT (k := 0) (a := a) ha)))).trans ((congrArg Prod.fst (rS_addQ (vA_addT (k := 0) (a := a) ha))).trans ((congrArg Prod.fst (rS_addT (k := 0) (a := a) ha)).trans hs))) rfl (fun _ => rfl) (fun _ => rfl) (by decide) (by decide) (frN_T0 _) ?_
  refine A_aload_n d_Dusk_init_40 rfl ?_
  refine A_bipush 7 (by decide) d_Dusk_init_41 ?_
  refine A_mkI (bc := 3) (bs := 173) (k := 4) (N := 7) d_Dusk_init_43 d_Dusk_init_45 (fo_Dusk_31_2 rfl) ft_2_4 rfl rfl (vA_addI (vA_addI (vA_addQ (vA_addT (k := 0) (a := a) ha)))) ((congrArg Prod.fst (rS_addI (vA_addI (vA_addQ (vA_addT (k := 0) (a := a) ha))))).trans ((congrArg Prod.fst (rS_addI (vA_addQ (vA_addT (k := 0) (a := a) ha)))).trans ((congrArg Prod.fst (rS_addQ (vA_addT (k := 0) (a := a) ha))).trans ((congrArg Prod.fst (rS_addT (k := 0) (a := a) ha)).trans hs)))) rfl (fun _ => rfl) (fun _ => rfl) (by decide) (by decide) (frN_T0 _) ?_
  refine A_aload_n d_Dusk_init_48 rfl ?_
  refine A_bipush 7 (by decide) d_Dusk_init_49 ?_
  refine A_mkI (bc := 2) (bs := 166) (k := 5) (N := 7) d_Dusk_init_51 d_Dusk_init_53 (fo_Dusk_34_2 rfl) ft_2_5 rfl rfl (vA_addI (vA_addI (vA_addI (vA_addQ (vA_addT (k := 0) (a := a) ha))))) ((congrArg Prod.fst (rS_addI (vA_addI (vA_addI (vA_addQ (vA_addT (k := 0) (a := a) ha)))))).trans ((congrArg Prod.fst (rS_addI (vA_addI (vA_addQ (vA_addT (k := 0) (a := a) ha))))).trans ((congrArg Prod.fst (rS_addI (vA_addQ (vA_addT (k := 0) (a := a) ha)))).trans ((congrArg Prod.fst (rS_addQ (vA_addT (k := 0) (a := a) ha))).trans ((congrArg Prod.fst (rS_addT (k := 0) (a := a) ha)).trans hs))))) rfl (fun _ => rfl) (fun _ => rfl) (by decide) (by decide) (frN_T0 _) ?_
  refine A_aload_n d_Dusk_init_56 rfl ?_
  refine A_bipush 6 (by decide) d_Dusk_init_57 ?_
  refine A_mkI (bc := 1) (bs := 160) (k := 6) (N := 6) d_Dusk_init_59 d_Dusk_init_61 (fo_Dusk_39_2 rfl) ft_2_6 rfl rfl (vA_addI (vA_addI (vA_addI (vA_addI (vA_addQ (vA_addT (k := 0) (a := a) ha)))))) ((congrArg Prod.fst (rS_addI (vA_addI (vA_addI (vA_addI (vA_addQ (vA_addT (k := 0) (a := a) ha))))))).trans ((congrArg Prod.fst (rS_addI (vA_addI (vA_addI (vA_addQ (vA_addT (k := 0) (a := a) ha)))))).trans ((congrArg Prod.fst (rS_addI (vA_addI (vA_addQ (vA_addT (k := 0) (a := a) ha))))).trans ((congrArg Prod.fst (rS_addI (vA_addQ (vA_addT (k := 0) (a := a) ha)))).trans ((congrArg Prod.fst (rS_addQ (vA_addT (k := 0) (a := a) ha))).trans ((congrArg Prod.fst (rS_addT (k := 0) (a := a) ha)).trans hs)))))) rfl (fun _ => rfl) (fun _ => rfl) (by decide) (by decide) (frN_T0 _) ?_
  refine A_aload_n d_Dusk_init_64 rfl ?_
  refine A_sipush 160 (by decide) d_Dusk_init_65 ?_
  refine A_mkI (bc := 0) (bs := 0) (k := 7) (N := 160) d_Dusk_init_68 d_Dusk_init_70 (fo_Dusk_42_2 rfl) ft_2_7 rfl rfl (vA_addI (vA_addI (vA_addI (vA_addI (vA_addI (vA_addQ (vA_addT (k := 0) (a := a) ha))))))) ((congrArg Prod.fst (rS_addI (vA_addI (vA_addI (vA_addI (vA_addI (vA_addQ (vA_addT (k := 0) (a := a) ha)))))))).trans ((congrArg Prod.fst (rS_addI (vA_addI (vA_addI (vA_addI (vA_addQ (vA_addT (k := 0) (a := a) ha))))))).trans ((congrArg Prod.fst (rS_addI (vA_addI (vA_addI (vA_addQ (vA_addT (k := 0) (a := a) ha)))))).trans ((congrArg Prod.fst (rS_addI (vA_addI (vA_addQ (vA_addT (k := 0) (a := a) ha))))).trans ((congrArg Prod.fst (rS_addI (vA_addQ (vA_addT (k := 0) (a := a) ha)))).trans ((congrArg Prod.fst (rS_addQ (vA_addT (k := 0) (a := a) ha))).trans ((congrArg Prod.fst (rS_addT (k := 0) (a := a) ha)).trans hs))))))) rfl (fun _ => rfl) (fun _ => rfl) (by decide) (by decide) (frN_T0 _) ?_
  exact A_ret d_Dusk_init_73 rfl H
