/-! the fixed part once both objects stand: refs, shapes (printed by wip/gen/t1.py) -/
def tblR : List (List (Option Nat)) := [[some 2, some 3, some 4, some 5, some 6, some 10, some 14, some 26], [], [some 34, some 37, some 40, some 43, some 46, some 49], [some 52, some 54, some 56, some 58], [], [some 7, some 8, some 9], [], [], [], [some 11, some 12, some 13], [], [], [], [some 15, some 19, some 20, some 21, some 22, some 23, some 24, some 25], [some 16, some 17, some 18], [], [], [], [], [], [], [], [], [], [], [], [], [], [], [], [], [], [], [some 35, some 36], [], [], [some 38, some 39], [], [], [some 41, some 42], [], [], [some 44, some 45], [], [], [some 47, some 48], [], [], [some 50, some 51], [], [], [some 53], [], [some 55], [], [some 57], [], [some 59], [], [none, some 61, some 62, some 63, some 64, some 65, some 66, some 67, none, some 68, some 69, none, none, none, none, none, some 70, some 71, some 72, some 73, some 74, none, none, none, none, some 75, some 76, none, none, none, some 77, some 78, some 79, some 80, some 81, some 82, some 83, none, none, some 84], [], [], [], [], [], [], [], [], [], [], [], [], [], [], [], [], [], [], [], [], [], [], [], []]
def tblS : List (Option (Nat × Nat)) := [some (11, 11), some (101, 7), some (102, 6), some (103, 4), some (100, 160), some (10, 5), some (100, 7), some (100, 7), some (100, 7), some (10, 5), some (100, 7), some (100, 7), some (100, 7), some (2, 9), some (10, 5), some (100, 7), some (100, 7), some (100, 7), some (101, 7), some (100, 7), some (100, 7), some (100, 7), some (100, 7), some (100, 6), some (100, 160), some (7, 7), some (4, 3), some (4, 3), some (4, 3), some (4, 3), some (4, 3), some (4, 3), some (4, 3), some (6, 3), some (100, 160), some (100, 4), some (6, 3), some (100, 160), some (100, 4), some (6, 3), some (100, 160), some (100, 4), some (6, 3), some (100, 160), some (100, 4), some (6, 3), some (100, 160), some (100, 4), some (6, 3), some (100, 160), some (100, 4), some (8, 3), some (100, 40), some (8, 3), some (100, 40), some (8, 3), some (100, 40), some (8, 3), some (100, 40), some (12, 40), some (100, 7), some (100, 7), some (100, 7), some (100, 7), some (100, 7), some (100, 7), some (100, 160), some (100, 1200), some (100, 24), some (100, 21), some (100, 4), some (100, 4), some (100, 160), some (100, 58), some (100, 96), some (100, 200), some (100, 200), some (100, 6), some (100, 7), some (100, 7), some (100, 7), some (100, 7), some (100, 7), some (100, 7)]
def T1 : TT := (fun a k => nthN (nthN tblR a []) k none, fun a => nthN tblS a none, 84)
/-- nothing fixed -/
def T0 : TT := (fun _ _ => none, fun _ => none, 0)
theorem nthN_ge {α : Type} : ∀ (l : List α) (k : Nat) (z : α), l.length ≤ k → nthN l k z = z := by
  intro l
  induction l with
  | nil => intro k z _; rfl
  | cons a l ih =>
    intro k z h
    cases k with
    | zero => exact absurd h (by simp)
    | succ k => exact ih k z (by simpa using h)
/-- a class of the houses' family -/
abbrev famP (c : Nat) : Prop := c = 0 ∨ c = 1 ∨ c = 3 ∨ c = 4 ∨ c = 5 ∨ c = 9
def famA (T : TT) (h : AH) (a : Nat) : Prop := vA T h a ∧ famP (rS T h a).1
theorem vR_pos {x : Nat} (h : 0 < x) : vR x = .ref (x - 1) := by
  cases x with
  | zero => exact absurd h (Nat.lt_irrefl 0)
  | succ x => rfl
theorem pos_sub {x : Nat} (h : 0 < x) : x = x - 1 + 1 := by omega
theorem rS_ex {T : TT} {h : AH} {a c : Nat} (e : (rS T h a).1 = c) : rS T h a = (c, (rS T h a).2) := by subst e; rfl
theorem fam_fty {c k : Nat} (hc : famP c) (hk : k < 3) : fty c k = 0 := by
  match k, hk with
  | 0, _ => rcases hc with rfl | rfl | rfl | rfl | rfl | rfl <;> rfl
  | 1, _ => rcases hc with rfl | rfl | rfl | rfl | rfl | rfl <;> rfl
  | 2, _ => rcases hc with rfl | rfl | rfl | rfl | rfl | rfl <;> rfl
section TOPS
variable {G : GG} {T : TT} {q : MM} {d pc : Nat} {L : LL} {st : List Value} {h : AH} {bc bs : Nat} {Q : QQ}
theorem A_getH {a idx k : Nat} (hd : decode q.2.2.1 pc = .ok (.getfield idx, 3)) (hF : ∀ c, famP c → FOK q.1 idx c k) (hA : famA T h a) (kk : Att G T q d (pc + 3) L (.int (h.1 a (Int32.ofNat k)) :: st) h bc bs Q) (hk : k < 3 := by decide) : Att G T q d pc L (.ref a :: st) h bc bs Q := by
  refine A_get hd (hF _ hA.2) hA.1 rfl ?_ kk
  rw [fam_fty hA.2 hk]
  rfl
theorem A_getHv {a idx k : Nat} {v : Int32} (hd : decode q.2.2.1 pc = .ok (.getfield idx, 3)) (hF : ∀ c, famP c → FOK q.1 idx c k) (hA : famA T h a) (hv : h.1 a (Int32.ofNat k) = v) (kk : Att G T q d (pc + 3) L (.int v :: st) h bc bs Q) (hk : k < 3 := by decide) : Att G T q d pc L (.ref a :: st) h bc bs Q := by
  subst hv
  exact A_getH hd hF hA kk hk
theorem A_ialdv {a n : Nat} {i v : Int32} (hd : decode q.2.2.1 pc = .ok (.iaload, 1)) (ha : vA T h a) (hs : rS T h a = (100, n)) (hi : inb i n) (hv : h.1 a i = v) (kk : Att G T q d (pc + 1) L (.int v :: st) h bc bs Q) : Att G T q d pc L (.int i :: .ref a :: st) h bc bs Q := by
  subst hv
  exact A_iald hd ha hs hi kk
theorem fam_asg {c : Nat} (hc : famP c) : asgOK c 0 := by
  rcases hc with rfl | rfl | rfl | rfl | rfl | rfl
  · exact ⟨_, _, _, _, rfl, rfl, Or.inr (by decide +kernel)⟩
  · exact ⟨_, _, _, _, rfl, rfl, Or.inr (by decide +kernel)⟩
  · exact ⟨_, _, _, _, rfl, rfl, Or.inr (by decide +kernel)⟩
  · exact ⟨_, _, _, _, rfl, rfl, Or.inl rfl⟩
  · exact ⟨_, _, _, _, rfl, rfl, Or.inr (by decide +kernel)⟩
  · exact ⟨_, _, _, _, rfl, rfl, Or.inr (by decide +kernel)⟩
theorem fam_lt {c : Nat} (hc : famP c) : c < 100 := by rcases hc with rfl | rfl | rfl | rfl | rfl | rfl <;> decide
theorem A_aastH {a n b : Nat} {i : Int32} (hd : decode q.2.2.1 pc = .ok (.aastore, 1)) (ha : vA T h a) (hs : rS T h a = (101, n)) (hi : inb i n) (hb : famA T h b) (hdyn : T.1 a i.toNatClampNeg = none) (kk : Att G T q d (pc + 1) L st (wR h a i.toNatClampNeg (b + 1)) bc bs Q) : Att G T q d pc L (.ref b :: .int i :: .ref a :: st) h bc bs Q :=
  A_aast (t := 0) hd (by decide) ha hs hi hb.1 rfl (fam_lt hb.2) (fam_asg hb.2) hdyn kk
theorem A_cI {q2 : MM} {ins : Instr} {n : Nat} {rc : Option (Option String)} {Qc : Int32 → AH → Prop} (Vs rest : List Value) (hct : CallTo q q2 ins n rc) (hd : decode q.2.2.1 pc = .ok (ins, 3)) (hst : st = Vs.reverse ++ rest) (hn : Vs.length = n) (hml : q2.2.2.2.1 ≤ 21) (hsum : (rest.map fun v => v.category).sum ≤ 8) (hr : rcA T h rc Vs)
    (hw : WP G T q2 d Vs h 0 0 (iQ Qc)) (kk : ∀ r h', Qc r h' → Att G T q (d + 1) (pc + 3) L (.int r :: rest) h' bc bs Q) : Att G T q (d + 1) pc L st h bc bs Q := A_callI Vs rest hct hd hst hn hml hsum hr 0 0 (Nat.zero_le _) (Nat.zero_le _) hw kk
theorem A_cL {q2 : MM} {ins : Instr} {n : Nat} {rc : Option (Option String)} {Qc : Int64 → AH → Prop} (Vs rest : List Value) (hct : CallTo q q2 ins n rc) (hd : decode q.2.2.1 pc = .ok (ins, 3)) (hst : st = Vs.reverse ++ rest) (hn : Vs.length = n) (hml : q2.2.2.2.1 ≤ 21) (hsum : (rest.map fun v => v.category).sum ≤ 8) (hr : rcA T h rc Vs)
    (hw : WP G T q2 d Vs h 0 0 (lQ Qc)) (kk : ∀ r h', Qc r h' → Att G T q (d + 1) (pc + 3) L (.long r :: rest) h' bc bs Q) : Att G T q (d + 1) pc L st h bc bs Q := A_callL Vs rest hct hd hst hn hml hsum hr 0 0 (Nat.zero_le _) (Nat.zero_le _) hw kk
theorem A_cR {q2 : MM} {ins : Instr} {n : Nat} {rc : Option (Option String)} {Qc : Nat → AH → Prop} (Vs rest : List Value) (hct : CallTo q q2 ins n rc) (hd : decode q.2.2.1 pc = .ok (ins, 3)) (hst : st = Vs.reverse ++ rest) (hn : Vs.length = n) (hml : q2.2.2.2.1 ≤ 21) (hsum : (rest.map fun v => v.category).sum ≤ 8) (hr : rcA T h rc Vs)
    (hw : WP G T q2 d Vs h 0 0 (rQ Qc)) (kk : ∀ r h', Qc r h' → Att G T q (d + 1) (pc + 3) L (.ref r :: rest) h' bc bs Q) : Att G T q (d + 1) pc L st h bc bs Q := A_callR Vs rest hct hd hst hn hml hsum hr 0 0 (Nat.zero_le _) (Nat.zero_le _) hw kk
theorem A_cV {q2 : MM} {ins : Instr} {n : Nat} {rc : Option (Option String)} {Qc : AH → Prop} (Vs rest : List Value) (hct : CallTo q q2 ins n rc) (hd : decode q.2.2.1 pc = .ok (ins, 3)) (hst : st = Vs.reverse ++ rest) (hn : Vs.length = n) (hml : q2.2.2.2.1 ≤ 21) (hsum : (rest.map fun v => v.category).sum ≤ 8) (hr : rcA T h rc Vs)
    (hw : WP G T q2 d Vs h 0 0 (vQ Qc)) (kk : ∀ h', Qc h' → Att G T q (d + 1) (pc + 3) L rest h' bc bs Q) : Att G T q (d + 1) pc L st h bc bs Q := A_callV Vs rest hct hd hst hn hml hsum hr 0 0 (Nat.zero_le _) (Nat.zero_le _) hw kk
end TOPS
theorem WP.enterF {G : GG} {T : TT} {q : MM} {d : Nat} {Vs : List Value} {h : AH} {mc ms : Nat} {Q : QQ} (n : Nat) (hy : plainFor q.2.1 = true) (hc : q.2.1.cls = q.1) (hn : (lay0 Vs).length + n = q.2.2.2.1) (k : Att G T q d 0 (lay0 Vs ++ List.replicate n none) [] h mc ms Q) : WP G T q d Vs h mc ms Q := by
  refine va_MetF (cc := q.2.2.1) (maxL := q.2.2.2.1) (ret := q.2.2.2.2) hy rfl ?_
  intro p e s m args below meth c s₁ B hml hv
  obtain ⟨rfl, hH, hK, hSW, hgb, hkk⟩ := hv
  have hlen : ∀ (us : List Value), (lg_sl (us.map (cv G))).length = (lay0 us).length := by
    intro us
    induction us with
    | nil => rfl
    | cons v r ih =>
      by_cases hv : v.category = 2
      · simp only [lg_sl, List.map_cons, List.flatMap_cons, cat_cv, if_pos hv, lay0, List.length_append, List.length_cons] at ih ⊢
        simp only [List.length_nil]
        omega
      · simp only [lg_sl, List.map_cons, List.flatMap_cons, cat_cv, if_neg hv, lay0, List.length_append, List.length_cons] at ih ⊢
        simp only [List.length_nil]
        omega
  have hl := lv_entry (Vs.map (cv G)) (n := q.2.2.2.1) (by rw [hlen]; omega)
  rw [lg_entry_eq]
  rw [← asc_lay0 G n] at hl
  have hts0 := atoms_spec (ws := wsM q) B.pre
  refine k p e _ s m _ below meth c s.heap [] 0 0 (nC T h + mc) _ _ ⟨B.exec, B.bytes, hml, by rw [← hc]; exact findClass_of_methodNamed B.named, (name_of_methodNamed B.named B.method).1, fun w hw => hts0 w (List.mem_cons_of_mem _ hw), hK, hSW, hgb, Nat.le_refl _, Nat.le_refl _⟩ hH va_S.rf hl (Nat.le_of_eq (Nat.zero_add _)) (Nat.le_of_eq (Nat.zero_add _)) (Nat.le_refl _) hkk ?_
  intro H locs cells slots h' ls pc v hH' hS' hc1 hc2 hnk hQ hok
  refine W.widen (k := mc) (n := ms) hc1 hc2 ?_
  have fin : ∀ t : State, t.heap = H → s.WarmedH t.vm → QcW G T h mc Q (Vs.map (cv G)).toArray s (.returned (v.map (cv G))) t := fun t ht hW =>
    ⟨⟨v, h', rfl, hQ, by rw [ht]; exact hH', hnk⟩, hS'.F ht⟩
  have hx := B.exec
  have hb := B.bytes
  have hr := B.returns
  have hlk := B.notSynchronized
  cases v with
  | none => exact W.vret hx hb (by rw [hr]; exact hok.2) (fun t ht hW => fin t ht hW) hS'.2.2 hok.1
  | some w =>
    cases w with
    | int x =>
      obtain ⟨h1, ty, h2, h3⟩ := hok
      exact W.zret hx hb (by rw [hr]; exact h2) h3 (fun t ht hW => fin t ht hW) hS'.2.2 h1
    | long x =>
      obtain ⟨h1, h2⟩ := hok
      exact W.lret hx hb (by rw [hr]; exact h2) (fun t ht hW => fin t ht hW) hS'.2.2 h1
    | ref a =>
      obtain ⟨h1, n, h2⟩ := hok
      exact W.aret hx hb (by rw [hr]; exact h2) (Or.inl ⟨n, rfl⟩) (Or.inr ⟨_, rfl⟩) (fun t ht hW => fin t ht hW) hS'.2.2 h1
    | float _ => exact hok.elim
    | double _ => exact hok.elim
    | null => exact hok.elim
    | retAddr _ => exact hok.elim
