/-! the fixed part once both objects stand: refs, shapes (printed by wip/gen/t1.py) -/
def tblR : List (List (Option Nat)) := [[some 2, some 3, some 4, some 5, some 6, some 10, some 14, some 26], [], [some 34, some 37, some 40, some 43, some 46, some 49], [some 52, some 54, some 56, some 58], [], [some 7, some 8, some 9], [], [], [], [some 11, some 12, some 13], [], [], [], [some 15, some 19, some 20, some 21, some 22, some 23, some 24, some 25], [some 16, some 17, some 18], [], [], [], [], [], [], [], [], [], [], [], [], [], [], [], [], [], [], [some 35, some 36], [], [], [some 38, some 39], [], [], [some 41, some 42], [], [], [some 44, some 45], [], [], [some 47, some 48], [], [], [some 50, some 51], [], [], [some 53], [], [some 55], [], [some 57], [], [some 59], [], [none, some 61, some 62, some 63, some 64, some 65, some 66, some 67, none, some 68, some 69, none, none, none, none, none, some 70, some 71, some 72, some 73, some 74, none, none, none, none, some 75, some 76, none, none, none, some 77, some 78, some 79, some 80, some 81, some 82, some 83, none, none, some 84], [], [], [], [], [], [], [], [], [], [], [], [], [], [], [], [], [], [], [], [], [], [], [], []]
def tblS : List (Option (Nat × Nat)) := [some (11, 11), some (101, 7), some (102, 6), some (103, 4), some (100, 160), some (10, 5), some (100, 7), some (100, 7), some (100, 7), some (10, 5), some (100, 7), some (100, 7), some (100, 7), some (2, 9), some (10, 5), some (100, 7), some (100, 7), some (100, 7), some (101, 7), some (100, 7), some (100, 7), some (100, 7), some (100, 7), some (100, 6), some (100, 160), some (7, 7), some (4, 3), some (4, 3), some (4, 3), some (4, 3), some (4, 3), some (4, 3), some (4, 3), some (6, 3), some (100, 160), some (100, 4), some (6, 3), some (100, 160), some (100, 4), some (6, 3), some (100, 160), some (100, 4), some (6, 3), some (100, 160), some (100, 4), some (6, 3), some (100, 160), some (100, 4), some (6, 3), some (100, 160), some (100, 4), some (8, 3), some (100, 40), some (8, 3), some (100, 40), some (8, 3), some (100, 40), some (8, 3), some (100, 40), some (12, 40), some (100, 7), some (100, 7), some (100, 7), some (100, 7), some (100, 7), some (100, 7), some (100, 160), some (100, 1200), some (100, 24), some (100, 21), some (100, 4), some (100, 4), some (100, 160), some (100, 58), some (100, 96), some (100, 200), some (100, 200), some (100, 6), some (100, 7), some (100, 7), some (100, 7), some (100, 7), some (100, 7), some (100, 7)]
def T1 : TT := (fun a k => nthN (nthN tblR a []) k none, fun a => nthN tblS a none, 84)
/-- nothing fixed -/
def T0 : TT := (fun _ _ => none, fun _ => none, 0)
theorem nthN_ge {α : Type} : ∀ (l : List α) (k : Nat) (z : α), l.length ≤ k → nthN l k z = z := by
  intro l
  induction l with
  | nil => intro k z _; rfl
  | cons a l ih =>
    intro k z h
    cases k with
    | zero => exact absurd h (by simp)
    | succ k => exact ih k z (by simpa using h)
/-- a class of the houses' family -/
abbrev famP (c : Nat) : Prop := c = 0 ∨ c = 1 ∨ c = 3 ∨ c = 4 ∨ c = 5 ∨ c = 9
def famA (T : TT) (h : AH) (a : Nat) : Prop := vA T h a ∧ famP (rS T h a).1
theorem vR_pos {x : Nat} (h : 0 < x) : vR x = .ref (x - 1) := by
  cases x with
  | zero => exact absurd h (Nat.lt_irrefl 0)
  | succ x => rfl
theorem pos_sub {x : Nat} (h : 0 < x) : x = x - 1 + 1 := by omega
theorem rS_ex {T : TT} {h : AH} {a c : Nat} (e : (rS T h a).1 = c) : rS T h a = (c, (rS T h a).2) := by subst e; rfl
theorem fam_fty {c k : Nat} (hc : famP c) (hk : k < 3) : fty c k = 0 := by
  match k, hk with
  | 0, _ => rcases hc with rfl | rfl | rfl | rfl | rfl | rfl <;> rfl
  | 1, _ => rcases hc with rfl | rfl | rfl | rfl | rfl | rfl <;> rfl
  | 2, _ => rcases hc with rfl | rfl | rfl | rfl | rfl | rfl <;> rfl
section TOPS
variable {G : GG} {T : TT} {q : MM} {d pc : Nat} {L : LL} {st : List Value} {h : AH} {bc bs : Nat} {Q : QQ}
theorem A_getH {a idx k : Nat} (hd : decode q.2.2.1 pc = .ok (.getfield idx, 3)) (hF : ∀ c, famP c → FOK q.1 idx c k) (hA : famA T h a) (kk : Att G T q d (pc + 3) L (.int (h.1 a (Int32.ofNat k)) :: st) h bc bs Q) (hk : k < 3 := by decide) : Att G T q d pc L (.ref a :: st) h bc bs Q := by
  refine A_get hd (hF _ hA.2) hA.1 rfl ?_ kk
  rw [fam_fty hA.2 hk]
  rfl
theorem fam_asg {c : Nat} (hc : famP c) : asgOK c 0 := by
  rcases hc with rfl | rfl | rfl | rfl | rfl | rfl
  · exact ⟨_, _, _, _, rfl, rfl, Or.inr (by decide +kernel)⟩
  · exact ⟨_, _, _, _, rfl, rfl, Or.inr (by decide +kernel)⟩
  · exact ⟨_, _, _, _, rfl, rfl, Or.inr (by decide +kernel)⟩
  · exact ⟨_, _, _, _, rfl, rfl, Or.inl rfl⟩
  · exact ⟨_, _, _, _, rfl, rfl, Or.inr (by decide +kernel)⟩
  · exact ⟨_, _, _, _, rfl, rfl, Or.inr (by decide +kernel)⟩
theorem fam_lt {c : Nat} (hc : famP c) : c < 100 := by rcases hc with rfl | rfl | rfl | rfl | rfl | rfl <;> decide
theorem A_aastH {a n b : Nat} {i : Int32} (hd : decode q.2.2.1 pc = .ok (.aastore, 1)) (ha : vA T h a) (hs : rS T h a = (101, n)) (hi : inb i n) (hb : famA T h b) (hdyn : T.1 a i.toNatClampNeg = none) (kk : Att G T q d (pc + 1) L st (wR h a i.toNatClampNeg (b + 1)) bc bs Q) : Att G T q d pc L (.ref b :: .int i :: .ref a :: st) h bc bs Q :=
  A_aast (t := 0) hd (by decide) ha hs hi hb.1 rfl (fam_lt hb.2) (fam_asg hb.2) hdyn kk
theorem A_cI {q2 : MM} {ins : Instr} {n : Nat} {rc : Option (Option String)} {Qc : Int32 → AH → Prop} (Vs rest : List Value) (hct : CallTo q q2 ins n rc) (hd : decode q.2.2.1 pc = .ok (ins, 3)) (hst : st = Vs.reverse ++ rest) (hn : Vs.length = n) (hml : q2.2.2.2.1 ≤ 21) (hsum : (rest.map fun v => v.category).sum ≤ 8) (hr : rcA T h rc Vs)
    (hw : WP G T q2 d Vs h 0 0 (iQ Qc)) (kk : ∀ r h', Qc r h' → Att G T q (d + 1) (pc + 3) L (.int r :: rest) h' bc bs Q) : Att G T q (d + 1) pc L st h bc bs Q := A_callI Vs rest hct hd hst hn hml hsum hr 0 0 (Nat.zero_le _) (Nat.zero_le _) hw kk
theorem A_cL {q2 : MM} {ins : Instr} {n : Nat} {rc : Option (Option String)} {Qc : Int64 → AH → Prop} (Vs rest : List Value) (hct : CallTo q q2 ins n rc) (hd : decode q.2.2.1 pc = .ok (ins, 3)) (hst : st = Vs.reverse ++ rest) (hn : Vs.length = n) (hml : q2.2.2.2.1 ≤ 21) (hsum : (rest.map fun v => v.category).sum ≤ 8) (hr : rcA T h rc Vs)
    (hw : WP G T q2 d Vs h 0 0 (lQ Qc)) (kk : ∀ r h', Qc r h' → Att G T q (d + 1) (pc + 3) L (.long r :: rest) h' bc bs Q) : Att G T q (d + 1) pc L st h bc bs Q := A_callL Vs rest hct hd hst hn hml hsum hr 0 0 (Nat.zero_le _) (Nat.zero_le _) hw kk
theorem A_cR {q2 : MM} {ins : Instr} {n : Nat} {rc : Option (Option String)} {Qc : Nat → AH → Prop} (Vs rest : List Value) (hct : CallTo q q2 ins n rc) (hd : decode q.2.2.1 pc = .ok (ins, 3)) (hst : st = Vs.reverse ++ rest) (hn : Vs.length = n) (hml : q2.2.2.2.1 ≤ 21) (hsum : (rest.map fun v => v.category).sum ≤ 8) (hr : rcA T h rc Vs)
    (hw : WP G T q2 d Vs h 0 0 (rQ Qc)) (kk : ∀ r h', Qc r h' → Att G T q (d + 1) (pc + 3) L (.ref r :: rest) h' bc bs Q) : Att G T q (d + 1) pc L st h bc bs Q := A_callR Vs rest hct hd hst hn hml hsum hr 0 0 (Nat.zero_le _) (Nat.zero_le _) hw kk
theorem A_cV {q2 : MM} {ins : Instr} {n : Nat} {rc : Option (Option String)} {Qc : AH → Prop} (Vs rest : List Value) (hct : CallTo q q2 ins n rc) (hd : decode q.2.2.1 pc = .ok (ins, 3)) (hst : st = Vs.reverse ++ rest) (hn : Vs.length = n) (hml : q2.2.2.2.1 ≤ 21) (hsum : (rest.map fun v => v.category).sum ≤ 8) (hr : rcA T h rc Vs)
    (hw : WP G T q2 d Vs h 0 0 (vQ Qc)) (kk : ∀ h', Qc h' → Att G T q (d + 1) (pc + 3) L rest h' bc bs Q) : Att G T q (d + 1) pc L st h bc bs Q := A_callV Vs rest hct hd hst hn hml hsum hr 0 0 (Nat.zero_le _) (Nat.zero_le _) hw kk
end TOPS
