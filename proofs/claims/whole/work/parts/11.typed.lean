/-! answers by their type; fewer locals; weaker ends -/
def iQ (Q : Int32 → AH → Prop) : QQ := fun v h => match v with
  | some (.int x) => Q x h
  | _ => False
def lQ (Q : Int64 → AH → Prop) : QQ := fun v h => match v with
  | some (.long x) => Q x h
  | _ => False
def rQ (Q : Nat → AH → Prop) : QQ := fun v h => match v with
  | some (.ref x) => Q x h
  | _ => False
def vQ (Q : AH → Prop) : QQ := fun v h => match v with
  | none => Q h
  | _ => False
theorem WP.mono {G : GG} {T : TT} {q : MM} {d : Nat} {Vs : List Value} {h : AH} {mc ms : Nat} {Q Q' : QQ} (k : WP G T q d Vs h mc ms Q) (hQ : ∀ v h', Q v h' → Q' v h') : WP G T q d Vs h mc ms Q' := by
  intro p e h1 h2 h3 s m args below h4 h5 h6 h7
  obtain ⟨n, o, g1, g2, g3, ⟨⟨v, h', e9, hq, hr⟩, hF⟩, hL⟩ := k p e h1 h2 h3 s m args below h4 h5 h6 h7
  exact ⟨n, o, g1, g2, g3, ⟨⟨v, h', e9, hQ v h' hq, hr⟩, hF⟩, hL⟩
def subL : LL → LL → Prop
  | [], _ => True
  | none :: l, [] => subL l []
  | none :: l, _ :: m => subL l m
  | some _ :: _, [] => False
  | some v :: l, w :: m => some v = w ∧ subL l m
theorem subL_nth : ∀ {l m : LL}, subL l m → ∀ {k : Nat} {v : Value}, nth l k = some v → nth m k = some v := by
  intro l
  induction l with
  | nil => intro m _ k v h; cases h
  | cons a l ih =>
    intro m hs k v h
    cases a with
    | none =>
      cases m with
      | nil =>
        cases k with
        | zero => cases h
        | succ k => exact absurd (ih (m := []) hs (k := k) (v := v) h) (by simp [nth])
      | cons b m =>
        cases k with
        | zero => cases h
        | succ k => exact ih (m := m) hs h
    | some w =>
      cases m with
      | nil => exact hs.elim
      | cons b m =>
        cases k with
        | zero => cases h; exact hs.1.symm
        | succ k => exact ih (m := m) hs.2 h
section TYPED
variable {G : GG} {T : TT} {q : MM} {d pc : Nat} {L : LL} {st : List Value} {h : AH} {bc bs : Nat} {Q : QQ}
theorem A_sub {L' : LL} (hs : subL L' L) (k : Att G T q d pc L' st h bc bs Q) : Att G T q d pc L st h bc bs Q := by
  intro p e R s m args below meth c H locs cells slots KK Zs ls hC hH hS hl hc1 hc2 hk1 hk2 hE
  refine k p e R s m args below meth c H locs cells slots KK Zs ls hC hH hS ⟨hl.1, hl.2.1, fun x hx => ?_⟩ hc1 hc2 hk1 hk2 hE
  obtain ⟨j, v, rfl, hv⟩ := asc_of hx
  rw [Nat.zero_add]
  exact lr_get hl (subL_nth hs hv)
theorem A_callI {q2 : MM} {ins : Instr} {n : Nat} {rc : Option (Option String)} {Qc : Int32 → AH → Prop} (Vs rest : List Value) (hct : CallTo q q2 ins n rc) (hd : decode q.2.2.1 pc = .ok (ins, 3)) (hst : st = Vs.reverse ++ rest) (hn : Vs.length = n) (hml : q2.2.2.2.1 ≤ 21) (hsum : (rest.map fun v => v.category).sum ≤ 8) (hr : rcA T h rc Vs) (mc ms : Nat) (hmc : mc ≤ bc) (hms : ms ≤ bs)
    (hw : WP G T q2 d Vs h mc ms (iQ Qc)) (kk : ∀ r h', Qc r h' → Att G T q (d + 1) (pc + 3) L (.int r :: rest) h' (bc - mc) (bs - ms) Q) : Att G T q (d + 1) pc L st h bc bs Q := by
  refine A_call Vs rest hct hd hst hn hml hsum hr hmc hms (hw.mono (fun v h' z => ?_))
  match v, z with
  | some (.int x), z => exact kk x h' z
theorem A_callL {q2 : MM} {ins : Instr} {n : Nat} {rc : Option (Option String)} {Qc : Int64 → AH → Prop} (Vs rest : List Value) (hct : CallTo q q2 ins n rc) (hd : decode q.2.2.1 pc = .ok (ins, 3)) (hst : st = Vs.reverse ++ rest) (hn : Vs.length = n) (hml : q2.2.2.2.1 ≤ 21) (hsum : (rest.map fun v => v.category).sum ≤ 8) (hr : rcA T h rc Vs) (mc ms : Nat) (hmc : mc ≤ bc) (hms : ms ≤ bs)
    (hw : WP G T q2 d Vs h mc ms (lQ Qc)) (kk : ∀ r h', Qc r h' → Att G T q (d + 1) (pc + 3) L (.long r :: rest) h' (bc - mc) (bs - ms) Q) : Att G T q (d + 1) pc L st h bc bs Q := by
  refine A_call Vs rest hct hd hst hn hml hsum hr hmc hms (hw.mono (fun v h' z => ?_))
  match v, z with
  | some (.long x), z => exact kk x h' z
theorem A_callR {q2 : MM} {ins : Instr} {n : Nat} {rc : Option (Option String)} {Qc : Nat → AH → Prop} (Vs rest : List Value) (hct : CallTo q q2 ins n rc) (hd : decode q.2.2.1 pc = .ok (ins, 3)) (hst : st = Vs.reverse ++ rest) (hn : Vs.length = n) (hml : q2.2.2.2.1 ≤ 21) (hsum : (rest.map fun v => v.category).sum ≤ 8) (hr : rcA T h rc Vs) (mc ms : Nat) (hmc : mc ≤ bc) (hms : ms ≤ bs)
    (hw : WP G T q2 d Vs h mc ms (rQ Qc)) (kk : ∀ r h', Qc r h' → Att G T q (d + 1) (pc + 3) L (.ref r :: rest) h' (bc - mc) (bs - ms) Q) : Att G T q (d + 1) pc L st h bc bs Q := by
  refine A_call Vs rest hct hd hst hn hml hsum hr hmc hms (hw.mono (fun v h' z => ?_))
  match v, z with
  | some (.ref x), z => exact kk x h' z
theorem A_callV {q2 : MM} {ins : Instr} {n : Nat} {rc : Option (Option String)} {Qc : AH → Prop} (Vs rest : List Value) (hct : CallTo q q2 ins n rc) (hd : decode q.2.2.1 pc = .ok (ins, 3)) (hst : st = Vs.reverse ++ rest) (hn : Vs.length = n) (hml : q2.2.2.2.1 ≤ 21) (hsum : (rest.map fun v => v.category).sum ≤ 8) (hr : rcA T h rc Vs) (mc ms : Nat) (hmc : mc ≤ bc) (hms : ms ≤ bs)
    (hw : WP G T q2 d Vs h mc ms (vQ Qc)) (kk : ∀ h', Qc h' → Att G T q (d + 1) (pc + 3) L rest h' (bc - mc) (bs - ms) Q) : Att G T q (d + 1) pc L st h bc bs Q := by
  refine A_call Vs rest hct hd hst hn hml hsum hr hmc hms (hw.mono (fun v h' z => ?_))
  match v, z with
  | none, z => exact kk h' z
theorem rcA_o {Vs As : List Value} {b c : Nat} {C : String} {F : u_T} {N : Nat} (e : Vs = .ref b :: As) (ha : vA T h b) (hs : (rS T h b).1 = c) (hc : c < 100) (hcl : clL[c]? = some (C, F, N)) : rcA T h (some (some C)) Vs := ⟨b, As, c, F, N, e, Or.inl ⟨ha, hs, hc, hcl⟩⟩
theorem rcA_s {Vs As : List Value} {i : Nat} (e : Vs = .ref (1000000 + i) :: As) (hi : i < 13) : rcA T h (some (some "java/lang/String")) Vs := ⟨_, As, 0, F_Aunt, 0, e, Or.inr ⟨i, rfl, hi, rfl⟩⟩
/-- a literal address of the fixed part -/
theorem vA_s {a : Nat} (ha : a < T.2.2) : vA T h a := Nat.lt_of_lt_of_le ha (Nat.le_add_right _ _)
end TYPED
