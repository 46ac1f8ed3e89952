/-! calls -/
/-- what a call site asks of its receiver: nothing (static); a cell (a constructor); a cell of that class -/
def rcOK (s : State) (H : Heap) : Option (Option String) → List Value → Prop
  | none, _ => True
  | some none, Vs => ∃ (b : Nat) (As : List Value), Vs = .ref b :: As
  | some (some C), Vs => ∃ (b : Nat) (As : List Value) (cell : Cell), Vs = .ref b :: As ∧ H[b]? = some cell ∧ cell.vm.isStatics = false ∧ s.vm.findClass C = some cell.cls
def CallTo (q q2 : MM) (ins : Instr) (n : Nat) (rc : Option (Option String)) : Prop :=
  ∀ (p : Program) (l : Launch) (e : Env) (R : Room) (s : State) (m : MethodId) (args : Array Value) (below : List Frame) (meth : Method) (c : Code) (H : Heap) (locs : List Loc) (cells slots mc ms : Nat) (rm : Room) (Pc : Array Value → State → Prop) (Qc : Array Value → State → Outcome → State → Prop) (free : Addr → Prop) (Vs rest : List Value) (ls : Array Slot) (pc : Nat),
    CallFix p m c q.2.2.1 q.2.2.2.1 s args tblG q.1 → (∀ x ∈ nestL, va_Nw (.methodLinkNest x.1 x.2.1 x.2.2.1 x.2.2.2) s) → (∀ (k : Nat) (r : vw_C), clL[k]? = some r → ∃ cC, ClassAt s r.1 cC) →
    Met l q2.2.1 (wsM q2) rm Pc Qc mc ms free → rm.cells = mc → rm.slots = ms → rm.frames + 1 ≤ R.frames → 8 + (q2.2.2.2.1 + 11) + rm.locals ≤ R.locals → FrameBlind Pc → (∀ U : State, U.heap = H → s.WarmedH U.vm → Pc Vs.toArray U) → rcOK s H rc Vs → Vs.length = n →
    ls.size = q.2.2.2.1 → (rest.map fun v => v.category).sum ≤ 8 → decode q.2.2.1 pc = .ok (ins, 3) → cells + mc ≤ R.cells ∧ slots + ms ≤ R.slots →
    va_Run p l e R s m args below meth c H locs cells slots mc ms (F0 m pc ls (Vs.reverse ++ rest)) rest (Qc Vs.toArray) free
theorem good_of {ws : List Cond} (h : ∀ w ∈ ws, w ∈ tblG) : GoodIn tblG ws := fun w hw => ⟨h w hw, gG w (h w hw)⟩
theorem wsM_in {q : MM} (h : Cond.code q.2.1 q.2.2.1 q.2.2.2.1 q.2.2.2.2 ∈ tblG) : ∀ w ∈ wsM q, w ∈ tblG := fun w hw => (List.mem_cons.mp hw).elim (fun e => e ▸ h) id
abbrev MHok (y : MethodName) (n : Nat) : Prop := y.cls ≠ "java/lang/invoke/MethodHandle" ∧ y.cls ≠ "java/lang/invoke/VarHandle" ∧ (parseMethodDescriptor y.desc).map (fun d => d.parameters.length) = some n
theorem ct_V {q q2 : MM} {idx n : Nat} (h1 : Cond.methodLink q.1 idx q2.2.1 ∈ tblG) (h2 : Cond.instanceMethod q2.2.1 ∈ tblG) (h3 : Cond.selects q2.2.1.cls q2.2.1 q2.2.1 ∈ tblG) (h4 : Cond.initialized q2.2.1.cls ∈ tblG) (h5 : Cond.code q2.2.1 q2.2.2.1 q2.2.2.2.1 q2.2.2.2.2 ∈ tblG) (hd : MHok q2.2.1 n) :
    CallTo q q2 (.invokevirtual idx) (n + 1) (some (some q2.2.1.cls)) := by
  intro p l e R s m args below meth c H locs cells slots mc ms rm Pc Qc free Vs rest ls pc S hnw hca hM hrc hrs hf hlo hbl hPc hr hn hsz hW hdg hroom
  obtain ⟨b, As, cell, rfl, g1, g2, g3⟩ := hr
  have hT : GoodIn tblG (wsV q.1 idx q2.2.1.cls q2.2.1 (wsM q2)) := good_of (fun w hw => by
    rcases List.mem_append.mp hw with h | h
    · simp only [List.mem_cons, List.not_mem_nil, or_false] at h
      rcases h with rfl | rfl | rfl | rfl <;> assumption
    · exact wsM_in h5 w h)
  have hn' : As.length = n := by simpa using hn
  exact va_runV (As := As) (rest := rest) S hM (cwV n S.2.2.2.2 hT rfl hrc hrs ⟨rfl, hd⟩ ⟨hf, hlo⟩) ⟨hbl, ⟨cell, g1, g2, g3⟩, fun U hU hW => hPc U hU hW⟩ rfl hn' hsz (by simp [F0]) (lv_room hW) hdg hroom
theorem ct_S {q q2 : MM} {idx n : Nat} (h0 : q2.2.1.cls = q.1) (h1 : Cond.methodLink q.1 idx q2.2.1 ∈ tblG) (h2 : Cond.static q2.2.1 ∈ tblG) (h4 : Cond.initialized q.1 ∈ tblG) (h5 : Cond.code q2.2.1 q2.2.2.1 q2.2.2.2.1 q2.2.2.2.2 ∈ tblG) (hd : MHok q2.2.1 n) :
    CallTo q q2 (.invokestatic idx) n none := by
  intro p l e R s m args below meth c H locs cells slots mc ms rm Pc Qc free Vs rest ls pc S hnw hca hM hrc hrs hf hlo hbl hPc hr hn hsz hW hdg hroom
  have hT : GoodIn tblG (wsS q.1 idx q2.2.1 (wsM q2)) := good_of (fun w hw => by
    rcases List.mem_append.mp hw with h | h
    · simp only [List.mem_cons, List.not_mem_nil, or_false] at h
      rcases h with rfl | rfl | rfl <;> assumption
    · exact wsM_in h5 w h)
  exact va_runS (As := Vs) (rest := rest) S hM (cwS n S.2.2.2.2 hT rfl hrc hrs ⟨h0, hd⟩ ⟨hf, hlo⟩) ⟨hbl, fun U hU hW => hPc U hU hW⟩ rfl hn hsz rfl (lv_room hW) hdg hroom
/-- a static method of another class, not of a nest mate's private ones -/
theorem ct_So {q q2 : MM} {idx n : Nat} (h1 : Cond.methodLink q.1 idx q2.2.1 ∈ tblG) (h2 : Cond.static q2.2.1 ∈ tblG) (h4 : Cond.initialized q2.2.1.cls ∈ tblG) (h5 : Cond.code q2.2.1 q2.2.2.1 q2.2.2.2.1 q2.2.2.2.2 ∈ tblG) (hd : MHok q2.2.1 n) :
    CallTo q q2 (.invokestatic idx) n none := by
  intro p l e R s m args below meth c H locs cells slots mc ms rm Pc Qc free Vs rest ls pc S hnw hca hM hrc hrs hf hlo hbl hPc hr hn hsz hW hdg hroom
  have ht := S.2.2.2.2
  exact va_runS (As := Vs) (rest := rest) S hM ⟨callB_of n ht (good_of (wsM_in h5)) rfl hrc hrs (ht _ h4) (ht _ h1) hd ⟨hf, hlo⟩, ht _ h2⟩ ⟨hbl, fun U hU hW => hPc U hU hW⟩ rfl hn hsz rfl (lv_room hW) hdg hroom
theorem ct_I {q q2 : MM} {idx n : Nat} (h1 : Cond.methodLink q.1 idx q2.2.1 ∈ tblG) (h2 : Cond.instanceMethod q2.2.1 ∈ tblG) (h4 : Cond.initialized q2.2.1.cls ∈ tblG) (h5 : Cond.code q2.2.1 q2.2.2.1 q2.2.2.2.1 q2.2.2.2.2 ∈ tblG) (hr0 : q2.2.2.2.2 = none) (hnm : q2.2.1.name = "<init>") (hd : MHok q2.2.1 n) :
    CallTo q q2 (.invokespecial idx) (n + 1) (some none) := by
  intro p l e R s m args below meth c H locs cells slots mc ms rm Pc Qc free Vs rest ls pc S hnw hca hM hrc hrs hf hlo hbl hPc hr hn hsz hW hdg hroom
  obtain ⟨b, As, rfl⟩ := hr
  have ht := S.2.2.2.2
  have hw : wsM q2 = Cond.code q2.2.1 q2.2.2.1 q2.2.2.2.1 none :: tblG := by unfold wsM; rw [hr0]
  exact va_runI (As := As) (rest := rest) S hM (cwI n ht (good_of (wsM_in h5)) hw hrc hrs (ht _ h4) (ht _ h1) (ht _ h2) hnm hd ⟨hf, hlo⟩) ⟨hbl, fun U hU hW => hPc U hU hW⟩ rfl (by simpa using hn) hsz (by simp [F0]) (lv_room hW) hdg hroom
theorem ct_IN {q q2 : MM} {idx n : Nat} {host : String} (h1 : (q.1, idx, q2.2.1, host) ∈ nestL) (h2 : Cond.instanceMethod q2.2.1 ∈ tblG) (h4 : Cond.initialized q2.2.1.cls ∈ tblG) (h5 : Cond.code q2.2.1 q2.2.2.1 q2.2.2.2.1 q2.2.2.2.2 ∈ tblG) (hr0 : q2.2.2.2.2 = none) (hnm : q2.2.1.name = "<init>") (hd : MHok q2.2.1 n) :
    CallTo q q2 (.invokespecial idx) (n + 1) (some none) := by
  intro p l e R s m args below meth c H locs cells slots mc ms rm Pc Qc free Vs rest ls pc S hnw hca hM hrc hrs hf hlo hbl hPc hr hn hsz hW hdg hroom
  obtain ⟨b, As, rfl⟩ := hr
  have ht := S.2.2.2.2
  have hw : wsM q2 = Cond.code q2.2.1 q2.2.2.1 q2.2.2.2.1 none :: tblG := by unfold wsM; rw [hr0]
  exact va_runIN (As := As) (rest := rest) S hM ⟨va_cnB n ht (good_of (wsM_in h5)) hw hrc hrs (hnw _ h1) (ht _ h4) hd ⟨hf, hlo⟩, hnm, ht _ h2⟩ ⟨hbl, fun U hU hW => hPc U hU hW⟩ rfl (by simpa using hn) hsz (by simp [F0]) (lv_room hW) hdg hroom
theorem ct_SN {q q2 : MM} {idx n : Nat} {host : String} (h1 : (q.1, idx, q2.2.1, host) ∈ nestL) (h2 : Cond.static q2.2.1 ∈ tblG) (h4 : Cond.initialized q2.2.1.cls ∈ tblG) (h5 : Cond.code q2.2.1 q2.2.2.1 q2.2.2.2.1 q2.2.2.2.2 ∈ tblG) (hd : MHok q2.2.1 n) :
    CallTo q q2 (.invokestatic idx) n none := by
  intro p l e R s m args below meth c H locs cells slots mc ms rm Pc Qc free Vs rest ls pc S hnw hca hM hrc hrs hf hlo hbl hPc hr hn hsz hW hdg hroom
  have ht := S.2.2.2.2
  exact va_runSN (As := Vs) (rest := rest) S hM ⟨va_cnB n ht (good_of (wsM_in h5)) rfl hrc hrs (hnw _ h1) (ht _ h4) hd ⟨hf, hlo⟩, ht _ h2, trivial⟩ ⟨hbl, fun U hU hW => hPc U hU hW⟩ rfl hn hsz rfl (lv_room hW) hdg hroom
/-- named x, declared by owner; the receiver's class C selects q2 -/
theorem ct_O {q q2 : MM} {idx n : Nat} {C owner : String} {x : MethodName} {b0 : ByteArray} {m0 : Nat} {r0 : Option FieldType} (h1 : Cond.methodLink q.1 idx x ∈ tblG) (hsm : Cond.sameMethod x.cls owner x.name x.desc ∈ tblG) (hi0 : Cond.instanceMethod ⟨owner, x.name, x.desc⟩ ∈ tblG) (hse : Cond.selects C x q2.2.1 ∈ tblG) (h2 : Cond.instanceMethod q2.2.1 ∈ tblG) (h4 : Cond.initialized q2.2.1.cls ∈ tblG) (h5 : Cond.code q2.2.1 q2.2.2.1 q2.2.2.2.1 q2.2.2.2.2 ∈ tblG)
    (h0 : Cond.code ⟨owner, x.name, x.desc⟩ b0 m0 r0 ∈ tblG) (hd : owner ≠ "java/lang/invoke/MethodHandle" ∧ owner ≠ "java/lang/invoke/VarHandle" ∧ (parseMethodDescriptor x.desc).map (fun d => d.parameters.length) = some n) :
    CallTo q q2 (.invokevirtual idx) (n + 1) (some (some C)) := by
  intro p l e R s m args below meth c H locs cells slots mc ms rm Pc Qc free Vs rest ls pc S hnw hca hM hrc hrs hf hlo hbl hPc hr hn hsz hW hdg hroom
  obtain ⟨b, As, cell, rfl, g1, g2, g3⟩ := hr
  have hT : GoodIn tblG (va_wsO q.1 idx C owner x q2.2.1 (wsM q2)) := good_of (fun w hw => by
    rcases List.mem_append.mp hw with h | h
    · simp only [List.mem_cons, List.not_mem_nil, or_false] at h
      rcases h with rfl | rfl | rfl | rfl | rfl | rfl <;> assumption
    · exact wsM_in h5 w h)
  exact va_runU (As := As) (rest := rest) S hM (va_cwO n S.2.2.2.2 hT rfl hrc hrs h0 hd ⟨hf, hlo⟩) ⟨hbl, ⟨cell, g1, g2, g3⟩, fun U hU hW => hPc U hU hW⟩ rfl (by simpa using hn) hsz (by simp [F0]) (lv_room hW) hdg hroom
/-- super.m(..) -/
theorem ct_SU {q q2 : MM} {idx n k : Nat} {r : vw_C} (h1 : Cond.methodLink q.1 idx q2.2.1 ∈ tblG) (hsm : Cond.sameMethod q2.2.1.cls q2.2.1.cls q2.2.1.name q2.2.1.desc ∈ tblG) (hsu : Cond.superclass q.1 q2.2.1.cls ∈ tblG) (h2 : Cond.instanceMethod q2.2.1 ∈ tblG) (h4 : Cond.initialized q2.2.1.cls ∈ tblG) (h5 : Cond.code q2.2.1 q2.2.2.1 q2.2.2.2.1 q2.2.2.2.2 ∈ tblG) (hno : q2.2.1.name ≠ "<init>") (hd : (parseMethodDescriptor q2.2.1.desc).map (fun d => d.parameters.length) = some n) (hk : clL[k]? = some r) :
    CallTo q q2 (.invokespecial idx) (n + 1) (some (some r.1)) := by
  intro p l e R s m args below meth c H locs cells slots mc ms rm Pc Qc free Vs rest ls pc S hnw hca hM hrc hrs hf hlo hbl hPc hr hn hsz hW hdg hroom
  obtain ⟨b, As, cell, rfl, g1, g2, g3⟩ := hr
  obtain ⟨cC, hat⟩ := hca k r hk
  have hT : GoodIn tblG (va_wsSU q.1 idx q2.2.1 (wsM q2)) := good_of (fun w hw => by
    rcases List.mem_append.mp hw with h | h
    · simp only [List.mem_cons, List.not_mem_nil, or_false] at h
      rcases h with rfl | rfl | rfl | rfl | rfl <;> assumption
    · exact wsM_in h5 w h)
  exact va_runSU (As := As) (rest := rest) hat S hM (va_cwSU n S.2.2.2.2 hT rfl hrc hrs ⟨hno, hd⟩ ⟨hf, hlo⟩) ⟨hbl, ⟨cell, g1, g2, g3⟩, fun U hU hW => hPc U hU hW⟩ rfl (by simpa using hn) hsz (by simp [F0]) (lv_room hW) hdg hroom
section CALL
variable {G : GG} {T : TT} {q : MM} {d pc : Nat} {L : LL} {h : AH} {bc bs : Nat} {Q : QQ}
/-- what the call site asks, seen from the abstract heap -/
def rcA (T : TT) (h : AH) : Option (Option String) → List Value → Prop
  | none, _ => True
  | some none, Vs => ∃ (b : Nat) (As : List Value), Vs = .ref b :: As
  | some (some C), Vs => ∃ (b : Nat) (As : List Value) (c : Nat) (F : u_T) (N : Nat), Vs = .ref b :: As ∧ ((vA T h b ∧ (rS T h b).1 = c ∧ c < 100 ∧ clL[c]? = some (C, F, N)) ∨ (∃ i, b = 1000000 + i ∧ i < 13 ∧ C = "java/lang/String"))
theorem A_call {q2 : MM} {ins : Instr} {n : Nat} {rc : Option (Option String)} (Vs rest : List Value) {st : List Value} {mc ms : Nat} (hct : CallTo q q2 ins n rc) (hd : decode q.2.2.1 pc = .ok (ins, 3)) (hst : st = Vs.reverse ++ rest) (hn : Vs.length = n) (hml : q2.2.2.2.1 ≤ 21) (hsum : (rest.map fun v => v.category).sum ≤ 8) (hr : rcA T h rc Vs) (hmc : mc ≤ bc) (hms : ms ≤ bs)
    (kk : WP G T q2 d Vs h mc ms (fun v h' => Att G T q (d + 1) (pc + 3) L (v.toList ++ rest) h' (bc - mc) (bs - ms) Q)) : Att G T q (d + 1) pc L st h bc bs Q := by
  intro p e R s m args below meth cc H locs cells slots KK Zs ls hC hH hS hl hc1 hc2 hk1 hk2 hE
  have hts := hC.2.2.2.2.2.1
  have hK := hC.2.2.2.2.2.2.1
  have hSW := hC.2.2.2.2.2.2.2.1
  have hgb := hC.2.2.2.2.2.2.2.2.1
  have hd1 := hC.2.2.2.2.2.2.2.2.2.1
  have hd2 := hC.2.2.2.2.2.2.2.2.2.2
  have hPc : ∀ U : State, U.heap = H → s.WarmedH U.vm → PcW G T Vs h mc (Vs.map (cv G)).toArray U := fun U hU hW => by
    refine ⟨rfl, by rw [hU]; exact hH, hK.moved hW.alike, ?_, by rw [hU]; exact Nat.le_trans hgb hS.1, by omega⟩
    exact hSW.step hW (fun a h1 h2 => by rw [hU]; exact hS.2.1 a h1 h2)
  have hbl : FrameBlind (PcW G T Vs h mc) := fun a U g mk hp => by
    obtain ⟨p1, p2, p3, p4, p5, p6⟩ := hp
    have hWU : U.WarmedH (U.calling g mk a).vm := State.WarmedH.refl U
    exact ⟨p1, p2, p3.moved hWU.alike, p4.step hWU (fun _ _ _ => rfl), p5, p6⟩
  have hrc : rcOK s H rc (Vs.map (cv G)) := by
    match rc, hr with
    | none, _ => trivial
    | some none, ⟨b, As, e9⟩ => exact ⟨ga G b, As.map (cv G), by rw [e9]; rfl⟩
    | some (some C), ⟨b, As, c, F, N, e9, hor⟩ =>
      rcases hor with ⟨hvb, hsc, hc100, hcl⟩ | ⟨i, rfl, hi, rfl⟩
      · have hvB : b < nC T h := hvb
        have hP := hH.P hvb
        rw [ent_o hsc hc100] at hP
        obtain ⟨cell, g1, g2, g3⟩ := va_recv hK hP (ci := c) (q0 := 0) hcl rfl
        exact ⟨ga G b, As.map (cv G), cell, by rw [e9]; rfl, by rw [ga_lt (by omega)]; exact g1, g2, g3⟩
      · obtain ⟨cell, g1, g2, g3⟩ := vk_recv hSW.2.2.2.2.1 hi hS
        exact ⟨ga G (1000000 + i), As.map (cv G), cell, by rw [e9]; rfl, by rw [ga_sp]; exact g1, g2, g3⟩
  have hrun := hct p G.1 e R s m args below meth cc H locs cells slots mc ms _ _ _ _ (Vs.map (cv G)) (rest.map (cv G)) ls pc ⟨hC.1, hC.2.1, hC.2.2.1, hC.2.2.2.1, hts⟩ hSW.1 (fun k r hk => ⟨_, (hK.1 k r hk).2⟩) kk rfl rfl (by show d + 1 ≤ _; omega) (by show 8 + _ + 40 * d ≤ _; omega) hbl hPc hrc (by rw [List.length_map]; exact hn) hl.1 (by rw [sum_cv]; exact hsum) hd ⟨by omega, by omega⟩
  have est : st.map (cv G) = (Vs.map (cv G)).reverse ++ rest.map (cv G) := by rw [hst, List.map_append, List.map_reverse]
  rw [est]
  intro Tt hT X
  obtain ⟨v, st₀, t, T', Lc, h0, X', hL, e1, e2, ⟨⟨v', h', hv, hq, hH', hn'⟩, hF⟩, stp⟩ := hrun Tt hT X
  have hvv : v = v'.map (cv G) := by cases hv; rfl
  subst hvv
  obtain ⟨hz, hk⟩ := hF
  rw [h0] at hz hk
  have hS' : va_S (fr G) s.heap T'.heap (locs ++ Lc) := ⟨Nat.le_trans hS.1 (by rw [e1]; exact hz), fun a h1 h2 => by rw [e1, hk a (Nat.lt_of_lt_of_le h1 hS.1) h2]; exact hS.2.1 a h1 h2, fun a ha => (List.mem_append.mp ha).elim (fun h9 => hS.2.2 a h9) (fun h9 => hL a h9)⟩
  have := hq p e R s m args below meth cc T'.heap (locs ++ Lc) (cells + mc) (slots + ms) KK Zs ls hC (by rw [e1]; exact hH') hS' hl (by omega) (by omega) (by omega) hk2 hE
  obtain ⟨t2, a1, b1⟩ := this T' rfl X'
  refine ⟨t2, stp t2 ?_, b1⟩
  have ev : (Option.map (cv G) v').toList ++ rest.map (cv G) = (v'.toList ++ rest).map (cv G) := by cases v' <;> simp
  rw [ev]
  exact a1
end CALL
