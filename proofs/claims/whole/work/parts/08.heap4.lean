theorem ga_sp {G : GG} (k : Nat) : ga G (1000000 + k) = G.2.2.2.2.1 k := by
  unfold ga
  rw [if_neg (by omega), Nat.add_sub_cancel_left]
section HOPS4
variable {G : GG} {T : TT} {q : MM} {d pc : Nat} {L : LL} {st : List Value} {h : AH} {bc bs : Nat} {Q : QQ}
theorem A_i2c {x : Int32} (hd : decode q.2.2.1 pc = .ok (.i2c, 1)) (k : Att G T q d (pc + 1) L (.int (x.toUInt32 % 65536).toInt32 :: st) h bc bs Q) : Att G T q d pc L (.int x :: st) h bc bs Q := by
  intro p e R s m args below meth c H locs cells slots KK Zs ls hC hH hS hl hc1 hc2 hk1 hk2 hE
  exact lv_i2c hC.1 hC.2.1 hd rfl (k p e R s m args below meth c H locs cells slots KK Zs ls hC hH hS hl hc1 hc2 hk1 hk2 hE)
theorem A_ldcS {idx : Nat} {own tx : String} (i : Nat) (hd : decode q.2.2.1 pc = .ok (.ldc idx, 2)) (hi : strL[i]? = some (own, idx, tx)) (hown : own = q.1) (k : Att G T q d (pc + 2) L (.ref (1000000 + i) :: st) h bc bs Q) : Att G T q d pc L st h bc bs Q := by
  intro p e R s m args below meth c H locs cells slots KK Zs ls hC hH hS hl hc1 hc2 hk1 hk2 hE
  have hw := hC.2.2.2.2.2.2.2.1.2.2.2.2.2.1 i _ hi
  subst hown
  refine va_ldcS hC.1 hC.2.1 hC.2.2.2.1 hw hd ?_
  have := k p e R s m args below meth c H locs cells slots KK Zs ls hC hH hS hl hc1 hc2 hk1 hk2 hE
  rw [← ga_sp]
  exact this
theorem A_strV {idx i : Nat} (hd : decode q.2.2.1 pc = .ok (.getfield idx, 3)) (hw : Cond.fieldLink q.1 idx "java/lang/String" "value" "[B" ∈ tblG) (hi : i < 13) (k : Att G T q d (pc + 3) L (.ref (1000000 + (100 + i)) :: st) h bc bs Q) : Att G T q d pc L (.ref (1000000 + i) :: st) h bc bs Q := by
  intro p e R s m args below meth c H locs cells slots KK Zs ls hC hH hS hl hc1 hc2 hk1 hk2 hE
  have hS7 := hC.2.2.2.2.2.2.2.1.2.2.2.2.1
  show W p G.1 e R s m args below meth c H locs cells slots Zs (F0 m pc ls (.ref (ga G (1000000 + i)) :: st.map (cv G)))
  rw [ga_sp]
  refine vk_getf (o := "java/lang/String") (v := .ref (G.2.2.2.2.1 (100 + i))) hC.1 hC.2.1 (hS7.1 i hi).2.2.1 hS hC.2.2.2.1 (hC.2.2.2.2.2.1 _ hw) (fun _ z => z) hd ?_
  have := k p e R s m args below meth c H locs cells slots KK Zs ls hC hH hS hl hc1 hc2 hk1 hk2 hE
  rw [← ga_sp]
  exact this
theorem A_strC {idx i : Nat} (hd : decode q.2.2.1 pc = .ok (.getfield idx, 3)) (hw : Cond.fieldLink q.1 idx "java/lang/String" "coder" "B" ∈ tblG) (hi : i < 13) (k : Att G T q d (pc + 3) L (.int 0 :: st) h bc bs Q) : Att G T q d pc L (.ref (1000000 + i) :: st) h bc bs Q := by
  intro p e R s m args below meth c H locs cells slots KK Zs ls hC hH hS hl hc1 hc2 hk1 hk2 hE
  have hS7 := hC.2.2.2.2.2.2.2.1.2.2.2.2.1
  show W p G.1 e R s m args below meth c H locs cells slots Zs (F0 m pc ls (.ref (ga G (1000000 + i)) :: st.map (cv G)))
  rw [ga_sp]
  exact vk_getf (o := "java/lang/String") (v := .int 0) hC.1 hC.2.1 (hS7.1 i hi).2.1 hS hC.2.2.2.1 (hC.2.2.2.2.2.1 _ hw) (fun _ z => z) hd (k p e R s m args below meth c H locs cells slots KK Zs ls hC hH hS hl hc1 hc2 hk1 hk2 hE)
theorem A_strN {i : Nat} (hd : decode q.2.2.1 pc = .ok (.arraylength, 1)) (hi : i < 13) (k : Att G T q d (pc + 1) L (.int (Int32.ofNat (strLen.getD i 0)) :: st) h bc bs Q) : Att G T q d pc L (.ref (1000000 + (100 + i)) :: st) h bc bs Q := by
  intro p e R s m args below meth c H locs cells slots KK Zs ls hC hH hS hl hc1 hc2 hk1 hk2 hE
  have hS7 := hC.2.2.2.2.2.2.2.1.2.2.2.2.1
  show W p G.1 e R s m args below meth c H locs cells slots Zs (F0 m pc ls (.ref (ga G (1000000 + (100 + i))) :: st.map (cv G)))
  rw [ga_sp]
  exact va_tlen hC.1 hC.2.1 (hS7.1 i hi).2.2.2 hS rfl hd (k p e R s m args below meth c H locs cells slots KK Zs ls hC hH hS hl hc1 hc2 hk1 hk2 hE)
theorem A_strB {i : Nat} {j : Int32} (hd : decode q.2.2.1 pc = .ok (.baload, 1)) (hi : i < 13) (hj : inb j (strLen.getD i 0)) (k : Att G T q d (pc + 1) L (.int ((strByt.getD i []).getD j.toNatClampNeg 0) :: st) h bc bs Q) : Att G T q d pc L (.int j :: .ref (1000000 + (100 + i)) :: st) h bc bs Q := by
  intro p e R s m args below meth c H locs cells slots KK Zs ls hC hH hS hl hc1 hc2 hk1 hk2 hE
  have hS7 := hC.2.2.2.2.2.2.2.1.2.2.2.2.1
  show W p G.1 e R s m args below meth c H locs cells slots Zs (F0 m pc ls (.int j :: .ref (ga G (1000000 + (100 + i))) :: st.map (cv G)))
  rw [ga_sp]
  exact va_tb hC.1 hC.2.1 (hS7.1 i hi).2.2.2 hS (inb_in hj) rfl hd (k p e R s m args below meth c H locs cells slots KK Zs ls hC hH hS hl hc1 hc2 hk1 hk2 hE)
theorem A_gstC {idx : Nat} (hd : decode q.2.2.1 pc = .ok (.getstatic idx, 3)) (hw : Cond.fieldLink q.1 idx "java/lang/String" "COMPACT_STRINGS" "Z" ∈ tblG) (k : Att G T q d (pc + 3) L (.int 1 :: st) h bc bs Q) : Att G T q d pc L st h bc bs Q := by
  intro p e R s m args below meth c H locs cells slots KK Zs ls hC hH hS hl hc1 hc2 hk1 hk2 hE
  exact va_gets hC.1 hC.2.1 hC.2.2.2.2.2.2.2.1.2.2.2.2.2.2.1 hS hC.2.2.2.1 (hC.2.2.2.2.2.1 _ hw) (fun _ z => z) hd (k p e R s m args below meth c H locs cells slots KK Zs ls hC hH hS hl hc1 hc2 hk1 hk2 hE)
theorem A_gstF {idx : Nat} (hd : decode q.2.2.1 pc = .ok (.getstatic idx, 3)) (hw : Cond.fieldLink q.1 idx "jdk/internal/util/Preconditions" "SIOOBE_FORMATTER" "Ljava/util/function/BiFunction;" ∈ tblG) (k : ∀ w : Value, (w = .null ∨ w = .ref (1000000 + 300)) → Att G T q d (pc + 3) L (w :: st) h bc bs Q) : Att G T q d pc L st h bc bs Q := by
  intro p e R s m args below meth c H locs cells slots KK Zs ls hC hH hS hl hc1 hc2 hk1 hk2 hE
  rcases hC.2.2.2.2.2.2.2.1.2.2.2.2.2.2.2.2 with hz | hz
  · exact va_gets hC.1 hC.2.1 hz hS hC.2.2.2.1 (hC.2.2.2.2.2.1 _ hw) (fun _ z => z) hd (k .null (Or.inl rfl) p e R s m args below meth c H locs cells slots KK Zs ls hC hH hS hl hc1 hc2 hk1 hk2 hE)
  · refine va_gets hC.1 hC.2.1 hz hS hC.2.2.2.1 (hC.2.2.2.2.2.1 _ hw) (fun _ z => z) hd ?_
    have := k _ (Or.inr rfl) p e R s m args below meth c H locs cells slots KK Zs ls hC hH hS hl hc1 hc2 hk1 hk2 hE
    rw [← ga_sp]
    exact this
theorem A_scrN (hd : decode q.2.2.1 pc = .ok (.arraylength, 1)) (k : Att G T q d (pc + 1) L (.int (Int32.ofNat G.2.2.2.2.2.1) :: st) h bc bs Q) : Att G T q d pc L (.ref (1000000 + 200) :: st) h bc bs Q := by
  intro p e R s m args below meth c H locs cells slots KK Zs ls hC hH hS hl hc1 hc2 hk1 hk2 hE
  have hS7 := hC.2.2.2.2.2.2.2.1.2.2.2.2.2.2.2.1
  show W p G.1 e R s m args below meth c H locs cells slots Zs (F0 m pc ls (.ref (ga G (1000000 + 200)) :: st.map (cv G)))
  rw [ga_sp]
  exact va_tlen hC.1 hC.2.1 hS7 hS rfl hd (k p e R s m args below meth c H locs cells slots KK Zs ls hC hH hS hl hc1 hc2 hk1 hk2 hE)
theorem A_scrI {j : Int32} (hd : decode q.2.2.1 pc = .ok (.iaload, 1)) (hj : inb j G.2.2.2.2.2.1) (k : Att G T q d (pc + 1) L (.int (G.2.2.2.2.2.2 j.toNatClampNeg) :: st) h bc bs Q) : Att G T q d pc L (.int j :: .ref (1000000 + 200) :: st) h bc bs Q := by
  intro p e R s m args below meth c H locs cells slots KK Zs ls hC hH hS hl hc1 hc2 hk1 hk2 hE
  have hS7 := hC.2.2.2.2.2.2.2.1.2.2.2.2.2.2.2.1
  show W p G.1 e R s m args below meth c H locs cells slots Zs (F0 m pc ls (.int j :: .ref (ga G (1000000 + 200)) :: st.map (cv G)))
  rw [ga_sp]
  exact va_ti hC.1 hC.2.1 hS7 hS (inb_in hj) rfl hd (k p e R s m args below meth c H locs cells slots KK Zs ls hC hH hS hl hc1 hc2 hk1 hk2 hE)
/-- which of the houses' classes is which: (class, asked class) -/
def subB (c t : Nat) : Bool := decide ((c, t) ∈ [(3, 3), (0, 3), (1, 1), (9, 1), (0, 0), (9, 9), (5, 5)])
def instOK (c t : Nat) : Prop := ∃ (C D : String) (F : u_T) (N : Nat) (F2 : u_T) (N2 : Nat), clL[c]? = some (C, F, N) ∧ c < 100 ∧ clL[t]? = some (D, F2, N2) ∧ (if subB c t then (C = D ∨ (C, D) ∈ castL) else (C, D) ∈ ncL)
theorem A_inst {a idx c t : Nat} {D : String} (hd : decode q.2.2.1 pc = .ok (.instanceof idx, 3)) (hD : (clL[t]?).map (·.1) = some D) (hw : Cond.classLink q.1 idx D ∈ tblG) (ha : vA T h a) (hs : (rS T h a).1 = c) (hok : instOK c t) (kk : Att G T q d (pc + 3) L (.int (if subB c t then 1 else 0) :: st) h bc bs Q) : Att G T q d pc L (.ref a :: st) h bc bs Q := by
  intro p e R s m args below meth cc H locs cells slots KK Zs ls hC hH hS hl hc1 hc2 hk1 hk2 hE
  have hvA : a < nC T h := ha
  have hga : ga G a = gb G + a := ga_lt (by omega)
  show W p G.1 e R s m args below meth cc H locs cells slots Zs (F0 m pc ls (.ref (ga G a) :: st.map (cv G)))
  rw [hga]
  obtain ⟨C, D', F, N, F2, N2, hcl, hc100, hcl2, hsub⟩ := hok
  have hDD : D' = D := by rw [hcl2] at hD; exact Option.some.inj hD
  subst hDD
  have hP := hH.P ha
  rw [ent_o hs hc100] at hP
  have hr := va_recv hC.2.2.2.2.2.2.1 hP (ci := c) (q0 := 0) hcl rfl
  have hlk := hC.2.2.2.2.2.1 _ hw
  have go := kk p e R s m args below meth cc H locs cells slots KK Zs ls hC hH hS hl hc1 hc2 hk1 hk2 hE
  cases hb : subB c t with
  | true =>
    rw [hb] at go hsub
    simp only [if_pos] at go hsub
    rcases hsub with rfl | hsub
    · exact va_instS hC.1 hC.2.1 hC.2.2.2.1 hlk (hC.2.2.2.2.2.2.1.1 c _ hcl).2 hr hd go
    · exact va_instY hC.1 hC.2.1 hC.2.2.2.1 hlk (hC.2.2.2.2.2.2.2.1.2.1 _ hsub) hr hd go
  | false =>
    rw [hb] at go hsub
    simp only [Bool.false_eq_true, if_false] at go hsub
    exact va_instNo hC.1 hC.2.1 hC.2.2.2.1 hlk (hC.2.2.2.2.2.2.2.1.2.2.1 _ hsub) hr hd go
theorem A_objI {a idx : Nat} (hd : decode q.2.2.1 pc = .ok (.invokespecial idx, 3)) (h1 : Cond.methodLink q.1 idx Lib.objectInit ∈ tblG) (h2 : Cond.instanceMethod Lib.objectInit ∈ tblG) (h3 : Cond.code Lib.objectInit ⟨#[0xb1]⟩ 1 none ∈ tblG) (hsum : (st.map fun v => v.category).sum ≤ 8) (kk : Att G T q (d + 1) (pc + 3) L st h bc bs Q) : Att G T q (d + 1) pc L (.ref a :: st) h bc bs Q := by
  intro p e R s m args below meth cc H locs cells slots KK Zs ls hC hH hS hl hc1 hc2 hk1 hk2 hE
  have hts := hC.2.2.2.2.2.1
  have hd1 := hC.2.2.2.2.2.2.2.2.2.1
  have hd2 := hC.2.2.2.2.2.2.2.2.2.2
  refine W.objInit hC.1 hC.2.1 hC.2.2.2.1 (hts _ h1) (hts _ h2) (hts _ h3) rfl (by rw [hC.2.2.1]; exact hl.1) rfl hd (by omega) (by rw [sum_cv]; show 2 * 0 + _ + 12 ≤ _; omega) ?_
  exact kk p e R s m args below meth cc H locs cells slots KK Zs ls hC hH hS hl hc1 hc2 hk1 hk2 hE
end HOPS4
