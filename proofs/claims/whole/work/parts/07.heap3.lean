/-! new cells, references stored, strings, the script, copies -/
theorem rR_wN_ne {T : TT} {h : AH} {s : Nat × Nat} {j : Nat} (hj : j ≠ nC T h) (i : Nat) : rR T (wN T h s) j i = rR T h j i := by
  unfold rR wN
  cases T.1 j i with
  | some v => rfl
  | none => simp [hj]
theorem rR_wN {T : TT} {h : AH} {s : Nat × Nat} (hT : ∀ k, T.1 (nC T h) k = none) (i : Nat) : rR T (wN T h s) (nC T h) i = 0 := by
  unfold rR wN
  rw [hT]
  simp
theorem rS_wN_ne {T : TT} {h : AH} {s : Nat × Nat} {j : Nat} (hj : j ≠ nC T h) : rS T (wN T h s) j = rS T h j := by
  unfold rS wN
  cases T.2.1 j with
  | some v => rfl
  | none => simp [hj]
theorem rS_wN {T : TT} {h : AH} {s : Nat × Nat} (hT : T.2.1 (nC T h) = none) : rS T (wN T h s) (nC T h) = s := by
  unfold rS wN
  rw [hT]
  simp
theorem nC_wN {T : TT} {h : AH} {s : Nat × Nat} : nC T (wN T h s) = nC T h + 1 := by
  show T.2.2 + (h.2.2.2.2 + 1) = T.2.2 + h.2.2.2.2 + 1
  omega
theorem ent_wN_lt {G : GG} {T : TT} {h : AH} {s : Nat × Nat} {j : Nat} (hj : j < nC T h) : ent G T (wN T h s) j = ent G T h j := by
  have : j ≠ nC T h := by omega
  exact ent_congr (by simp [wN, this]) (by simp [wN, this]) (rR_wN_ne this) (rS_wN_ne this)
/-- the next address is free of the fixed part -/
def frN (T : TT) (h : AH) : Prop := T.2.1 (nC T h) = none ∧ ∀ k, T.1 (nC T h) k = none
section HOPS3
variable {G : GG} {T : TT} {q : MM} {d pc : Nat} {L : LL} {st : List Value} {h : AH} {bc bs : Nat} {Q : QQ}
theorem A_new {idx c : Nat} {C : String} {F : u_T} (ty : Nat → FieldType) (hd : decode q.2.2.1 pc = .ok (.new idx, 3)) (hF : CLK c C F) (hty : ∀ k, k < nfD c → parseFieldDescriptor (F k).2.2.1 = some (ty k)) (hz : ∀ k, k < nfD c → defaultValue (ty k) = (match fty c k with | 0 => Value.int 0 | 1 => .null | _ => .long 0)) (hcl : Cond.classLink q.1 idx C ∈ tblG) (hins : Cond.instantiable C (nfD c) ∈ tblG) (hini : Cond.initialized C ∈ tblG) (hfr : frN T h)
    (kk : Att G T q d (pc + 3) L (.ref (nC T h) :: st) (wN T h (c, nfD c)) bc bs Q) : Att G T q d pc L st h (bc + 1) (bs + nfD c) Q := by
  intro p e R s m args below meth cc H locs cells slots KK Zs ls hC hH hS hl hc1 hc2 hk1 hk2 hE
  obtain ⟨hcl0, hc100, hin, -, -⟩ := hF
  have hts := hC.2.2.2.2.2.1
  have hKn := hC.2.2.2.2.2.2.1.1 c _ hcl0
  have hga : ga G (nC T h) = gb G + nC T h := ga_lt (by omega)
  have hA : ∀ a, s.heap.size ≤ a → fr G a := fun a h9 => Nat.le_trans hC.2.2.2.2.2.2.2.2.1 h9
  refine W.newcK hC.1 hC.2.1 hC.2.2.2.1 (hts _ hcl) (hts _ hins) (hts _ hini) rfl hd (by omega) (by omega) hKn.2.1 hH.1 fun H1 kC hkC e1 z1 o1 => ?_
  have hnew := kk p e R s m args below meth cc H1 locs (cells + 1) (slots + nfD c) KK Zs ls hC
  rw [← hga]
  refine hnew (hH.push nC_wN (fun j hj => ent_wN_lt hj) (by rw [z1, hH.1]) (fun a ha => o1 a (by rw [← hH.1]; exact ha)) ?_) ⟨by rw [z1, ← hH.1]; exact Nat.le_succ_of_le hS.1, fun a h1 h2 => (o1 a (by rw [← hH.1]; exact Nat.lt_of_lt_of_le h1 hS.1)).trans (hS.2.1 a h1 h2), hS.2.2⟩ hl (by omega) (by omega) (by rw [nC_wN]; omega) hk2 hE
  rw [ent_o (c := c) (by rw [rS_wN hfr.1]) hc100]
  refine ⟨_, hcl0, (u_born ty hts hin hKn hkC e1 hty).to (fun k hk => ?_)⟩
  rw [vpV_entO hk, hz k hk]
  unfold fV
  rw [rR_wN hfr.2]
  cases fty c k with
  | zero => simp [wN, cv]
  | succ t => cases t with
    | zero => rfl
    | succ t => simp [wN, cv]
theorem A_newa {n : Int32} {N : Nat} (hd : decode q.2.2.1 pc = .ok (.newarray .int, 2)) (hN : n = Int32.ofNat N) (hN2 : N < 100000) (hw : Cond.arrayClass .int ∈ tblG) (hfr : frN T h) (kk : Att G T q d (pc + 2) L (.ref (nC T h) :: st) (wN T h (100, N)) bc bs Q) : Att G T q d pc L (.int n :: st) h (bc + 1) (bs + N) Q := by
  intro p e R s m args below meth cc H locs cells slots KK Zs ls hC hH hS hl hc1 hc2 hk1 hk2 hE
  have hts := hC.2.2.2.2.2.1
  have hga : ga G (nC T h) = gb G + nC T h := ga_lt (by omega)
  have hn0 : ¬ n < 0 := by rw [hN]; exact nI_pos (by omega)
  have hnN : n.toNatClampNeg = N := by rw [hN]; exact nI_clamp (by omega)
  refine va_newaK (atype := .int) hC.1 hC.2.1 (hts _ hw) rfl hd rfl hn0 hnN (by show N * 4 ≤ _; omega) (by omega) (by omega) hH.1 fun H1 cA e1 z1 o1 hAr hNm => ?_
  have hcA : cA = G.2.2.1 0 := by
    have := (hC.2.2.2.2.2.2.1.2 0 _ rfl).2
    exact Option.some.inj (hNm.symm.trans this)
  subst hcA
  rw [← hga]
  refine kk p e R s m args below meth cc H1 locs (cells + 1) (slots + N) KK Zs ls hC (hH.push nC_wN (fun j hj => ent_wN_lt hj) (by rw [z1, hH.1]) (fun a ha => o1 a (by rw [← hH.1]; exact ha)) ?_) ⟨by rw [z1, ← hH.1]; exact Nat.le_succ_of_le hS.1, fun a h1 h2 => (o1 a (by rw [← hH.1]; exact Nat.lt_of_lt_of_le h1 hS.1)).trans (hS.2.1 a h1 h2), hS.2.2⟩ hl (by omega) (by omega) (by rw [nC_wN]; omega) hk2 hE
  rw [ent_i (n := N) (by rw [rS_wN hfr.1])]
  show H1[gb G + nC T h]? = some (vp_cell _ _)
  rw [e1, vp_cell_i]
  congr 2
  funext j
  unfold entI
  simp [wN]
  rfl
theorem A_newq {n : Int32} {N t idx : Nat} {C : String} (hd : decode q.2.2.1 pc = .ok (.anewarray idx, 3)) (ht : t < 3) (hC9 : (tyG G)[t + 1]? = some (G.2.2.1 (t + 1), .object C)) (hcl : Cond.classLink q.1 idx C ∈ tblG) (hN : n = Int32.ofNat N) (hN2 : N < 100000) (hfr : frN T h) (kk : Att G T q d (pc + 3) L (.ref (nC T h) :: st) (wN T h (101 + t, N)) bc bs Q) : Att G T q d pc L (.int n :: st) h (bc + 1) (bs + N) Q := by
  intro p e R s m args below meth cc H locs cells slots KK Zs ls hC hH hS hl hc1 hc2 hk1 hk2 hE
  have hts := hC.2.2.2.2.2.1
  have hga : ga G (nC T h) = gb G + nC T h := ga_lt (by omega)
  have hn0 : ¬ n < 0 := by rw [hN]; exact nI_pos (by omega)
  have hnN : n.toNatClampNeg = N := by rw [hN]; exact nI_clamp (by omega)
  have hover : (Cond.arrayOver (.object C)).before args s = true := by
    obtain ⟨-, -, -, ⟨h4, h5, h6⟩, -⟩ := hC.2.2.2.2.2.2.2.1
    match t, ht, hC9 with
    | 0, _, hC9 => cases hC9; exact va_AO.use h4
    | 1, _, hC9 => cases hC9; exact va_AO.use h5
    | 2, _, hC9 => cases hC9; exact va_AO.use h6
  refine W.anew hC.1 hC.2.1 hC.2.2.2.1 (hts _ hcl) hover rfl hd rfl hn0 (by rw [hnN]; omega) (by omega) (by rw [hnN]; omega) fun cA kA comp f1 f2 f3 f4 => ?_
  have hcA : cA = G.2.2.1 (t + 1) := by
    obtain ⟨-, _, _, -, -, -, h9⟩ := hC.2.2.2.2.2.2.1.2 (t + 1) _ hC9
    exact Option.some.inj (f1.symm.trans h9)
  subst hcA
  rw [hnN]
  generalize hH1 : H.push ({ cls := G.2.2.1 (t + 1), slots := Array.replicate N .null, vm := .none } : Cell) = H1
  have z1 : H1.size = H.size + 1 := by rw [← hH1, Array.size_push]
  have e1 : H1[H.size]? = some (arrV (G.2.2.1 (t + 1)) N (fun _ => .null)) := by rw [← hH1, Array.getElem?_push_size, ← arrV_new]
  have o1 : ∀ a : Nat, a < H.size → H1[a]? = H[a]? := fun a ha => by rw [← hH1, Array.getElem?_push, if_neg (Nat.ne_of_lt ha)]
  rw [hH.1, ← hga]
  refine kk p e R s m args below meth cc H1 locs (cells + 1) (slots + N) KK Zs ls hC (hH.push nC_wN (fun j hj => ent_wN_lt hj) z1 o1 ?_) ⟨by rw [z1]; exact Nat.le_succ_of_le hS.1, fun a h1 h2 => (o1 a (Nat.lt_of_lt_of_le h1 hS.1)).trans (hS.2.1 a h1 h2), hS.2.2⟩ hl (by omega) (by omega) (by rw [nC_wN]; omega) hk2 hE
  rw [ent_r (t := t) (n := N) (by rw [rS_wN hfr.1])]
  show H1[gb G + nC T h]? = some (vp_cell _ _)
  rw [← hH.1, e1, vp_cell_q]
  congr 2
  funext j
  unfold entR
  rw [rR_wN hfr.2]
  rfl
/-- which class's objects may lie in an array of the t-th kind -/
def asgOK (c t : Nat) : Prop := ∃ (C D : String) (F : u_T) (N : Nat), clL[c]? = some (C, F, N) ∧ ([R_House, R_Law, R_Sheet])[t]? = some D ∧ (C = D ∨ (C, D) ∈ castL)
theorem A_aast {a t n b c : Nat} {i : Int32} (hd : decode q.2.2.1 pc = .ok (.aastore, 1)) (ht : t < 3) (ha : vA T h a) (hs : rS T h a = (101 + t, n)) (hi : inb i n) (hb : vA T h b) (hsb : (rS T h b).1 = c) (hc100 : c < 100) (hok : asgOK c t) (hdyn : T.1 a i.toNatClampNeg = none) (kk : Att G T q d (pc + 1) L st (wR h a i.toNatClampNeg (b + 1)) bc bs Q) : Att G T q d pc L (.ref b :: .int i :: .ref a :: st) h bc bs Q := by
  intro p e R s m args below meth cc H locs cells slots KK Zs ls hC hH hS hl hc1 hc2 hk1 hk2 hE
  have hvA : a < nC T h := ha
  have hvB : b < nC T h := hb
  have hga : ga G a = gb G + a := ga_lt (by omega)
  have hgb : ga G b = gb G + b := ga_lt (by omega)
  show W p G.1 e R s m args below meth cc H locs cells slots Zs (F0 m pc ls (.ref (ga G b) :: .int i :: .ref (ga G a) :: st.map (cv G)))
  rw [hga, hgb]
  have hat := hH.2 a ha
  rw [ent_r hs] at hat
  have hbt := hH.2 b hb
  rw [ent_o hsb hc100] at hbt
  obtain ⟨C, D, F, N, hcl, hD, hcd⟩ := hok
  obtain ⟨r', hr', cellV, g1, g2, g3, -⟩ := hbt
  have hcls := (hC.2.2.2.2.2.2.1.1 c _ hcl).2
  have hty : (tyG G)[t + 1]? = some (G.2.2.1 (t + 1), .object D) := by
    match t, ht, hD with
    | 0, _, hD => cases hD; rfl
    | 1, _, hD => cases hD; rfl
    | 2, _, hD => cases hD; rfl
  obtain ⟨kA, comp, k1, k2, k3, -⟩ := (hC.2.2.2.2.2.2.1.2 (t + 1) _ hty).2
  obtain ⟨kC, hkC, hkind⟩ := hcls.2
  have hasg : s.vm.assignable (G.2.1.1 c) comp = true ∧ ∃ kcomp, s.vm.classes[comp]? = some kcomp := by
    rcases hcd with rfl | hcd
    · have : comp = G.2.1.1 c := Option.some.inj (k3.symm.trans hcls.1)
      subst this
      exact ⟨va_assign hcls, kC, hkC⟩
    · have hw := hC.2.2.2.2.2.2.2.1.2.1 _ hcd
      obtain ⟨c0, t0, f1, f2, f3⟩ := Cond.castable_spec (va_Nw.use (A := args) rfl hw)
      have e1 : c0 = G.2.1.1 c := Option.some.inj (f1.symm.trans hcls.1)
      have e2 : t0 = comp := Option.some.inj (f2.symm.trans k3)
      subst e1; subst e2
      obtain ⟨ks, hks, -⟩ := Vm.findClass_spec f2
      exact ⟨f3, ks, hks⟩
  obtain ⟨hasg, kcomp, hkcomp⟩ := hasg
  have hlt : i.toNatClampNeg < n := Nat.not_le.mp fun z => inb_in hi (Or.inr z)
  refine W.aast hC.1 hC.2.1 hat (fun z h9 => by cases h9) (fun h9 => by cases h9) k1 k2 rfl hkcomp ⟨fun z => inb_in hi (Or.inl z), by show _ < (arrV _ _ _).slots.size; rw [arrV_size]; exact hlt⟩ g1 (fun z h9 => by rw [g3] at h9; cases h9) (by rw [g2]; exact hkC) (by rw [g2]; exact hasg) rfl rfl hd fun H1 e1 z oq => ?_
  refine kk p e R s m args below meth cc H1 _ cells slots KK Zs ls hC (hH.upd rfl (fun j hj => ent_congr rfl rfl (rR_wR_ne hj) rfl) z oq ?_) (hS.put z oq (Nat.le_add_right _ _)) hl hc1 hc2 hk1 hk2 hE
  have hs' : rS T (wR h a i.toNatClampNeg (b + 1)) a = (101 + t, n) := hs
  rw [ent_r hs']
  show H1[gb G + a]? = some (vp_cell _ _)
  rw [e1, vp_cell_q, vp_cell_q, arrV_store]
  congr 2
  funext j
  unfold entR
  rw [oR_rf, rR_wR hdyn]
  by_cases hj : j = i.toNatClampNeg
  · simp only [updV, if_pos hj]
    show Value.ref (gb G + b) = .ref (ga G b)
    rw [hgb]
  · simp only [updV, if_neg hj, oR_rf]
end HOPS3
