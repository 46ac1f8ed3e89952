/-! fields and arrays -/
theorem vpV_entO {G : GG} {T : TT} {h : AH} {a c k : Nat} (hk : k < nfD c) : vp_V (entO G T h a c) k = cv G (fV T h a (fty c k) k) := by
  unfold vp_V entO
  rw [List.getD_eq_getElem?_getD, List.getElem?_map, List.getElem?_range hk]
  rfl
theorem entO_at {G : GG} {T : TT} {h : AH} {a c k : Nat} (hk : k < nfD c) : (entO G T h a c)[k]? = some (cv G (fV T h a (fty c k) k)) := by
  unfold entO
  rw [List.getElem?_map, List.getElem?_range hk]
  rfl
theorem ga_lt {G : GG} {a : Nat} (h : a < 1000000) : ga G a = gb G + a := by unfold ga; rw [if_pos h]
/-- a class's table and its words -/
def CLK (c : Nat) (C : String) (F : u_T) : Prop := clL[c]? = some (C, F, nfD c) ∧ c < 100 ∧ (∀ w ∈ u_ws C F (nfD c), w ∈ tblG) ∧ (∃ ty0 : Nat → FieldType, ∀ k, k < nfD c → parseFieldDescriptor (F k).2.2.1 = some (ty0 k)) ∧ ∀ a, a < nfD c → ∀ b, b < nfD c → a ≠ b → (F a).2.1 ≠ (F b).2.1
/-- a field's place in the pool of the class own names field k of class c -/
def FOK (own : String) (idx c k : Nat) : Prop := ∃ (C : String) (F : u_T) (ref : String), CLK c C F ∧ k < nfD c ∧ Cond.fieldLink own idx ref (F k).2.1 (F k).2.2.1 ∈ tblG ∧ (ref = (F k).1 ∨ Cond.sameField ref (F k).1 (F k).2.1 (F k).2.2.1 ∈ tblG)
/-- its type, whether it is final, its declarer -/
def FTY (c k : Nat) (ty : FieldType) (fin : Bool) (dec : String) : Prop := ∃ (C : String) (F : u_T) (N : Nat), clL[c]? = some (C, F, N) ∧ parseFieldDescriptor (F k).2.2.1 = some ty ∧ (F k).2.2.2 = fin ∧ (F k).1 = dec
theorem FOK.same {own : String} {idx c k : Nat} {s : State} {args : Array Value} {ref : String} {F : u_T} (hts : ∀ w ∈ tblG, w.before args s = true) (h : ref = (F k).1 ∨ Cond.sameField ref (F k).1 (F k).2.1 (F k).2.2.1 ∈ tblG) :
    ∀ x, s.fieldFound? (F k).1 (F k).2.1 (F k).2.2.1 = some x → s.fieldFound? ref (F k).2.1 (F k).2.2.1 = some x := by
  intro x hx
  rcases h with h | h
  · rw [h]; exact hx
  · exact u_same (hts _ h) x hx
section HOPS
variable {G : GG} {T : TT} {q : MM} {d pc : Nat} {L : LL} {st : List Value} {h : AH} {bc bs : Nat} {Q : QQ}
theorem A_get {a idx c k : Nat} {v : Value} (hd : decode q.2.2.1 pc = .ok (.getfield idx, 3)) (hF : FOK q.1 idx c k) (ha : vA T h a) (hs : (rS T h a).1 = c) (hv : fV T h a (fty c k) k = v) (kk : Att G T q d (pc + 3) L (v :: st) h bc bs Q) : Att G T q d pc L (.ref a :: st) h bc bs Q := by
  intro p e R s m args below meth cc H locs cells slots KK Zs ls hC hH hS hl hc1 hc2 hk1 hk2 hE
  obtain ⟨C, F, ref, ⟨hcl, hc100, hin, -, -⟩, hk, hlk, hsm⟩ := hF
  have hvA : a < nC T h := ha
  have hga : ga G a = gb G + a := ga_lt (by omega)
  show W p G.1 e R s m args below meth cc H locs cells slots Zs (F0 m pc ls (.ref (ga G a) :: st.map (cv G)))
  rw [hga]
  have hP := hH.P ha
  rw [ent_o hs hc100] at hP
  refine va_get hC.1 hC.2.1 hC.2.2.2.2.2.1 hin hC.2.2.2.1 hC.2.2.2.2.2.2.1 hP 0 rfl hcl k hk (hC.2.2.2.2.2.1 _ hlk) (FOK.same (own := C) (idx := idx) (c := c) hC.2.2.2.2.2.1 hsm) (v := cv G v) ?_ hd (kk p e R s m args below meth cc H locs cells slots KK Zs ls hC hH hS hl hc1 hc2 hk1 hk2 hE)
  rw [entO_at hk, hv]
/-- a store into a field, final or not, seen from the abstract heap -/
theorem put_core {a idx c k : Nat} {v : Value} {ty : FieldType} {fin : Bool} {h' : AH} (hd : decode q.2.2.1 pc = .ok (.putfield idx, 3)) (hF : FOK q.1 idx c k) (hT : FTY c k ty fin q.1 ∨ (fin = false ∧ ∃ dec, FTY c k ty fin dec)) (hini : fin = true → q.2.1.name = "<init>") (ha : vA T h a) (hs : (rS T h a).1 = c)
    (hn : narrow ty (cv G v) = cv G v) (hfit : fits ty (cv G v) = true) (hnc : nC T h' = nC T h) (hsh : ∀ j, rS T h' j = rS T h j) (hoth : ∀ j, j ≠ a → ent G T h' j = ent G T h j) (hnew : ∀ j, j < nfD c → fV T h' a (fty c j) j = if j = k then v else fV T h a (fty c j) j)
    (kk : Att G T q d (pc + 3) L st h' bc bs Q) : Att G T q d pc L (v :: .ref a :: st) h bc bs Q := by
  intro p e R s m args below meth cc H locs cells slots KK Zs ls hC hH hS hl hc1 hc2 hk1 hk2 hE
  obtain ⟨C, F, ref, ⟨hcl, hc100, hin, ⟨ty0, hty⟩, hnm⟩, hk, hlk, hsm⟩ := hF
  have hvA : a < nC T h := ha
  have hga : ga G a = gb G + a := ga_lt (by omega)
  show W p G.1 e R s m args below meth cc H locs cells slots Zs (F0 m pc ls (cv G v :: .ref (ga G a) :: st.map (cv G)))
  rw [hga]
  have hts := hC.2.2.2.2.2.1
  have hown := hC.2.2.2.1
  have hK := hC.2.2.2.2.2.2.1
  have hap := va_apart (own := q.1) hts hin ty0 hty hnm hK hcl
  have hat := hH.2 a ha
  rw [ent_o hs hc100] at hat
  obtain ⟨r, h1, cell, q1, q2, q3, q4⟩ := hat
  have hr : r = (C, F, nfD c) := Option.some.inj (h1.symm.trans hcl)
  subst hr
  obtain ⟨hSl, hfc, kC, hkC, hkind⟩ := hK.1 c _ hcl
  obtain ⟨cf, kf, fi, f, hi, hsl⟩ := hSl k hk
  have hst := (u_facts hfc hkC (u_lays hts hin hk) hi).1
  have hlay := hts _ (hin _ (u_in_lay hk))
  have same := FOK.same (own := C) (idx := idx) (c := c) hts hsm
  have dT : ∃ dec, FTY c k ty fin dec := by
    rcases hT with h | ⟨-, h⟩
    · exact ⟨_, h⟩
    · exact h
  have hd2 : parseFieldDescriptor (F k).2.2.1 = some ty ∧ (F k).2.2.2 = fin := by
    obtain ⟨dec, C2, F2, N2, e1, e2, e3, -⟩ := dT
    have : (C2, F2, N2) = (C, F, nfD c) := Option.some.inj (e1.symm.trans hcl)
    cases this
    exact ⟨e2, e3⟩
  have fit := u_fits hfc hkC hkind (u_lays hts hin hk) hi hd2.1 hn hfit
  have go : ∀ H' : Heap, H'[gb G + a]? = some (cell.setSlot f.slot (cv G v)) → H'.size = H.size → (∀ x : Nat, x ≠ gb G + a → H'[x]? = H[x]?) →
      W p G.1 e R s m args below meth cc H' (locs ++ [⟨gb G + a, f.slot⟩]) cells slots Zs { (F0 m pc ls (cv G v :: .ref (gb G + a) :: st.map (cv G))) with pc := pc + 3, stack := st.map (cv G) } := by
    intro H' e1 e2 e3
    rw [hsl] at e1
    refine kk p e R s m args below meth cc H' _ cells slots KK Zs ls hC (hH.upd hnc hoth e2 e3 ?_) (hS.put e2 e3 (Nat.le_add_right _ _)) hl hc1 hc2 (by rw [hnc]; exact hk1) hk2 hE
    rw [ent_o (by rw [hsh]; exact hs) hc100]
    refine ⟨_, hcl, t_OB.to (V := updV (vp_V (entO G T h a c)) k (cv G v)) ⟨_, e1, q2, q3, t_set q4 hap hk (cv G v)⟩ (fun j hj => ?_)⟩
    rw [vpV_entO hj, hnew j hj]
    by_cases hjk : j = k
    · rw [if_pos hjk]; simp [updV, hjk]
    · rw [if_neg hjk]; simp only [updV, if_neg hjk]; exact vpV_entO hj
  cases fin with
  | false =>
    have hl2 : (Cond.lays C (F k).1 (F k).2.1 (F k).2.2.1).before args s = true := by
      unfold u_lay at hlay
      rwa [if_neg (by rw [hd2.2]; decide)] at hlay
    have h6 := u_store hfc hkC hkind hl2 hi hd2.1 hn hfit
    exact W.putK hC.1 hC.2.1 (f := f) ⟨hown, hts _ hlk, ⟨_, _, _, same _ hi⟩, hst⟩ (by rw [q2]; exact h6) q1 q3 (by rw [hsl]; exact k2_hasslot (q4 k hk)) rfl rfl hd (fun H' e1 e2 e3 => go H' e1 e2 e3)
  | true =>
    have hl2 : (Cond.laysFinal C (F k).1 (F k).2.1 (F k).2.2.1).before args s = true := by
      unfold u_lay at hlay
      rwa [if_pos hd2.2] at hlay
    have hdecl : (F k).1 = q.1 := by
      rcases hT with ⟨C2, F2, N2, e1, -, -, e4⟩ | ⟨e, -⟩
      · have : (C2, F2, N2) = (C, F, nfD c) := Option.some.inj (e1.symm.trans hcl)
        cases this
        exact e4
      · cases e
    have hcf : m.cls = cf := by
      obtain ⟨_, _, c', _, _, _, -, -, hf', -, -, -, hown2, -⟩ := Cond.laysFinal_spec hl2
      have e1 : c' = cf := by have := hi.symm.trans hf'; simp at this; exact this.1.symm
      rw [hdecl] at hown2
      rw [← e1]; exact Option.some.inj (hown.symm.trans hown2)
    exact W.putFinK hC.1 hC.2.1 hown (hts _ hlk) (same _ hi) hst hcf (by rw [hC.2.2.2.2.1]; exact hini rfl) (by rw [q2]; exact fit) q1 q3 (by rw [hsl]; exact k2_hasslot (q4 k hk)) rfl rfl hd (fun H' e1 e2 e3 => go H' e1 e2 e3)
end HOPS
