theorem nthN_lt {b : Nat} : ∀ (l : List Nat) (k z : Nat), (∀ x ∈ l, x < b) → z < b → nthN l k z < b := by
  intro l
  induction l with
  | nil => intro k z _ hz; exact hz
  | cons a l ih =>
    intro k z h hz
    cases k with
    | zero => exact h a List.mem_cons_self
    | succ k => exact ih k z (fun x hx => h x (List.mem_cons_of_mem _ hx)) hz
theorem nfD_lt (c : Nat) : nfD c < 1000 := nthN_lt nfL c 0 (by decide) (by decide)
theorem ofN_inj {j k : Nat} (hj : j < 2147483648) (hk : k < 2147483648) : Int32.ofNat j = Int32.ofNat k ↔ j = k := nI_eq hj hk
theorem ofN_of {i : Int32} (h : 0 ≤ i.toInt) : Int32.ofNat i.toNatClampNeg = i := by
  have h1 : ¬ i < 0 := by rw [Int32.lt_iff_toInt_lt]; simpa using h
  obtain ⟨j, hj, rfl⟩ := nI_of h1
  rw [nI_clamp hj]; rfl
theorem clamp_lt {i : Int32} : i.toNatClampNeg < 2147483648 := by
  have h := Int32.toInt_lt i
  show i.toInt.toNat < _
  omega
abbrev inb (i : Int32) (n : Nat) : Prop := 0 ≤ i.toInt ∧ i.toInt < n
theorem inb_in {i : Int32} {n : Nat} (h : inb i n) : vp_in i n := vp_in_iff.mpr h
theorem ent_congr {G : GG} {T : TT} {h h' : AH} {j : Nat} (e1 : h'.1 j = h.1 j) (e2 : h'.2.1 j = h.2.1 j) (e3 : ∀ k, rR T h' j k = rR T h j k) (e4 : rS T h' j = rS T h j) : ent G T h' j = ent G T h j := by
  have f1 : ∀ c, entO G T h' j c = entO G T h j c := by
    intro c
    unfold entO
    refine List.map_congr_left (fun k _ => ?_)
    unfold fV
    rw [e1, e2, e3]
  have f2 : entI h' j = entI h j := by unfold entI; rw [e1]
  have f3 : entR G T h' j = entR G T h j := by unfold entR; funext k; rw [e3]
  unfold ent
  rw [e4, f1, f2, f3]
section HOPS2
variable {G : GG} {T : TT} {q : MM} {d pc : Nat} {L : LL} {st : List Value} {h : AH} {bc bs : Nat} {Q : QQ}
theorem A_putI {a idx c k : Nat} {x : Int32} {ty : FieldType} {fin : Bool} (hd : decode q.2.2.1 pc = .ok (.putfield idx, 3)) (hF : FOK q.1 idx c k) (hT : FTY c k ty fin q.1 ∨ (fin = false ∧ ∃ dec, FTY c k ty fin dec)) (hini : fin = true → q.2.1.name = "<init>") (h0 : fty c k = 0) (ha : vA T h a) (hs : (rS T h a).1 = c)
    (hn : narrow ty (.int x) = .int x) (hfit : fits ty (.int x) = true) (kk : Att G T q d (pc + 3) L st (wI h a (Int32.ofNat k) x) bc bs Q) : Att G T q d pc L (.int x :: .ref a :: st) h bc bs Q := by
  have hk : k < nfD c := by obtain ⟨C, F, ref, -, hk, -⟩ := hF; exact hk
  have hkk := nfD_lt c
  refine put_core (h' := wI h a (Int32.ofNat k) x) hd hF hT hini ha hs hn hfit rfl (fun _ => rfl) (fun j hj => ent_congr (by simp [wI, hj]) rfl (fun _ => rfl) rfl) (fun j hj => ?_) kk
  by_cases hjk : j = k
  · rw [if_pos hjk, hjk, h0]
    simp [fV, wI, up]
  · rw [if_neg hjk]
    unfold fV
    have : ¬ Int32.ofNat j = Int32.ofNat k := fun e => hjk ((ofN_inj (by omega) (by omega)).mp e)
    cases hf : fty c j with
    | zero => simp [wI, up, this]
    | succ t => cases t <;> rfl
theorem A_putL {a idx c k : Nat} {x : Int64} (hd : decode q.2.2.1 pc = .ok (.putfield idx, 3)) (hF : FOK q.1 idx c k) (hT : FTY c k .long false q.1) (h0 : fty c k = 2) (ha : vA T h a) (hs : (rS T h a).1 = c)
    (kk : Att G T q d (pc + 3) L st (wL h a (Int32.ofNat k) x) bc bs Q) : Att G T q d pc L (.long x :: .ref a :: st) h bc bs Q := by
  have hk : k < nfD c := by obtain ⟨C, F, ref, -, hk, -⟩ := hF; exact hk
  have hkk := nfD_lt c
  refine put_core (h' := wL h a (Int32.ofNat k) x) hd hF (Or.inl hT) (fun z => by cases z) ha hs rfl rfl rfl (fun _ => rfl) (fun j hj => ent_congr rfl (by simp [wL, hj]) (fun _ => rfl) rfl) (fun j hj => ?_) kk
  by_cases hjk : j = k
  · rw [if_pos hjk, hjk, h0]
    simp [fV, wL, upL]
  · rw [if_neg hjk]
    unfold fV
    have : ¬ Int32.ofNat j = Int32.ofNat k := fun e => hjk ((ofN_inj (by omega) (by omega)).mp e)
    cases hf : fty c j with
    | zero => rfl
    | succ t => cases t with
      | zero => rfl
      | succ t => simp [wL, upL, this]
theorem rR_wR_ne {h : AH} {a k x j : Nat} (hj : j ≠ a) (i : Nat) : rR T (wR h a k x) j i = rR T h j i := by
  unfold rR wR
  cases T.1 j i with
  | some v => rfl
  | none => simp [hj]
theorem rR_wR {h : AH} {a k x : Nat} (hdyn : T.1 a k = none) (i : Nat) : rR T (wR h a k x) a i = if i = k then x else rR T h a i := by
  unfold rR wR
  by_cases hik : i = k
  · rw [hik, hdyn]; simp [upR]
  · cases T.1 a i with
    | some v => simp [hik]
    | none => simp [upR, hik]
theorem A_putR {a idx c k b : Nat} {ty : FieldType} {fin : Bool} (hd : decode q.2.2.1 pc = .ok (.putfield idx, 3)) (hF : FOK q.1 idx c k) (hT : FTY c k ty fin q.1 ∨ (fin = false ∧ ∃ dec, FTY c k ty fin dec)) (hini : fin = true → q.2.1.name = "<init>") (h0 : fty c k = 1) (ha : vA T h a) (hs : (rS T h a).1 = c) (hdyn : T.1 a k = none)
    (hn : ∀ z, narrow ty (.ref z) = .ref z) (hfit : ∀ z, fits ty (.ref z) = true) (kk : Att G T q d (pc + 3) L st (wR h a k (b + 1)) bc bs Q) : Att G T q d pc L (.ref b :: .ref a :: st) h bc bs Q := by
  refine put_core (h' := wR h a k (b + 1)) hd hF hT hini ha hs (hn _) (hfit _) rfl (fun _ => rfl) (fun j hj => ent_congr rfl rfl (rR_wR_ne hj) rfl) (fun j hj => ?_) kk
  unfold fV
  by_cases hjk : j = k
  · rw [if_pos hjk, hjk, h0]
    simp only [rR_wR hdyn, if_pos]
    rfl
  · rw [if_neg hjk]
    cases hf : fty c j with
    | zero => rfl
    | succ t => cases t with
      | zero => simp only [rR_wR hdyn, if_neg hjk]
      | succ t => rfl
theorem A_iald {a n : Nat} {i : Int32} (hd : decode q.2.2.1 pc = .ok (.iaload, 1)) (ha : vA T h a) (hs : rS T h a = (100, n)) (hi : inb i n) (kk : Att G T q d (pc + 1) L (.int (h.1 a i) :: st) h bc bs Q) : Att G T q d pc L (.int i :: .ref a :: st) h bc bs Q := by
  intro p e R s m args below meth cc H locs cells slots KK Zs ls hC hH hS hl hc1 hc2 hk1 hk2 hE
  have hvA : a < nC T h := ha
  have hga : ga G a = gb G + a := ga_lt (by omega)
  show W p G.1 e R s m args below meth cc H locs cells slots Zs (F0 m pc ls (.int i :: .ref (ga G a) :: st.map (cv G)))
  rw [hga]
  have hP := hH.P ha
  rw [ent_i hs] at hP
  refine va_iald hC.1 hC.2.1 hC.2.2.2.2.2.2.1 hP 0 0 rfl rfl (inb_in hi) hd ?_
  have e1 : entI h a i.toNatClampNeg = h.1 a i := by
    unfold entI
    rw [if_pos clamp_lt, ofN_of hi.1]
  rw [e1]
  exact kk p e R s m args below meth cc H locs cells slots KK Zs ls hC hH hS hl hc1 hc2 hk1 hk2 hE
theorem A_iast {a n : Nat} {i x : Int32} (hd : decode q.2.2.1 pc = .ok (.iastore, 1)) (ha : vA T h a) (hs : rS T h a = (100, n)) (hi : inb i n) (kk : Att G T q d (pc + 1) L st (wI h a i x) bc bs Q) : Att G T q d pc L (.int x :: .int i :: .ref a :: st) h bc bs Q := by
  intro p e R s m args below meth cc H locs cells slots KK Zs ls hC hH hS hl hc1 hc2 hk1 hk2 hE
  have hvA : a < nC T h := ha
  have hga : ga G a = gb G + a := ga_lt (by omega)
  show W p G.1 e R s m args below meth cc H locs cells slots Zs (F0 m pc ls (.int x :: .int i :: .ref (ga G a) :: st.map (cv G)))
  rw [hga]
  have hat := hH.2 a ha
  rw [ent_i hs] at hat
  have hKt := (hC.2.2.2.2.2.2.1.2 0 _ rfl).1
  refine W.iast hC.1 hC.2.1 hat (hKt n (fun j => .int (entI h a j))) (fun z => by cases z) (by show ¬ (i < 0 ∨ (arrV _ _ _).slots.size ≤ _); rw [arrV_size]; exact inb_in hi) rfl rfl hd fun H1 e1 z oq => ?_
  refine kk p e R s m args below meth cc H1 _ cells slots KK Zs ls hC (hH.upd rfl (fun j hj => ent_congr (by simp [wI, hj]) rfl (fun _ => rfl) rfl) z oq ?_) (hS.put z oq (Nat.le_add_right _ _)) hl hc1 hc2 hk1 hk2 hE
  have hs' : rS T (wI h a i x) a = (100, n) := hs
  rw [ent_i hs']
  show H1[gb G + a]? = some (vp_cell _ _)
  rw [e1, vp_cell_i, vp_cell_i, arrV_store]
  congr 2
  funext j
  by_cases hj : j = i.toNatClampNeg
  · subst hj
    simp only [updV, if_pos]
    unfold entI
    rw [if_pos clamp_lt, ofN_of hi.1]
    simp [wI, up]
  · simp only [updV, if_neg hj]
    unfold entI
    by_cases hj2 : j < 2147483648
    · have : ¬ Int32.ofNat j = i := fun e9 => hj ((ofN_inj hj2 clamp_lt).mp (e9.trans (ofN_of hi.1).symm))
      rw [if_pos hj2, if_pos hj2]
      simp [wI, up, this]
    · rw [if_neg hj2, if_neg hj2]
theorem tyG_ref {t : Nat} (ht : t < 3) : ∃ C : String, (tyG G)[t + 1]? = some (G.2.2.1 (t + 1), .object C) := by
  match t, ht with
  | 0, _ => exact ⟨_, rfl⟩
  | 1, _ => exact ⟨_, rfl⟩
  | 2, _ => exact ⟨_, rfl⟩
theorem A_aald {a t n b : Nat} {i : Int32} (hd : decode q.2.2.1 pc = .ok (.aaload, 1)) (ht : t < 3) (ha : vA T h a) (hs : rS T h a = (101 + t, n)) (hi : inb i n) (hv : rR T h a i.toNatClampNeg = b + 1) (kk : Att G T q d (pc + 1) L (.ref b :: st) h bc bs Q) : Att G T q d pc L (.int i :: .ref a :: st) h bc bs Q := by
  intro p e R s m args below meth cc H locs cells slots KK Zs ls hC hH hS hl hc1 hc2 hk1 hk2 hE
  have hvA : a < nC T h := ha
  have hga : ga G a = gb G + a := ga_lt (by omega)
  show W p G.1 e R s m args below meth cc H locs cells slots Zs (F0 m pc ls (.int i :: .ref (ga G a) :: st.map (cv G)))
  rw [hga]
  have hP := hH.P ha
  rw [ent_r hs] at hP
  obtain ⟨C, hC9⟩ := tyG_ref (G := G) ht
  refine va_aldq hC.1 hC.2.1 hC.2.2.2.2.2.2.1 hP 0 (t + 1) rfl hC9 (inb_in hi) hd ?_
  have e1 : va_rf (entR G T h a i.toNatClampNeg) = cv G (.ref b) := by
    unfold entR
    rw [oR_rf, hv]
    rfl
  rw [e1]
  exact kk p e R s m args below meth cc H locs cells slots KK Zs ls hC hH hS hl hc1 hc2 hk1 hk2 hE
theorem A_alenI {a n : Nat} (hd : decode q.2.2.1 pc = .ok (.arraylength, 1)) (ha : vA T h a) (hs : rS T h a = (100, n)) (kk : Att G T q d (pc + 1) L (.int (Int32.ofNat n) :: st) h bc bs Q) : Att G T q d pc L (.ref a :: st) h bc bs Q := by
  intro p e R s m args below meth cc H locs cells slots KK Zs ls hC hH hS hl hc1 hc2 hk1 hk2 hE
  have hvA : a < nC T h := ha
  have hga : ga G a = gb G + a := ga_lt (by omega)
  show W p G.1 e R s m args below meth cc H locs cells slots Zs (F0 m pc ls (.ref (ga G a) :: st.map (cv G)))
  rw [hga]
  have hP := hH.P ha
  rw [ent_i hs] at hP
  exact va_alen hC.1 hC.2.1 hC.2.2.2.2.2.2.1 hP 0 0 rfl rfl rfl hd (kk p e R s m args below meth cc H locs cells slots KK Zs ls hC hH hS hl hc1 hc2 hk1 hk2 hE)
theorem A_alenR {a t n : Nat} (hd : decode q.2.2.1 pc = .ok (.arraylength, 1)) (ht : t < 3) (ha : vA T h a) (hs : rS T h a = (101 + t, n)) (kk : Att G T q d (pc + 1) L (.int (Int32.ofNat n) :: st) h bc bs Q) : Att G T q d pc L (.ref a :: st) h bc bs Q := by
  intro p e R s m args below meth cc H locs cells slots KK Zs ls hC hH hS hl hc1 hc2 hk1 hk2 hE
  have hvA : a < nC T h := ha
  have hga : ga G a = gb G + a := ga_lt (by omega)
  show W p G.1 e R s m args below meth cc H locs cells slots Zs (F0 m pc ls (.ref (ga G a) :: st.map (cv G)))
  rw [hga]
  have hP := hH.P ha
  rw [ent_r hs] at hP
  obtain ⟨C, hC9⟩ := tyG_ref (G := G) ht
  exact va_alen hC.1 hC.2.1 hC.2.2.2.2.2.2.1 hP 0 (t + 1) rfl hC9 rfl hd (kk p e R s m args below meth cc H locs cells slots KK Zs ls hC hH hS hl hc1 hc2 hk1 hk2 hE)
end HOPS2
