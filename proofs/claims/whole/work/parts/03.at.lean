/-! The abstract heap and the judgement At -/
abbrev MI : Type := Nat → Int32 → Int32
abbrev ML : Type := Nat → Int32 → Int64
abbrev MR : Type := Nat → Nat → Nat
abbrev MS : Type := Nat → Nat × Nat
/-- ints, longs, refs (0 null, k + 1 the cell k), shapes (a class, or 100 and more: an array; its length), how many dynamic cells -/
abbrev AH : Type := MI × ML × MR × MS × Nat
/-- the fixed part: refs, shapes, how many cells -/
abbrev TT : Type := (Nat → Nat → Option Nat) × (Nat → Option (Nat × Nat)) × Nat
def rR (T : TT) (h : AH) (a k : Nat) : Nat := match T.1 a k with
  | some v => v
  | none => h.2.2.1 a k
def rS (T : TT) (h : AH) (a : Nat) : Nat × Nat := match T.2.1 a with
  | some v => v
  | none => h.2.2.2.1 a
def nC (T : TT) (h : AH) : Nat := T.2.2 + h.2.2.2.2
def up (f : Int32 → Int32) (k x : Int32) : Int32 → Int32 := fun j => if j = k then x else f j
def upL (f : Int32 → Int64) (k : Int32) (x : Int64) : Int32 → Int64 := fun j => if j = k then x else f j
def upR (f : Nat → Nat) (k x : Nat) : Nat → Nat := fun j => if j = k then x else f j
def wI (h : AH) (a : Nat) (k x : Int32) : AH := (fun b => if b = a then up (h.1 a) k x else h.1 b, h.2)
def wL (h : AH) (a : Nat) (k : Int32) (x : Int64) : AH := (h.1, fun b => if b = a then upL (h.2.1 a) k x else h.2.1 b, h.2.2)
def wR (h : AH) (a k x : Nat) : AH := (h.1, h.2.1, fun b => if b = a then upR (h.2.2.1 a) k x else h.2.2.1 b, h.2.2.2)
/-- a new cell: all zero -/
def wN (T : TT) (h : AH) (s : Nat × Nat) : AH := (fun b => if b = nC T h then (fun _ => 0) else h.1 b, fun b => if b = nC T h then (fun _ => 0) else h.2.1 b, fun b => if b = nC T h then (fun _ => 0) else h.2.2.1 b, fun b => if b = nC T h then s else h.2.2.2.1 b, h.2.2.2.2 + 1)
def nthN {α : Type} : List α → Nat → α → α
  | [], _, z => z
  | a :: _, 0, _ => a
  | _ :: l, k + 1, z => nthN l k z
def fty (c k : Nat) : Nat := nthN (nthN ftyL c []) k 0
def nfD (c : Nat) : Nat := nthN nfL c 0
/-- the launch, the classes' places, the array classes, the first address, other addresses (0 .. String constants, 100 .. their bytes, 200 the script), the script's length and cells -/
abbrev GG : Type := Launch × va_G × (Nat → ClassId) × Nat × (Nat → Nat) × Nat × (Nat → Int32)
def gb (G : GG) : Nat := G.2.2.2.1
def ga (G : GG) (k : Nat) : Nat := if k < 1000000 then gb G + k else G.2.2.2.2.1 (k - 1000000)
def cv (G : GG) : Value → Value
  | .ref k => .ref (ga G k)
  | v => v
def vR : Nat → Value
  | 0 => .null
  | k + 1 => .ref k
def oR (G : GG) : Nat → Option Nat
  | 0 => none
  | k + 1 => some (ga G k)
theorem oR_rf (G : GG) (x : Nat) : va_rf (oR G x) = cv G (vR x) := by cases x <;> rfl
theorem cat_cv (G : GG) (v : Value) : (cv G v).category = v.category := by cases v <;> rfl
theorem sum_cv (G : GG) (st : List Value) : ((st.map (cv G)).map fun v => v.category).sum = (st.map fun v => v.category).sum := by
  rw [List.map_map]
  congr 1
  exact List.map_congr_left (fun v _ => cat_cv G v)
def fV (T : TT) (h : AH) (a t k : Nat) : Value := match t with
  | 0 => .int (h.1 a (Int32.ofNat k))
  | 1 => vR (rR T h a k)
  | _ => .long (h.2.1 a (Int32.ofNat k))
def entO (G : GG) (T : TT) (h : AH) (a c : Nat) : List Value := (List.range (nfD c)).map (fun k => cv G (fV T h a (fty c k) k))
def entI (h : AH) (a : Nat) : Nat → Int32 := fun j => if j < 2147483648 then h.1 a (Int32.ofNat j) else 0
def entR (G : GG) (T : TT) (h : AH) (a : Nat) : Nat → Option Nat := fun j => oR G (rR T h a j)
def ent (G : GG) (T : TT) (h : AH) (a : Nat) : va_E :=
  if (rS T h a).1 < 100 then .inr ((rS T h a).1, entO G T h a (rS T h a).1)
  else if (rS T h a).1 = 100 then .inl (G.2.2.1 0, (rS T h a).2, .inl (entI h a))
  else .inl (G.2.2.1 ((rS T h a).1 - 100), (rS T h a).2, .inr (.inr (.inr (.inr (entR G T h a)))))
theorem ent_o {G : GG} {T : TT} {h : AH} {a c : Nat} (hs : (rS T h a).1 = c) (hc : c < 100) : ent G T h a = .inr (c, entO G T h a c) := by
  subst hs; unfold ent; rw [if_pos hc]
theorem ent_i {G : GG} {T : TT} {h : AH} {a n : Nat} (hs : rS T h a = (100, n)) : ent G T h a = .inl (G.2.2.1 0, n, .inl (entI h a)) := by
  unfold ent; rw [hs]; rfl
theorem ent_r {G : GG} {T : TT} {h : AH} {a t n : Nat} (hs : rS T h a = (101 + t, n)) : ent G T h a = .inl (G.2.2.1 (t + 1), n, .inr (.inr (.inr (.inr (entR G T h a))))) := by
  unfold ent
  rw [hs, if_neg (by show ¬ 101 + t < 100; omega), if_neg (by show ¬ 101 + t = 100; omega), show (101 + t, n).1 - 100 = t + 1 by show 101 + t - 100 = t + 1; omega]
abbrev vA (T : TT) (h : AH) (a : Nat) : Prop := a < nC T h
/-- the machine's heap holds the abstract one -/
def HR (G : GG) (T : TT) (h : AH) (H : Heap) : Prop := H.size = gb G + nC T h ∧ ∀ k, k < nC T h → va_at G.2.1 clL (gb G + k, ent G T h k) H
theorem HR.P {G : GG} {T : TT} {h : AH} {H : Heap} (hh : HR G T h H) {a : Nat} (ha : vA T h a) : va_P G.2.1 clL [(gb G + a, ent G T h a)] H := by
  intro k q hk
  cases k with
  | zero => cases hk; exact hh.2 a ha
  | succ k => cases hk
theorem HR.upd {G : GG} {T : TT} {h h' : AH} {H H' : Heap} {a : Nat} (hh : HR G T h H) (hn : nC T h' = nC T h) (he : ∀ j, j ≠ a → ent G T h' j = ent G T h j) (hz : H'.size = H.size) (oq : ∀ q : Nat, q ≠ gb G + a → H'[q]? = H[q]?) (hat : va_at G.2.1 clL (gb G + a, ent G T h' a) H') : HR G T h' H' := by
  refine ⟨by rw [hz, hn]; exact hh.1, fun k hk => ?_⟩
  by_cases hka : k = a
  · rw [hka]; exact hat
  · rw [he k hka]
    exact (hh.2 k (by rw [← hn]; exact hk)).kept (oq _ (by show gb G + k ≠ _; omega))
theorem HR.push {G : GG} {T : TT} {h h' : AH} {H H' : Heap} (hh : HR G T h H) (hn : nC T h' = nC T h + 1) (he : ∀ j, j < nC T h → ent G T h' j = ent G T h j) (hz : H'.size = H.size + 1) (oq : ∀ q : Nat, q < H.size → H'[q]? = H[q]?) (hat : va_at G.2.1 clL (gb G + nC T h, ent G T h' (nC T h)) H') : HR G T h' H' := by
  refine ⟨by rw [hz, hn, hh.1]; omega, fun k hk => ?_⟩
  by_cases hka : k < nC T h
  · rw [he k hka]
    exact (hh.2 k hka).kept (oq _ (hh.2 k hka).lt)
  · have : k = nC T h := by omega
    rw [this]; exact hat
/-! what stands beside: nest mates' words, pairs not castable, String constants -/
abbrev tyG (G : GG) : List (ClassId × FieldType) := [(G.2.2.1 0, .int), (G.2.2.1 1, .object R_House), (G.2.2.1 2, .object R_Law), (G.2.2.1 3, .object R_Sheet)]
def nestL : List (String × Nat × MethodName × String) := [("UpperFloors", 33, ⟨"UpperFloors$Town", "<init>", "()V"⟩, "UpperFloors"), ("UpperFloors", 43, ⟨"UpperFloors$Dusk", "<init>", "()V"⟩, "UpperFloors"), ("UpperFloors$Dusk", 11, ⟨"UpperFloors$Town", "<init>", "()V"⟩, "UpperFloors"), ("UpperFloors", 50, ⟨"UpperFloors$Reader", "<init>", "()V"⟩, "UpperFloors"), ("UpperFloors", 58, ⟨"UpperFloors$Law", "<init>", "()V"⟩, "UpperFloors"), ("UpperFloors", 59, ⟨"UpperFloors$Sheet", "<init>", "()V"⟩, "UpperFloors"), ("UpperFloors$Reader", 140, ⟨"UpperFloors", "within", "(III)Z"⟩, "UpperFloors"), ("UpperFloors$Law", 26, ⟨"UpperFloors", "within", "(III)Z"⟩, "UpperFloors"), ("UpperFloors$Town", 34, ⟨"UpperFloors", "within", "(III)Z"⟩, "UpperFloors")]
def castL : List (String × String) := [("UpperFloors$Aunt", "UpperFloors$Heavy"), ("UpperFloors$Stuck", "UpperFloors$Braked"), ("UpperFloors$Heavy", "UpperFloors$House"), ("UpperFloors$Braked", "UpperFloors$House"), ("UpperFloors$Aunt", "UpperFloors$House"), ("UpperFloors$Stuck", "UpperFloors$House"), ("UpperFloors$Late", "UpperFloors$House")]
def ncL : List (String × String) := [("UpperFloors$House", "UpperFloors$Heavy"), ("UpperFloors$House", "UpperFloors$Braked"), ("UpperFloors$House", "UpperFloors$Aunt"), ("UpperFloors$House", "UpperFloors$Stuck"), ("UpperFloors$House", "UpperFloors$Late"), ("UpperFloors$Heavy", "UpperFloors$Braked"), ("UpperFloors$Heavy", "UpperFloors$Aunt"), ("UpperFloors$Heavy", "UpperFloors$Stuck"), ("UpperFloors$Heavy", "UpperFloors$Late"), ("UpperFloors$Braked", "UpperFloors$Heavy"), ("UpperFloors$Braked", "UpperFloors$Aunt"), ("UpperFloors$Braked", "UpperFloors$Stuck"), ("UpperFloors$Braked", "UpperFloors$Late"), ("UpperFloors$Aunt", "UpperFloors$Braked"), ("UpperFloors$Aunt", "UpperFloors$Stuck"), ("UpperFloors$Aunt", "UpperFloors$Late"), ("UpperFloors$Stuck", "UpperFloors$Heavy"), ("UpperFloors$Stuck", "UpperFloors$Aunt"), ("UpperFloors$Stuck", "UpperFloors$Late"), ("UpperFloors$Late", "UpperFloors$Heavy"), ("UpperFloors$Late", "UpperFloors$Braked"), ("UpperFloors$Late", "UpperFloors$Aunt"), ("UpperFloors$Late", "UpperFloors$Stuck")]
def strL : List (String × Nat × String) := [("UpperFloors", 60, "weighs told + people * 5 ; holds 2 ; hits speed * people ;"), ("UpperFloors$Reader", 99, "weighs"), ("UpperFloors$Reader", 105, "holds"), ("UpperFloors$Reader", 107, "hits"), ("UpperFloors$Reader", 109, "or"), ("UpperFloors$Reader", 111, "and"), ("UpperFloors$Reader", 113, "not"), ("UpperFloors$Reader", 119, "told"), ("UpperFloors$Reader", 121, "people"), ("UpperFloors$Reader", 123, "more"), ("UpperFloors$Reader", 125, "high"), ("UpperFloors$Reader", 127, "minute"), ("UpperFloors$Reader", 129, "speed")]
def strLen : List Nat := [58, 6, 5, 4, 2, 3, 3, 4, 6, 4, 4, 6, 5]
def strByt : List (List Int32) := [[119, 101, 105, 103, 104, 115, 32, 116, 111, 108, 100, 32, 43, 32, 112, 101, 111, 112, 108, 101, 32, 42, 32, 53, 32, 59, 32, 104, 111, 108, 100, 115, 32, 50, 32, 59, 32, 104, 105, 116, 115, 32, 115, 112, 101, 101, 100, 32, 42, 32, 112, 101, 111, 112, 108, 101, 32, 59], [119, 101, 105, 103, 104, 115], [104, 111, 108, 100, 115], [104, 105, 116, 115], [111, 114], [97, 110, 100], [110, 111, 116], [116, 111, 108, 100], [112, 101, 111, 112, 108, 101], [109, 111, 114, 101], [104, 105, 103, 104], [109, 105, 110, 117, 116, 101], [115, 112, 101, 101, 100]]
def SW (G : GG) (U : State) (H : Heap) : Prop :=
  (∀ x ∈ nestL, va_Nw (.methodLinkNest x.1 x.2.1 x.2.2.1 x.2.2.2) U) ∧ (∀ x ∈ castL, va_Nw (.castable x.1 x.2) U) ∧ (∀ x ∈ ncL, va_Nc x.1 x.2 U) ∧
  (va_AO R_House U ∧ va_AO R_Law U ∧ va_AO R_Sheet U) ∧ vk_S 13 strLen strByt G.2.2.2.2.1 (fun i => G.2.2.2.2.1 (100 + i)) (fun a => gb G ≤ a) U H ∧
  (∀ (i : Nat) (x : String × Nat × String), strL[i]? = some x → vk_R x.1 x.2.1 x.2.2 (G.2.2.2.2.1 i) U) ∧ va_Z "java/lang/String" "COMPACT_STRINGS" "Z" (.int 1) (fun a => gb G ≤ a) U H ∧
  va_T .int (G.2.2.2.2.1 200) G.2.2.2.2.2.1 (fun j => .int (G.2.2.2.2.2.2 j)) (fun a => gb G ≤ a) U H ∧
  (va_Z "jdk/internal/util/Preconditions" "SIOOBE_FORMATTER" "Ljava/util/function/BiFunction;" .null (fun a => gb G ≤ a) U H ∨ va_Z "jdk/internal/util/Preconditions" "SIOOBE_FORMATTER" "Ljava/util/function/BiFunction;" (.ref (G.2.2.2.2.1 300)) (fun a => gb G ≤ a) U H)
theorem SW.step {G : GG} {s U : State} {H0 H1 : Heap} (h : SW G s H0) (hW : s.WarmedH U.vm) (hq : ∀ a : Nat, a < H0.size → ¬ gb G ≤ a → H1[a]? = H0[a]?) : SW G U H1 := by
  obtain ⟨h1, h2, h3, ⟨h4, h5, h6⟩, h7, h8, h9, h10, h11⟩ := h
  exact ⟨fun x hx => va_Nw.warmM hW (h1 x hx), fun x hx => va_Nw.warmC hW (h2 x hx), fun x hx => (h3 x hx).moved hW.alike, ⟨h4.moved hW.alike, h5.moved hW.alike, h6.moved hW.alike⟩,
    (h7.moved hW.alike).kept hq, fun i x hx => (h8 i x hx).warm hW, (h9.moved hW.alike).kept hq, (h10.moved hW.alike).kept hq, h11.imp (fun z => (z.moved hW.alike).kept hq) (fun z => (z.moved hW.alike).kept hq)⟩
/-! methods -/
/-- class, name, bytes, locals, return type -/
abbrev MM : Type := String × MethodName × ByteArray × Nat × Option FieldType
abbrev LL : Type := List (Option Value)
abbrev QQ : Type := Option Value → AH → Prop
def nth : LL → Nat → Option Value
  | [], _ => none
  | a :: _, 0 => a
  | _ :: l, k + 1 => nth l k
def sth : LL → Nat → Option Value → LL
  | [], _, _ => []
  | _ :: l, 0, v => v :: l
  | a :: l, k + 1, v => a :: sth l k v
def asc (G : GG) : Nat → LL → List (Nat × Value)
  | _, [] => []
  | i, none :: l => asc G (i + 1) l
  | i, some v :: l => (i, cv G v) :: asc G (i + 1) l
theorem asc_in {G : GG} : ∀ {L : LL} {i k : Nat} {v : Value}, nth L k = some v → (i + k, cv G v) ∈ asc G i L := by
  intro L
  induction L with
  | nil => intro i k v h; cases h
  | cons a l ih =>
    intro i k v h
    cases k with
    | zero => cases a with
      | none => cases h
      | some w => cases h; exact List.mem_cons_self
    | succ k =>
      have h1 := ih (i := i + 1) (k := k) (v := v) h
      rw [show i + 1 + k = i + (k + 1) by omega] at h1
      cases a with
      | none => exact h1
      | some w => exact List.mem_cons_of_mem _ h1
theorem asc_of {G : GG} : ∀ {L : LL} {i : Nat} {q : Nat × Value}, q ∈ asc G i L → ∃ (k : Nat) (v : Value), q = (i + k, cv G v) ∧ nth L k = some v := by
  intro L
  induction L with
  | nil => intro i q h; cases h
  | cons a l ih =>
    intro i q h
    cases a with
    | none =>
      obtain ⟨k, v, h1, h2⟩ := ih (i := i + 1) h
      exact ⟨k + 1, v, by rw [h1, show i + 1 + k = i + (k + 1) by omega], h2⟩
    | some w =>
      rcases List.mem_cons.mp h with h | h
      · exact ⟨0, w, h, rfl⟩
      · obtain ⟨k, v, h1, h2⟩ := ih (i := i + 1) h
        exact ⟨k + 1, v, by rw [h1, show i + 1 + k = i + (k + 1) by omega], h2⟩
theorem nth_sth_ne : ∀ {L : LL} {i j : Nat} {v : Option Value}, j ≠ i → nth (sth L i v) j = nth L j := by
  intro L
  induction L with
  | nil => intro i j v h; rfl
  | cons a l ih =>
    intro i j v h
    cases i with
    | zero => cases j with
      | zero => exact absurd rfl h
      | succ j => rfl
    | succ i => cases j with
      | zero => rfl
      | succ j => exact ih (fun e => h (by rw [e]))
theorem nth_sth_eq : ∀ {L : LL} {i : Nat} {v : Option Value} {w : Value}, nth (sth L i v) i = some w → v = some w := by
  intro L
  induction L with
  | nil => intro i v w h; cases h
  | cons a l ih =>
    intro i v w h
    cases i with
    | zero => exact h
    | succ i => exact ih h
/-- the local below isn't a long's first half -/
def okb (L : LL) : Nat → Bool
  | 0 => true
  | j + 1 => match nth L j with
    | some v => v.category == 1
    | none => true
theorem okb_spec {L : LL} {i j : Nat} {v : Value} (h : okb L i = true) (hj : j + 1 = i) (hv : nth L j = some v) : v.category = 1 := by
  subst hj
  simp only [okb, hv] at h
  exact of_decide_eq_true h
theorem lr_get {G : GG} {ls : Array Slot} {nL : Nat} {L : LL} (h : lv_has ls nL (asc G 0 L)) {k : Nat} {v : Value} (hk : nth L k = some v) : ls[k]? = some (.val (cv G v)) := by
  have h1 := h.2.2 _ (asc_in (G := G) (i := 0) hk)
  rwa [Nat.zero_add] at h1
theorem lr_st1 {G : GG} {ls : Array Slot} {nL : Nat} {L : LL} {i : Nat} {v : Value} (h : lv_has ls nL ((i, cv G v) :: (asc G 0 L).filter (fun q => !(q.1 == i) && !(q.1 + 1 == i && q.2.category == 2)))) (ho : okb L i = true) : lv_has ls nL (asc G 0 (sth L i (some v))) := by
  refine ⟨h.1, h.2.1, fun q hq => ?_⟩
  obtain ⟨k, w, rfl, hw⟩ := asc_of hq
  rw [Nat.zero_add]
  by_cases hk : k = i
  · subst hk
    cases nth_sth_eq hw
    exact h.2.2 _ List.mem_cons_self
  · rw [nth_sth_ne hk] at hw
    refine h.2.2 (k, cv G w) (List.mem_cons_of_mem _ (List.mem_filter.mpr ⟨?_, ?_⟩))
    · have := asc_in (G := G) (i := 0) hw
      rwa [Nat.zero_add] at this
    · by_cases hki : k + 1 = i
      · have := okb_spec ho hki hw
        simp [hk, cat_cv, this]
      · simp [hk, hki]
theorem lr_st2 {G : GG} {ls : Array Slot} {nL : Nat} {L : LL} {i : Nat} {v : Value} (h : lv_has ls nL ((i, cv G v) :: (asc G 0 L).filter (fun q => !(q.1 == i) && (!(q.1 == i + 1) && !(q.1 + 1 == i && q.2.category == 2))))) (ho : okb L i = true) : lv_has ls nL (asc G 0 (sth (sth L (i + 1) none) i (some v))) := by
  refine ⟨h.1, h.2.1, fun q hq => ?_⟩
  obtain ⟨k, w, rfl, hw⟩ := asc_of hq
  rw [Nat.zero_add]
  by_cases hk : k = i
  · subst hk
    cases nth_sth_eq hw
    exact h.2.2 _ List.mem_cons_self
  · rw [nth_sth_ne hk] at hw
    by_cases hk1 : k = i + 1
    · subst hk1
      cases nth_sth_eq hw
    · rw [nth_sth_ne hk1] at hw
      refine h.2.2 (k, cv G w) (List.mem_cons_of_mem _ (List.mem_filter.mpr ⟨?_, ?_⟩))
      · have := asc_in (G := G) (i := 0) hw
        rwa [Nat.zero_add] at this
      · by_cases hki : k + 1 = i
        · have := okb_spec ho hki hw
          simp [hk, hk1, cat_cv, this]
        · simp [hk, hk1, hki]
/-- what holds inside a body -/
def CX (G : GG) (q : MM) (d : Nat) (p : Program) (R : Room) (s : State) (m : MethodId) (args : Array Value) (meth : Method) (c : Code) : Prop :=
  p.tables.exec = Jvm.exec ∧ c.code = q.2.2.1 ∧ c.maxLocals = q.2.2.2.1 ∧ s.vm.findClass q.1 = some m.cls ∧ meth.name = q.2.1.name ∧ (∀ w ∈ tblG, w.before args s = true) ∧ va_K G.2.1 clL (tyG G) s ∧ SW G s s.heap ∧ gb G ≤ s.heap.size ∧ d ≤ R.frames ∧ 40 * d ≤ R.locals
abbrev fr (G : GG) : Nat → Prop := fun a => gb G ≤ a
def okR (q : MM) (pc : Nat) : Option Value → Prop
  | none => decode q.2.2.1 pc = .ok (.return_, 1) ∧ q.2.2.2.2 = none
  | some (.int x) => decode q.2.2.1 pc = .ok (.ireturn, 1) ∧ ∃ ty, q.2.2.2.2 = some ty ∧ narrow ty (.int x) = .int x
  | some (.long _) => decode q.2.2.1 pc = .ok (.lreturn, 1) ∧ q.2.2.2.2 = some .long
  | some (.ref _) => decode q.2.2.1 pc = .ok (.areturn, 1) ∧ ∃ n, q.2.2.2.2 = some (.object n)
  | some _ => False
/-- the way out -/
def EX (G : GG) (T : TT) (q : MM) (Q : QQ) (KK : Nat) (p : Program) (e : Env) (R : Room) (s : State) (m : MethodId) (args : Array Value) (below : List Frame) (meth : Method) (c : Code) (Zs : State → Prop) : Prop :=
  ∀ (H : Heap) (locs : List Loc) (cells slots : Nat) (h : AH) (ls : Array Slot) (pc : Nat) (v : Option Value), HR G T h H → va_S (fr G) s.heap H locs → cells ≤ R.cells → slots ≤ R.slots → nC T h ≤ KK → Q v h → okR q pc v →
    W p G.1 e R s m args below meth c H locs cells slots Zs (F0 m pc ls (v.toList.map (cv G)))
/-- from this pc, locals, stack, heap the method comes to its end with Q, whatever stands around -/
def Att (G : GG) (T : TT) (q : MM) (d : Nat) (pc : Nat) (L : LL) (st : List Value) (h : AH) (bc bs : Nat) (Q : QQ) : Prop :=
  ∀ (p : Program) (e : Env) (R : Room) (s : State) (m : MethodId) (args : Array Value) (below : List Frame) (meth : Method) (c : Code) (H : Heap) (locs : List Loc) (cells slots KK : Nat) (Zs : State → Prop) (ls : Array Slot),
    CX G q d p R s m args meth c → HR G T h H → va_S (fr G) s.heap H locs → lv_has ls q.2.2.2.1 (asc G 0 L) → cells + bc ≤ R.cells → slots + bs ≤ R.slots → nC T h + bc ≤ KK → KK ≤ 700000 → EX G T q Q KK p e R s m args below meth c Zs →
    W p G.1 e R s m args below meth c H locs cells slots Zs (F0 m pc ls (st.map (cv G)))
def wsM (q : MM) : List Cond := Cond.code q.2.1 q.2.2.1 q.2.2.2.1 q.2.2.2.2 :: tblG
def PcW (G : GG) (T : TT) (Vs : List Value) (h : AH) (mc : Nat) : Array Value → State → Prop := fun a U => a = (Vs.map (cv G)).toArray ∧ HR G T h U.heap ∧ va_K G.2.1 clL (tyG G) U ∧ SW G U U.heap ∧ gb G ≤ U.heap.size ∧ nC T h + mc ≤ 700000
def QcW (G : GG) (T : TT) (h : AH) (mc : Nat) (Q : QQ) : Array Value → State → Outcome → State → Prop := fun _ st o t => (∃ (v : Option Value) (h' : AH), o = .returned (v.map (cv G)) ∧ Q v h' ∧ HR G T h' t.heap ∧ nC T h' ≤ nC T h + mc) ∧ va_F (fr G) st t
/-- a method's contract: at these arguments and this heap it ends with Q -/
def WP (G : GG) (T : TT) (q : MM) (d : Nat) (Vs : List Value) (h : AH) (mc ms : Nat) (Q : QQ) : Prop :=
  Met G.1 q.2.1 (wsM q) ({ frames := d, cells := mc, slots := ms, locals := 40 * d }) (PcW G T Vs h mc) (QcW G T h mc Q) mc ms (fr G)
def lay0 : List Value → LL
  | [] => []
  | v :: r => if v.category = 2 then some v :: none :: lay0 r else some v :: lay0 r
theorem asc_nones (G : GG) (n : Nat) : ∀ i, asc G i (List.replicate n none) = [] := by
  induction n with
  | zero => intro i; rfl
  | succ n ih => intro i; exact ih (i + 1)
theorem asc_lay0 (G : GG) (n : Nat) : ∀ (Vs : List Value) (i : Nat), asc G i (lay0 Vs ++ List.replicate n none) = lv_args i (Vs.map (cv G)) := by
  intro Vs
  induction Vs with
  | nil => intro i; exact asc_nones G n i
  | cons v r ih =>
    intro i
    by_cases hv : v.category = 2
    · simp only [lay0, if_pos hv, List.cons_append, asc, List.map_cons, lv_args, cat_cv]
      rw [ih]
    · simp only [lay0, if_neg hv, List.cons_append, asc, List.map_cons, lv_args, cat_cv]
      rw [ih]
theorem WP.enter {G : GG} {T : TT} {q : MM} {d : Nat} {Vs : List Value} {h : AH} {mc ms : Nat} {Q : QQ} (n : Nat) (hy : plainName q.2.1.cls = true) (hc : q.2.1.cls = q.1) (hn : (lay0 Vs).length + n = q.2.2.2.1) (k : Att G T q d 0 (lay0 Vs ++ List.replicate n none) [] h mc ms Q) : WP G T q d Vs h mc ms Q := by
  refine Met.ofW (cc := q.2.2.1) (maxL := q.2.2.2.1) (ret := q.2.2.2.2) hy rfl ?_
  intro p e s m args below meth c s₁ B hml hv
  obtain ⟨rfl, hH, hK, hSW, hgb, hkk⟩ := hv
  have hlen : ∀ (us : List Value), (lg_sl (us.map (cv G))).length = (lay0 us).length := by
    intro us
    induction us with
    | nil => rfl
    | cons v r ih =>
      by_cases hv : v.category = 2
      · simp only [lg_sl, List.map_cons, List.flatMap_cons, cat_cv, if_pos hv, lay0, List.length_append, List.length_cons] at ih ⊢
        simp only [List.length_nil]
        omega
      · simp only [lg_sl, List.map_cons, List.flatMap_cons, cat_cv, if_neg hv, lay0, List.length_append, List.length_cons] at ih ⊢
        simp only [List.length_nil]
        omega
  have hl := lv_entry (Vs.map (cv G)) (n := q.2.2.2.1) (by rw [hlen]; omega)
  rw [lg_entry_eq]
  rw [← asc_lay0 G n] at hl
  have hts0 := atoms_spec (ws := wsM q) B.pre
  refine k p e _ s m _ below meth c s.heap [] 0 0 (nC T h + mc) _ _ ⟨B.exec, B.bytes, hml, by rw [← hc]; exact findClass_of_methodNamed B.named, (name_of_methodNamed B.named B.method).1, fun w hw => hts0 w (List.mem_cons_of_mem _ hw), hK, hSW, hgb, Nat.le_refl _, Nat.le_refl _⟩ hH va_S.rf hl (Nat.le_of_eq (Nat.zero_add _)) (Nat.le_of_eq (Nat.zero_add _)) (Nat.le_refl _) hkk ?_
  intro H locs cells slots h' ls pc v hH' hS' hc1 hc2 hnk hQ hok
  refine W.widen (k := mc) (n := ms) hc1 hc2 ?_
  have fin : ∀ t : State, t.heap = H → s.WarmedH t.vm → QcW G T h mc Q (Vs.map (cv G)).toArray s (.returned (v.map (cv G))) t := fun t ht hW =>
    ⟨⟨v, h', rfl, hQ, by rw [ht]; exact hH', hnk⟩, hS'.F ht⟩
  have hx := B.exec
  have hb := B.bytes
  have hr := B.returns
  have hlk := B.notSynchronized
  cases v with
  | none => exact W.vret hx hb (by rw [hr]; exact hok.2) (fun t ht hW => fin t ht hW) hS'.2.2 hok.1
  | some w =>
    cases w with
    | int x =>
      obtain ⟨h1, ty, h2, h3⟩ := hok
      exact W.zret hx hb (by rw [hr]; exact h2) h3 (fun t ht hW => fin t ht hW) hS'.2.2 h1
    | long x =>
      obtain ⟨h1, h2⟩ := hok
      exact W.lret hx hb (by rw [hr]; exact h2) (fun t ht hW => fin t ht hW) hS'.2.2 h1
    | ref a =>
      obtain ⟨h1, n, h2⟩ := hok
      exact W.aret hx hb (by rw [hr]; exact h2) (Or.inl ⟨n, rfl⟩) (Or.inr ⟨_, rfl⟩) (fun t ht hW => fin t ht hW) hS'.2.2 h1
    | float _ => exact hok.elim
    | double _ => exact hok.elim
    | null => exact hok.elim
    | retAddr _ => exact hok.elim
