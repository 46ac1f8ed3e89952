/-! one lemma an instruction: stack, locals, numbers, branches -/
section OPS
variable {G : GG} {T : TT} {q : MM} {d pc : Nat} {L : LL} {st : List Value} {h : AH} {bc bs : Nat} {Q : QQ}
theorem A_iconst {n : Int} (v : Int32) (hv : Int32.ofInt n = v) (hd : decode q.2.2.1 pc = .ok (.iconst n, 1)) (k : Att G T q d (pc + 1) L (.int v :: st) h bc bs Q) : Att G T q d pc L st h bc bs Q := by
  intro p e R s m args below meth c H locs cells slots KK Zs ls hC hH hS hl hc1 hc2 hk1 hk2 hE
  exact lv_iconst hC.1 hC.2.1 hd hv (k p e R s m args below meth c H locs cells slots KK Zs ls hC hH hS hl hc1 hc2 hk1 hk2 hE)
theorem A_bipush {n : Int} (v : Int32) (hv : (Int8.ofInt n).toInt32 = v) (hd : decode q.2.2.1 pc = .ok (.bipush n, 2)) (k : Att G T q d (pc + 2) L (.int v :: st) h bc bs Q) : Att G T q d pc L st h bc bs Q := by
  intro p e R s m args below meth c H locs cells slots KK Zs ls hC hH hS hl hc1 hc2 hk1 hk2 hE
  exact lv_bipush hC.1 hC.2.1 hd hv (k p e R s m args below meth c H locs cells slots KK Zs ls hC hH hS hl hc1 hc2 hk1 hk2 hE)
theorem A_sipush {n : Int} (v : Int32) (hv : (Int16.ofInt n).toInt32 = v) (hd : decode q.2.2.1 pc = .ok (.sipush n, 3)) (k : Att G T q d (pc + 3) L (.int v :: st) h bc bs Q) : Att G T q d pc L st h bc bs Q := by
  intro p e R s m args below meth c H locs cells slots KK Zs ls hC hH hS hl hc1 hc2 hk1 hk2 hE
  exact lv_sipush hC.1 hC.2.1 hd hv (k p e R s m args below meth c H locs cells slots KK Zs ls hC hH hS hl hc1 hc2 hk1 hk2 hE)
theorem A_lconst {n : Fin 2} (v : Int64) (hv : Int64.ofNat (n : Nat) = v) (hd : decode q.2.2.1 pc = .ok (.lconst n, 1)) (k : Att G T q d (pc + 1) L (.long v :: st) h bc bs Q) : Att G T q d pc L st h bc bs Q := by
  intro p e R s m args below meth c H locs cells slots KK Zs ls hC hH hS hl hc1 hc2 hk1 hk2 hE
  exact lv_lconst hC.1 hC.2.1 hd hv (k p e R s m args below meth c H locs cells slots KK Zs ls hC hH hS hl hc1 hc2 hk1 hk2 hE)
theorem A_iload_n {k0 : Fin 4} {x : Int32} (hd : decode q.2.2.1 pc = .ok (.iload_n k0, 1)) (hx : nth L (k0 : Nat) = some (.int x)) (k : Att G T q d (pc + 1) L (.int x :: st) h bc bs Q) : Att G T q d pc L st h bc bs Q := by
  intro p e R s m args below meth c H locs cells slots KK Zs ls hC hH hS hl hc1 hc2 hk1 hk2 hE
  exact lv_iload_n hC.1 hC.2.1 hd rfl (lr_get hl hx) (k p e R s m args below meth c H locs cells slots KK Zs ls hC hH hS hl hc1 hc2 hk1 hk2 hE)
theorem A_iload {i : Nat} {x : Int32} (hd : decode q.2.2.1 pc = .ok (.iload i, 2)) (hx : nth L i = some (.int x)) (k : Att G T q d (pc + 2) L (.int x :: st) h bc bs Q) : Att G T q d pc L st h bc bs Q := by
  intro p e R s m args below meth c H locs cells slots KK Zs ls hC hH hS hl hc1 hc2 hk1 hk2 hE
  exact lv_iload hC.1 hC.2.1 hd (lr_get hl hx) (k p e R s m args below meth c H locs cells slots KK Zs ls hC hH hS hl hc1 hc2 hk1 hk2 hE)
theorem A_lload_n {k0 : Fin 4} {x : Int64} (hd : decode q.2.2.1 pc = .ok (.lload_n k0, 1)) (hx : nth L (k0 : Nat) = some (.long x)) (k : Att G T q d (pc + 1) L (.long x :: st) h bc bs Q) : Att G T q d pc L st h bc bs Q := by
  intro p e R s m args below meth c H locs cells slots KK Zs ls hC hH hS hl hc1 hc2 hk1 hk2 hE
  exact lv_lload_n hC.1 hC.2.1 hd rfl (lr_get hl hx) (k p e R s m args below meth c H locs cells slots KK Zs ls hC hH hS hl hc1 hc2 hk1 hk2 hE)
theorem A_lload {i : Nat} {x : Int64} (hd : decode q.2.2.1 pc = .ok (.lload i, 2)) (hx : nth L i = some (.long x)) (k : Att G T q d (pc + 2) L (.long x :: st) h bc bs Q) : Att G T q d pc L st h bc bs Q := by
  intro p e R s m args below meth c H locs cells slots KK Zs ls hC hH hS hl hc1 hc2 hk1 hk2 hE
  exact lv_lload hC.1 hC.2.1 hd (lr_get hl hx) (k p e R s m args below meth c H locs cells slots KK Zs ls hC hH hS hl hc1 hc2 hk1 hk2 hE)
theorem A_aload_n {k0 : Fin 4} {x : Nat} (hd : decode q.2.2.1 pc = .ok (.aload_n k0, 1)) (hx : nth L (k0 : Nat) = some (.ref x)) (k : Att G T q d (pc + 1) L (.ref x :: st) h bc bs Q) : Att G T q d pc L st h bc bs Q := by
  intro p e R s m args below meth c H locs cells slots KK Zs ls hC hH hS hl hc1 hc2 hk1 hk2 hE
  exact lv_aload_n hC.1 hC.2.1 hd rfl (lr_get hl hx) (k p e R s m args below meth c H locs cells slots KK Zs ls hC hH hS hl hc1 hc2 hk1 hk2 hE)
theorem A_aload {i : Nat} {x : Nat} (hd : decode q.2.2.1 pc = .ok (.aload i, 2)) (hx : nth L i = some (.ref x)) (k : Att G T q d (pc + 2) L (.ref x :: st) h bc bs Q) : Att G T q d pc L st h bc bs Q := by
  intro p e R s m args below meth c H locs cells slots KK Zs ls hC hH hS hl hc1 hc2 hk1 hk2 hE
  exact lv_aload hC.1 hC.2.1 hd (lr_get hl hx) (k p e R s m args below meth c H locs cells slots KK Zs ls hC hH hS hl hc1 hc2 hk1 hk2 hE)
theorem A_istore_n {k0 : Fin 4} {x : Int32} (L2 : LL) (hd : decode q.2.2.1 pc = .ok (.istore_n k0, 1)) (hi : (k0 : Nat) < q.2.2.2.1) (ho : okb L k0 = true) (hL : sth L k0 (some (.int x)) = L2) (k : Att G T q d (pc + 1) L2 st h bc bs Q) : Att G T q d pc L (.int x :: st) h bc bs Q := by
  subst hL
  intro p e R s m args below meth c H locs cells slots KK Zs ls hC hH hS hl hc1 hc2 hk1 hk2 hE
  exact lv_istore_n hC.1 hC.2.1 hd rfl hl hi rfl (fun ls2 hl2 => k p e R s m args below meth c H locs cells slots KK Zs ls2 hC hH hS (lr_st1 hl2 ho) hc1 hc2 hk1 hk2 hE)
theorem A_istore {i : Nat} {x : Int32} (L2 : LL) (hd : decode q.2.2.1 pc = .ok (.istore i, 2)) (hi : i < q.2.2.2.1) (ho : okb L i = true) (hL : sth L i (some (.int x)) = L2) (k : Att G T q d (pc + 2) L2 st h bc bs Q) : Att G T q d pc L (.int x :: st) h bc bs Q := by
  subst hL
  intro p e R s m args below meth c H locs cells slots KK Zs ls hC hH hS hl hc1 hc2 hk1 hk2 hE
  exact lv_istore hC.1 hC.2.1 hd hl hi rfl (fun ls2 hl2 => k p e R s m args below meth c H locs cells slots KK Zs ls2 hC hH hS (lr_st1 hl2 ho) hc1 hc2 hk1 hk2 hE)
theorem A_astore_n {k0 : Fin 4} {x : Nat} (L2 : LL) (hd : decode q.2.2.1 pc = .ok (.astore_n k0, 1)) (hi : (k0 : Nat) < q.2.2.2.1) (ho : okb L k0 = true) (hL : sth L k0 (some (.ref x)) = L2) (k : Att G T q d (pc + 1) L2 st h bc bs Q) : Att G T q d pc L (.ref x :: st) h bc bs Q := by
  subst hL
  intro p e R s m args below meth c H locs cells slots KK Zs ls hC hH hS hl hc1 hc2 hk1 hk2 hE
  exact lv_astore_n hC.1 hC.2.1 hd rfl hl hi rfl (fun ls2 hl2 => k p e R s m args below meth c H locs cells slots KK Zs ls2 hC hH hS (lr_st1 hl2 ho) hc1 hc2 hk1 hk2 hE)
theorem A_astore {i : Nat} {x : Nat} (L2 : LL) (hd : decode q.2.2.1 pc = .ok (.astore i, 2)) (hi : i < q.2.2.2.1) (ho : okb L i = true) (hL : sth L i (some (.ref x)) = L2) (k : Att G T q d (pc + 2) L2 st h bc bs Q) : Att G T q d pc L (.ref x :: st) h bc bs Q := by
  subst hL
  intro p e R s m args below meth c H locs cells slots KK Zs ls hC hH hS hl hc1 hc2 hk1 hk2 hE
  exact lv_astore hC.1 hC.2.1 hd hl hi rfl (fun ls2 hl2 => k p e R s m args below meth c H locs cells slots KK Zs ls2 hC hH hS (lr_st1 hl2 ho) hc1 hc2 hk1 hk2 hE)
theorem A_lstore_n {k0 : Fin 4} {x : Int64} (L2 : LL) (hd : decode q.2.2.1 pc = .ok (.lstore_n k0, 1)) (hi : (k0 : Nat) + 1 < q.2.2.2.1) (ho : okb L k0 = true) (hL : sth (sth L (k0 + 1) none) k0 (some (.long x)) = L2) (k : Att G T q d (pc + 1) L2 st h bc bs Q) : Att G T q d pc L (.long x :: st) h bc bs Q := by
  subst hL
  intro p e R s m args below meth c H locs cells slots KK Zs ls hC hH hS hl hc1 hc2 hk1 hk2 hE
  exact lv_lstore_n hC.1 hC.2.1 hd rfl hl hi rfl (fun ls2 hl2 => k p e R s m args below meth c H locs cells slots KK Zs ls2 hC hH hS (lr_st2 hl2 ho) hc1 hc2 hk1 hk2 hE)
theorem A_lstore {i : Nat} {x : Int64} (L2 : LL) (hd : decode q.2.2.1 pc = .ok (.lstore i, 2)) (hi : i + 1 < q.2.2.2.1) (ho : okb L i = true) (hL : sth (sth L (i + 1) none) i (some (.long x)) = L2) (k : Att G T q d (pc + 2) L2 st h bc bs Q) : Att G T q d pc L (.long x :: st) h bc bs Q := by
  subst hL
  intro p e R s m args below meth c H locs cells slots KK Zs ls hC hH hS hl hc1 hc2 hk1 hk2 hE
  exact lv_lstore hC.1 hC.2.1 hd hl hi rfl (fun ls2 hl2 => k p e R s m args below meth c H locs cells slots KK Zs ls2 hC hH hS (lr_st2 hl2 ho) hc1 hc2 hk1 hk2 hE)
theorem A_iinc {i : Nat} {n : Int} {x : Int32} (w : Int32) (L2 : LL) (hd : decode q.2.2.1 pc = .ok (.iinc i n, 3)) (hx : nth L i = some (.int x)) (hw : Int32.ofInt n = w) (hi : i < q.2.2.2.1) (ho : okb L i = true) (hL : sth L i (some (.int (x + w))) = L2) (k : Att G T q d (pc + 3) L2 st h bc bs Q) : Att G T q d pc L st h bc bs Q := by
  subst hL
  subst hw
  intro p e R s m args below meth c H locs cells slots KK Zs ls hC hH hS hl hc1 hc2 hk1 hk2 hE
  obtain ⟨k9, hk9⟩ := List.getElem?_of_mem (asc_in (G := G) (i := 0) hx)
  rw [Nat.zero_add] at hk9
  exact lv_iinc hC.1 hC.2.1 hd hl hk9 rfl hi rfl (fun ls2 hl2 => k p e R s m args below meth c H locs cells slots KK Zs ls2 hC hH hS (lr_st1 hl2 ho) hc1 hc2 hk1 hk2 hE)
theorem A_iadd {x y : Int32} (hd : decode q.2.2.1 pc = .ok (.iadd, 1)) (k : Att G T q d (pc + 1) L (.int (x + y) :: st) h bc bs Q) : Att G T q d pc L (.int y :: .int x :: st) h bc bs Q := by
  intro p e R s m args below meth c H locs cells slots KK Zs ls hC hH hS hl hc1 hc2 hk1 hk2 hE
  exact lv_iadd hC.1 hC.2.1 hd (k p e R s m args below meth c H locs cells slots KK Zs ls hC hH hS hl hc1 hc2 hk1 hk2 hE)
theorem A_isub {x y : Int32} (hd : decode q.2.2.1 pc = .ok (.isub, 1)) (k : Att G T q d (pc + 1) L (.int (x - y) :: st) h bc bs Q) : Att G T q d pc L (.int y :: .int x :: st) h bc bs Q := by
  intro p e R s m args below meth c H locs cells slots KK Zs ls hC hH hS hl hc1 hc2 hk1 hk2 hE
  exact lv_isub hC.1 hC.2.1 hd (k p e R s m args below meth c H locs cells slots KK Zs ls hC hH hS hl hc1 hc2 hk1 hk2 hE)
theorem A_imul {x y : Int32} (hd : decode q.2.2.1 pc = .ok (.imul, 1)) (k : Att G T q d (pc + 1) L (.int (x * y) :: st) h bc bs Q) : Att G T q d pc L (.int y :: .int x :: st) h bc bs Q := by
  intro p e R s m args below meth c H locs cells slots KK Zs ls hC hH hS hl hc1 hc2 hk1 hk2 hE
  exact lv_imul hC.1 hC.2.1 hd (k p e R s m args below meth c H locs cells slots KK Zs ls hC hH hS hl hc1 hc2 hk1 hk2 hE)
theorem A_iand {x y : Int32} (hd : decode q.2.2.1 pc = .ok (.iand, 1)) (k : Att G T q d (pc + 1) L (.int (x &&& y) :: st) h bc bs Q) : Att G T q d pc L (.int y :: .int x :: st) h bc bs Q := by
  intro p e R s m args below meth c H locs cells slots KK Zs ls hC hH hS hl hc1 hc2 hk1 hk2 hE
  exact lv_iand hC.1 hC.2.1 hd (k p e R s m args below meth c H locs cells slots KK Zs ls hC hH hS hl hc1 hc2 hk1 hk2 hE)
theorem A_ior {x y : Int32} (hd : decode q.2.2.1 pc = .ok (.ior, 1)) (k : Att G T q d (pc + 1) L (.int (x ||| y) :: st) h bc bs Q) : Att G T q d pc L (.int y :: .int x :: st) h bc bs Q := by
  intro p e R s m args below meth c H locs cells slots KK Zs ls hC hH hS hl hc1 hc2 hk1 hk2 hE
  exact lv_ior hC.1 hC.2.1 hd (k p e R s m args below meth c H locs cells slots KK Zs ls hC hH hS hl hc1 hc2 hk1 hk2 hE)
theorem A_ishl {x y : Int32} (hd : decode q.2.2.1 pc = .ok (.ishl, 1)) (k : Att G T q d (pc + 1) L (.int (x <<< (y &&& 31)) :: st) h bc bs Q) : Att G T q d pc L (.int y :: .int x :: st) h bc bs Q := by
  intro p e R s m args below meth c H locs cells slots KK Zs ls hC hH hS hl hc1 hc2 hk1 hk2 hE
  exact lv_ishl hC.1 hC.2.1 hd (k p e R s m args below meth c H locs cells slots KK Zs ls hC hH hS hl hc1 hc2 hk1 hk2 hE)
theorem A_ishr {x y : Int32} (hd : decode q.2.2.1 pc = .ok (.ishr, 1)) (k : Att G T q d (pc + 1) L (.int (x >>> (y &&& 31)) :: st) h bc bs Q) : Att G T q d pc L (.int y :: .int x :: st) h bc bs Q := by
  intro p e R s m args below meth c H locs cells slots KK Zs ls hC hH hS hl hc1 hc2 hk1 hk2 hE
  exact lv_ishr hC.1 hC.2.1 hd (k p e R s m args below meth c H locs cells slots KK Zs ls hC hH hS hl hc1 hc2 hk1 hk2 hE)
theorem A_iushr {x y : Int32} (hd : decode q.2.2.1 pc = .ok (.iushr, 1)) (k : Att G T q d (pc + 1) L (.int ((x.toUInt32 >>> (y.toUInt32 &&& Int32.toUInt32 31)).toInt32) :: st) h bc bs Q) : Att G T q d pc L (.int y :: .int x :: st) h bc bs Q := by
  intro p e R s m args below meth c H locs cells slots KK Zs ls hC hH hS hl hc1 hc2 hk1 hk2 hE
  exact lv_iushr hC.1 hC.2.1 hd rfl (k p e R s m args below meth c H locs cells slots KK Zs ls hC hH hS hl hc1 hc2 hk1 hk2 hE)
theorem A_ineg {x : Int32} (hd : decode q.2.2.1 pc = .ok (.ineg, 1)) (k : Att G T q d (pc + 1) L (.int (-x) :: st) h bc bs Q) : Att G T q d pc L (.int x :: st) h bc bs Q := by
  intro p e R s m args below meth c H locs cells slots KK Zs ls hC hH hS hl hc1 hc2 hk1 hk2 hE
  exact lv_ineg hC.1 hC.2.1 hd (k p e R s m args below meth c H locs cells slots KK Zs ls hC hH hS hl hc1 hc2 hk1 hk2 hE)
theorem A_idiv {x y : Int32} (hy : ¬ y = 0) (hd : decode q.2.2.1 pc = .ok (.idiv, 1)) (k : Att G T q d (pc + 1) L (.int (x / y) :: st) h bc bs Q) : Att G T q d pc L (.int y :: .int x :: st) h bc bs Q := by
  intro p e R s m args below meth c H locs cells slots KK Zs ls hC hH hS hl hc1 hc2 hk1 hk2 hE
  exact lv_idiv hC.1 hC.2.1 hd hy (k p e R s m args below meth c H locs cells slots KK Zs ls hC hH hS hl hc1 hc2 hk1 hk2 hE)
theorem A_irem {x y : Int32} (hy : ¬ y = 0) (hd : decode q.2.2.1 pc = .ok (.irem, 1)) (k : Att G T q d (pc + 1) L (.int (x - x / y * y) :: st) h bc bs Q) : Att G T q d pc L (.int y :: .int x :: st) h bc bs Q := by
  intro p e R s m args below meth c H locs cells slots KK Zs ls hC hH hS hl hc1 hc2 hk1 hk2 hE
  exact lv_irem hC.1 hC.2.1 hd hy (k p e R s m args below meth c H locs cells slots KK Zs ls hC hH hS hl hc1 hc2 hk1 hk2 hE)
theorem A_ladd {x y : Int64} (hd : decode q.2.2.1 pc = .ok (.ladd, 1)) (k : Att G T q d (pc + 1) L (.long (x + y) :: st) h bc bs Q) : Att G T q d pc L (.long y :: .long x :: st) h bc bs Q := by
  intro p e R s m args below meth c H locs cells slots KK Zs ls hC hH hS hl hc1 hc2 hk1 hk2 hE
  exact lv_ladd hC.1 hC.2.1 hd (k p e R s m args below meth c H locs cells slots KK Zs ls hC hH hS hl hc1 hc2 hk1 hk2 hE)
theorem A_lmul {x y : Int64} (hd : decode q.2.2.1 pc = .ok (.lmul, 1)) (k : Att G T q d (pc + 1) L (.long (x * y) :: st) h bc bs Q) : Att G T q d pc L (.long y :: .long x :: st) h bc bs Q := by
  intro p e R s m args below meth c H locs cells slots KK Zs ls hC hH hS hl hc1 hc2 hk1 hk2 hE
  exact lv_lmul hC.1 hC.2.1 hd (k p e R s m args below meth c H locs cells slots KK Zs ls hC hH hS hl hc1 hc2 hk1 hk2 hE)
theorem A_ldiv {x y : Int64} (hy : ¬ y = 0) (hd : decode q.2.2.1 pc = .ok (.ldiv, 1)) (k : Att G T q d (pc + 1) L (.long (x / y) :: st) h bc bs Q) : Att G T q d pc L (.long y :: .long x :: st) h bc bs Q := by
  intro p e R s m args below meth c H locs cells slots KK Zs ls hC hH hS hl hc1 hc2 hk1 hk2 hE
  exact lv_ldiv hC.1 hC.2.1 hd hy (k p e R s m args below meth c H locs cells slots KK Zs ls hC hH hS hl hc1 hc2 hk1 hk2 hE)
theorem A_lrem {x y : Int64} (hy : ¬ y = 0) (hd : decode q.2.2.1 pc = .ok (.lrem, 1)) (k : Att G T q d (pc + 1) L (.long (x - x / y * y) :: st) h bc bs Q) : Att G T q d pc L (.long y :: .long x :: st) h bc bs Q := by
  intro p e R s m args below meth c H locs cells slots KK Zs ls hC hH hS hl hc1 hc2 hk1 hk2 hE
  exact lv_lrem hC.1 hC.2.1 hd hy (k p e R s m args below meth c H locs cells slots KK Zs ls hC hH hS hl hc1 hc2 hk1 hk2 hE)
theorem A_lcmp {x y : Int64} (hd : decode q.2.2.1 pc = .ok (.lcmp, 1)) (k : Att G T q d (pc + 1) L (.int (lg_cmp x y) :: st) h bc bs Q) : Att G T q d pc L (.long y :: .long x :: st) h bc bs Q := by
  intro p e R s m args below meth c H locs cells slots KK Zs ls hC hH hS hl hc1 hc2 hk1 hk2 hE
  exact W.lcmp hC.1 hC.2.1 hd (k p e R s m args below meth c H locs cells slots KK Zs ls hC hH hS hl hc1 hc2 hk1 hk2 hE)
theorem A_i2l {x : Int32} (hd : decode q.2.2.1 pc = .ok (.i2l, 1)) (k : Att G T q d (pc + 1) L (.long x.toInt64 :: st) h bc bs Q) : Att G T q d pc L (.int x :: st) h bc bs Q := by
  intro p e R s m args below meth c H locs cells slots KK Zs ls hC hH hS hl hc1 hc2 hk1 hk2 hE
  exact lv_i2l hC.1 hC.2.1 hd rfl (k p e R s m args below meth c H locs cells slots KK Zs ls hC hH hS hl hc1 hc2 hk1 hk2 hE)
theorem A_i2b {x : Int32} (hd : decode q.2.2.1 pc = .ok (.i2b, 1)) (k : Att G T q d (pc + 1) L (.int x.toInt8.toInt32 :: st) h bc bs Q) : Att G T q d pc L (.int x :: st) h bc bs Q := by
  intro p e R s m args below meth c H locs cells slots KK Zs ls hC hH hS hl hc1 hc2 hk1 hk2 hE
  exact lv_i2b hC.1 hC.2.1 hd rfl (k p e R s m args below meth c H locs cells slots KK Zs ls hC hH hS hl hc1 hc2 hk1 hk2 hE)
theorem A_i2s {x : Int32} (hd : decode q.2.2.1 pc = .ok (.i2s, 1)) (k : Att G T q d (pc + 1) L (.int x.toInt16.toInt32 :: st) h bc bs Q) : Att G T q d pc L (.int x :: st) h bc bs Q := by
  intro p e R s m args below meth c H locs cells slots KK Zs ls hC hH hS hl hc1 hc2 hk1 hk2 hE
  exact lv_i2s hC.1 hC.2.1 hd rfl (k p e R s m args below meth c H locs cells slots KK Zs ls hC hH hS hl hc1 hc2 hk1 hk2 hE)
theorem A_dup {v : Value} (hv : v.category = 1) (hd : decode q.2.2.1 pc = .ok (.dup, 1)) (k : Att G T q d (pc + 1) L (v :: v :: st) h bc bs Q) : Att G T q d pc L (v :: st) h bc bs Q := by
  intro p e R s m args below meth c H locs cells slots KK Zs ls hC hH hS hl hc1 hc2 hk1 hk2 hE
  exact lv_dup hC.1 hC.2.1 hd (by rw [cat_cv]; exact hv) (k p e R s m args below meth c H locs cells slots KK Zs ls hC hH hS hl hc1 hc2 hk1 hk2 hE)
theorem A_dup2 {v w : Value} (hv : v.category = 1) (hw : w.category = 1) (hd : decode q.2.2.1 pc = .ok (.dup2, 1)) (k : Att G T q d (pc + 1) L (v :: w :: v :: w :: st) h bc bs Q) : Att G T q d pc L (v :: w :: st) h bc bs Q := by
  intro p e R s m args below meth c H locs cells slots KK Zs ls hC hH hS hl hc1 hc2 hk1 hk2 hE
  exact lv_dup2_11 hC.1 hC.2.1 hd (by rw [cat_cv]; exact hv) (by rw [cat_cv]; exact hw) (k p e R s m args below meth c H locs cells slots KK Zs ls hC hH hS hl hc1 hc2 hk1 hk2 hE)
theorem A_pop {v : Value} (hv : v.category = 1) (hd : decode q.2.2.1 pc = .ok (.pop, 1)) (k : Att G T q d (pc + 1) L st h bc bs Q) : Att G T q d pc L (v :: st) h bc bs Q := by
  intro p e R s m args below meth c H locs cells slots KK Zs ls hC hH hS hl hc1 hc2 hk1 hk2 hE
  exact lv_pop hC.1 hC.2.1 hd (by rw [cat_cv]; exact hv) (k p e R s m args below meth c H locs cells slots KK Zs ls hC hH hS hl hc1 hc2 hk1 hk2 hE)
theorem A_if_eq {x : Int32} {off : Int} (tgt : Nat) (hd : decode q.2.2.1 pc = .ok (.ifCond .eq off, 3)) (ht : (pc : Int) + off = (tgt : Int)) (kt : x = 0 → Att G T q d tgt L st h bc bs Q) (kf : ¬ x = 0 → Att G T q d (pc + 3) L st h bc bs Q) : Att G T q d pc L (.int x :: st) h bc bs Q := by
  intro p e R s m args below meth c H locs cells slots KK Zs ls hC hH hS hl hc1 hc2 hk1 hk2 hE
  exact lv_if_eq hC.1 hC.2.1 hd ht (fun z => kt z p e R s m args below meth c H locs cells slots KK Zs ls hC hH hS hl hc1 hc2 hk1 hk2 hE) (fun z => kf z p e R s m args below meth c H locs cells slots KK Zs ls hC hH hS hl hc1 hc2 hk1 hk2 hE)
theorem A_icmp_eq {x y : Int32} {off : Int} (tgt : Nat) (hd : decode q.2.2.1 pc = .ok (.if_icmp .eq off, 3)) (ht : (pc : Int) + off = (tgt : Int)) (kt : x = y → Att G T q d tgt L st h bc bs Q) (kf : ¬ x = y → Att G T q d (pc + 3) L st h bc bs Q) : Att G T q d pc L (.int y :: .int x :: st) h bc bs Q := by
  intro p e R s m args below meth c H locs cells slots KK Zs ls hC hH hS hl hc1 hc2 hk1 hk2 hE
  exact lv_icmp_eq hC.1 hC.2.1 hd ht (fun z => kt z p e R s m args below meth c H locs cells slots KK Zs ls hC hH hS hl hc1 hc2 hk1 hk2 hE) (fun z => kf z p e R s m args below meth c H locs cells slots KK Zs ls hC hH hS hl hc1 hc2 hk1 hk2 hE)
theorem A_if_ne {x : Int32} {off : Int} (tgt : Nat) (hd : decode q.2.2.1 pc = .ok (.ifCond .ne off, 3)) (ht : (pc : Int) + off = (tgt : Int)) (kt : ¬ x = 0 → Att G T q d tgt L st h bc bs Q) (kf : x = 0 → Att G T q d (pc + 3) L st h bc bs Q) : Att G T q d pc L (.int x :: st) h bc bs Q := by
  intro p e R s m args below meth c H locs cells slots KK Zs ls hC hH hS hl hc1 hc2 hk1 hk2 hE
  exact lv_if_ne hC.1 hC.2.1 hd ht (fun z => kt z p e R s m args below meth c H locs cells slots KK Zs ls hC hH hS hl hc1 hc2 hk1 hk2 hE) (fun z => kf z p e R s m args below meth c H locs cells slots KK Zs ls hC hH hS hl hc1 hc2 hk1 hk2 hE)
theorem A_icmp_ne {x y : Int32} {off : Int} (tgt : Nat) (hd : decode q.2.2.1 pc = .ok (.if_icmp .ne off, 3)) (ht : (pc : Int) + off = (tgt : Int)) (kt : ¬ x = y → Att G T q d tgt L st h bc bs Q) (kf : x = y → Att G T q d (pc + 3) L st h bc bs Q) : Att G T q d pc L (.int y :: .int x :: st) h bc bs Q := by
  intro p e R s m args below meth c H locs cells slots KK Zs ls hC hH hS hl hc1 hc2 hk1 hk2 hE
  exact lv_icmp_ne hC.1 hC.2.1 hd ht (fun z => kt z p e R s m args below meth c H locs cells slots KK Zs ls hC hH hS hl hc1 hc2 hk1 hk2 hE) (fun z => kf z p e R s m args below meth c H locs cells slots KK Zs ls hC hH hS hl hc1 hc2 hk1 hk2 hE)
theorem A_if_lt {x : Int32} {off : Int} (tgt : Nat) (hd : decode q.2.2.1 pc = .ok (.ifCond .lt off, 3)) (ht : (pc : Int) + off = (tgt : Int)) (kt : x < 0 → Att G T q d tgt L st h bc bs Q) (kf : ¬ x < 0 → Att G T q d (pc + 3) L st h bc bs Q) : Att G T q d pc L (.int x :: st) h bc bs Q := by
  intro p e R s m args below meth c H locs cells slots KK Zs ls hC hH hS hl hc1 hc2 hk1 hk2 hE
  exact lv_if_lt hC.1 hC.2.1 hd ht (fun z => kt z p e R s m args below meth c H locs cells slots KK Zs ls hC hH hS hl hc1 hc2 hk1 hk2 hE) (fun z => kf z p e R s m args below meth c H locs cells slots KK Zs ls hC hH hS hl hc1 hc2 hk1 hk2 hE)
theorem A_icmp_lt {x y : Int32} {off : Int} (tgt : Nat) (hd : decode q.2.2.1 pc = .ok (.if_icmp .lt off, 3)) (ht : (pc : Int) + off = (tgt : Int)) (kt : x < y → Att G T q d tgt L st h bc bs Q) (kf : ¬ x < y → Att G T q d (pc + 3) L st h bc bs Q) : Att G T q d pc L (.int y :: .int x :: st) h bc bs Q := by
  intro p e R s m args below meth c H locs cells slots KK Zs ls hC hH hS hl hc1 hc2 hk1 hk2 hE
  exact lv_icmp_lt hC.1 hC.2.1 hd ht (fun z => kt z p e R s m args below meth c H locs cells slots KK Zs ls hC hH hS hl hc1 hc2 hk1 hk2 hE) (fun z => kf z p e R s m args below meth c H locs cells slots KK Zs ls hC hH hS hl hc1 hc2 hk1 hk2 hE)
theorem A_if_ge {x : Int32} {off : Int} (tgt : Nat) (hd : decode q.2.2.1 pc = .ok (.ifCond .ge off, 3)) (ht : (pc : Int) + off = (tgt : Int)) (kt : 0 ≤ x → Att G T q d tgt L st h bc bs Q) (kf : ¬ 0 ≤ x → Att G T q d (pc + 3) L st h bc bs Q) : Att G T q d pc L (.int x :: st) h bc bs Q := by
  intro p e R s m args below meth c H locs cells slots KK Zs ls hC hH hS hl hc1 hc2 hk1 hk2 hE
  exact lv_if_ge hC.1 hC.2.1 hd ht (fun z => kt z p e R s m args below meth c H locs cells slots KK Zs ls hC hH hS hl hc1 hc2 hk1 hk2 hE) (fun z => kf z p e R s m args below meth c H locs cells slots KK Zs ls hC hH hS hl hc1 hc2 hk1 hk2 hE)
theorem A_icmp_ge {x y : Int32} {off : Int} (tgt : Nat) (hd : decode q.2.2.1 pc = .ok (.if_icmp .ge off, 3)) (ht : (pc : Int) + off = (tgt : Int)) (kt : y ≤ x → Att G T q d tgt L st h bc bs Q) (kf : ¬ y ≤ x → Att G T q d (pc + 3) L st h bc bs Q) : Att G T q d pc L (.int y :: .int x :: st) h bc bs Q := by
  intro p e R s m args below meth c H locs cells slots KK Zs ls hC hH hS hl hc1 hc2 hk1 hk2 hE
  exact lv_icmp_ge hC.1 hC.2.1 hd ht (fun z => kt z p e R s m args below meth c H locs cells slots KK Zs ls hC hH hS hl hc1 hc2 hk1 hk2 hE) (fun z => kf z p e R s m args below meth c H locs cells slots KK Zs ls hC hH hS hl hc1 hc2 hk1 hk2 hE)
theorem A_if_gt {x : Int32} {off : Int} (tgt : Nat) (hd : decode q.2.2.1 pc = .ok (.ifCond .gt off, 3)) (ht : (pc : Int) + off = (tgt : Int)) (kt : 0 < x → Att G T q d tgt L st h bc bs Q) (kf : ¬ 0 < x → Att G T q d (pc + 3) L st h bc bs Q) : Att G T q d pc L (.int x :: st) h bc bs Q := by
  intro p e R s m args below meth c H locs cells slots KK Zs ls hC hH hS hl hc1 hc2 hk1 hk2 hE
  exact lv_if_gt hC.1 hC.2.1 hd ht (fun z => kt z p e R s m args below meth c H locs cells slots KK Zs ls hC hH hS hl hc1 hc2 hk1 hk2 hE) (fun z => kf z p e R s m args below meth c H locs cells slots KK Zs ls hC hH hS hl hc1 hc2 hk1 hk2 hE)
theorem A_icmp_gt {x y : Int32} {off : Int} (tgt : Nat) (hd : decode q.2.2.1 pc = .ok (.if_icmp .gt off, 3)) (ht : (pc : Int) + off = (tgt : Int)) (kt : y < x → Att G T q d tgt L st h bc bs Q) (kf : ¬ y < x → Att G T q d (pc + 3) L st h bc bs Q) : Att G T q d pc L (.int y :: .int x :: st) h bc bs Q := by
  intro p e R s m args below meth c H locs cells slots KK Zs ls hC hH hS hl hc1 hc2 hk1 hk2 hE
  exact lv_icmp_gt hC.1 hC.2.1 hd ht (fun z => kt z p e R s m args below meth c H locs cells slots KK Zs ls hC hH hS hl hc1 hc2 hk1 hk2 hE) (fun z => kf z p e R s m args below meth c H locs cells slots KK Zs ls hC hH hS hl hc1 hc2 hk1 hk2 hE)
theorem A_if_le {x : Int32} {off : Int} (tgt : Nat) (hd : decode q.2.2.1 pc = .ok (.ifCond .le off, 3)) (ht : (pc : Int) + off = (tgt : Int)) (kt : x ≤ 0 → Att G T q d tgt L st h bc bs Q) (kf : ¬ x ≤ 0 → Att G T q d (pc + 3) L st h bc bs Q) : Att G T q d pc L (.int x :: st) h bc bs Q := by
  intro p e R s m args below meth c H locs cells slots KK Zs ls hC hH hS hl hc1 hc2 hk1 hk2 hE
  exact lv_if_le hC.1 hC.2.1 hd ht (fun z => kt z p e R s m args below meth c H locs cells slots KK Zs ls hC hH hS hl hc1 hc2 hk1 hk2 hE) (fun z => kf z p e R s m args below meth c H locs cells slots KK Zs ls hC hH hS hl hc1 hc2 hk1 hk2 hE)
theorem A_icmp_le {x y : Int32} {off : Int} (tgt : Nat) (hd : decode q.2.2.1 pc = .ok (.if_icmp .le off, 3)) (ht : (pc : Int) + off = (tgt : Int)) (kt : x ≤ y → Att G T q d tgt L st h bc bs Q) (kf : ¬ x ≤ y → Att G T q d (pc + 3) L st h bc bs Q) : Att G T q d pc L (.int y :: .int x :: st) h bc bs Q := by
  intro p e R s m args below meth c H locs cells slots KK Zs ls hC hH hS hl hc1 hc2 hk1 hk2 hE
  exact lv_icmp_le hC.1 hC.2.1 hd ht (fun z => kt z p e R s m args below meth c H locs cells slots KK Zs ls hC hH hS hl hc1 hc2 hk1 hk2 hE) (fun z => kf z p e R s m args below meth c H locs cells slots KK Zs ls hC hH hS hl hc1 hc2 hk1 hk2 hE)
theorem A_goto {off : Int} (tgt : Nat) (hd : decode q.2.2.1 pc = .ok (.goto off, 3)) (ht : (pc : Int) + off = (tgt : Int)) (k : Att G T q d tgt L st h bc bs Q) : Att G T q d pc L st h bc bs Q := by
  intro p e R s m args below meth c H locs cells slots KK Zs ls hC hH hS hl hc1 hc2 hk1 hk2 hE
  exact lv_goto hC.1 hC.2.1 hd ht (k p e R s m args below meth c H locs cells slots KK Zs ls hC hH hS hl hc1 hc2 hk1 hk2 hE)
theorem A_tsO {dflt lo hi : Int} {offs : Array Int} {len : Nat} {x : Int32} (tgt : Nat) (hd : decode q.2.2.1 pc = .ok (.tableswitch dflt lo hi offs, len)) (hx : x.toInt < lo ∨ hi < x.toInt) (ht : (pc : Int) + dflt = (tgt : Int)) (k : Att G T q d tgt L st h bc bs Q) : Att G T q d pc L (.int x :: st) h bc bs Q := by
  intro p e R s m args below meth c H locs cells slots KK Zs ls hC hH hS hl hc1 hc2 hk1 hk2 hE
  exact lv_tableOut hC.1 hC.2.1 hd hx ht (k p e R s m args below meth c H locs cells slots KK Zs ls hC hH hS hl hc1 hc2 hk1 hk2 hE)
theorem A_tsI {dflt lo hi off : Int} {offs : Array Int} {len : Nat} {x : Int32} (tgt : Nat) (hd : decode q.2.2.1 pc = .ok (.tableswitch dflt lo hi offs, len)) (h1 : ¬ x.toInt < lo) (h2 : ¬ hi < x.toInt) (ho : offs[(x.toInt - lo).toNat]? = some off) (ht : (pc : Int) + off = (tgt : Int)) (k : Att G T q d tgt L st h bc bs Q) : Att G T q d pc L (.int x :: st) h bc bs Q := by
  intro p e R s m args below meth c H locs cells slots KK Zs ls hC hH hS hl hc1 hc2 hk1 hk2 hE
  exact lv_tableIn hC.1 hC.2.1 hd h1 h2 ho ht (k p e R s m args below meth c H locs cells slots KK Zs ls hC hH hS hl hc1 hc2 hk1 hk2 hE)
theorem A_ldc {i : Nat} (v : Int32) (hd : decode q.2.2.1 pc = .ok (.ldc i, 2)) (hw : Cond.constant q.1 i v ∈ tblG) (k : Att G T q d (pc + 2) L (.int v :: st) h bc bs Q) : Att G T q d pc L st h bc bs Q := by
  intro p e R s m args below meth c H locs cells slots KK Zs ls hC hH hS hl hc1 hc2 hk1 hk2 hE
  exact lv_ldc hC.1 hC.2.1 hC.2.2.2.1 (hC.2.2.2.2.2.1 _ hw) hd (k p e R s m args below meth c H locs cells slots KK Zs ls hC hH hS hl hc1 hc2 hk1 hk2 hE)
theorem A_ldcw {i : Nat} (v : Int32) (hd : decode q.2.2.1 pc = .ok (.ldc_w i, 3)) (hw : Cond.constant q.1 i v ∈ tblG) (k : Att G T q d (pc + 3) L (.int v :: st) h bc bs Q) : Att G T q d pc L st h bc bs Q := by
  intro p e R s m args below meth c H locs cells slots KK Zs ls hC hH hS hl hc1 hc2 hk1 hk2 hE
  exact lv_ldcw hC.1 hC.2.1 hC.2.2.2.1 (hC.2.2.2.2.2.1 _ hw) hd (k p e R s m args below meth c H locs cells slots KK Zs ls hC hH hS hl hc1 hc2 hk1 hk2 hE)
theorem A_ldc2 {i : Nat} (v : Int64) (hd : decode q.2.2.1 pc = .ok (.ldc2_w i, 3)) (hw : Cond.constantLong q.1 i v ∈ tblG) (k : Att G T q d (pc + 3) L (.long v :: st) h bc bs Q) : Att G T q d pc L st h bc bs Q := by
  intro p e R s m args below meth c H locs cells slots KK Zs ls hC hH hS hl hc1 hc2 hk1 hk2 hE
  exact lv_ldc2 hC.1 hC.2.1 hC.2.2.2.1 (hC.2.2.2.2.2.1 _ hw) hd (k p e R s m args below meth c H locs cells slots KK Zs ls hC hH hS hl hc1 hc2 hk1 hk2 hE)
theorem A_iret {x : Int32} {ty : FieldType} (hd : decode q.2.2.1 pc = .ok (.ireturn, 1)) (hr : q.2.2.2.2 = some ty) (hn : narrow ty (.int x) = .int x) (k : Q (some (.int x)) h) : Att G T q d pc L [.int x] h bc bs Q := by
  intro p e R s m args below meth c H locs cells slots KK Zs ls hC hH hS hl hc1 hc2 hk1 hk2 hE
  exact hE H locs cells slots h ls pc (some (.int x)) hH hS (by omega) (by omega) (by omega) k ⟨hd, ty, hr, hn⟩
theorem A_lret {x : Int64} (hd : decode q.2.2.1 pc = .ok (.lreturn, 1)) (hr : q.2.2.2.2 = some .long) (k : Q (some (.long x)) h) : Att G T q d pc L [.long x] h bc bs Q := by
  intro p e R s m args below meth c H locs cells slots KK Zs ls hC hH hS hl hc1 hc2 hk1 hk2 hE
  exact hE H locs cells slots h ls pc (some (.long x)) hH hS (by omega) (by omega) (by omega) k ⟨hd, hr⟩
theorem A_aret {x : Nat} {n : String} (hd : decode q.2.2.1 pc = .ok (.areturn, 1)) (hr : q.2.2.2.2 = some (.object n)) (k : Q (some (.ref x)) h) : Att G T q d pc L [.ref x] h bc bs Q := by
  intro p e R s m args below meth c H locs cells slots KK Zs ls hC hH hS hl hc1 hc2 hk1 hk2 hE
  exact hE H locs cells slots h ls pc (some (.ref x)) hH hS (by omega) (by omega) (by omega) k ⟨hd, n, hr⟩
theorem A_ret (hd : decode q.2.2.1 pc = .ok (.return_, 1)) (hr : q.2.2.2.2 = none) (k : Q none h) : Att G T q d pc L [] h bc bs Q := by
  intro p e R s m args below meth c H locs cells slots KK Zs ls hC hH hS hl hc1 hc2 hk1 hk2 hE
  exact hE H locs cells slots h ls pc none hH hS (by omega) (by omega) (by omega) k ⟨hd, hr⟩
end OPS
