/-! what the Statement gives at the law's start (printed by wip/gen/start.py) -/
def nL : List Cond := flatC (Jvm.Cond.and given_1 narrow_1)
def tmS (i : Nat) : Term := match strL[i]? with
  | some x => .string x.1 x.2.1
  | none => .string "" 0
def exP : List Nat := [131, 193, 204, 215, 226, 236, 248, 261, 276, 294, 311, 329, 350]
def coP : List Nat := [132, 194, 205, 216, 227, 237, 249, 262, 277, 295, 312, 330, 351]
def arP : List Nat := [133, 195, 206, 217, 228, 238, 250, 263, 278, 296, 313, 331, 352]
def leP : List Nat := [134, 196, 207, 218, 229, 239, 251, 264, 279, 297, 314, 332, 353]
def elP : List Nat := [135, 197, 208, 219, 230, 240, 252, 265, 280, 298, 315, 333, 354]
def srP : List Nat := [202, 272, 279, 280, 281, 282, 283, 288, 289, 290, 291, 292, 293]
def ncP : List Nat := [13, 24, 35, 47, 59, 28, 39, 51, 63, 17, 40, 52, 64, 29, 53, 65, 18, 41, 66, 19, 30, 42, 54]
def caP : List Nat := [1282, 1283, 1284, 1285, 1286, 1287, 1288]
def neP : List Nat := [37, 71, 76, 113, 168, 185, 265, 448, 540]
def dfP : List (List Nat) := [[0, 203, 213, 223, 232, 243, 255, 269, 286, 302, 319, 339, 359], [203, 0, 214, 224, 233, 244, 256, 270, 287, 303, 320, 340, 360], [213, 214, 0, 225, 234, 245, 257, 271, 288, 304, 321, 341, 361], [223, 224, 225, 0, 235, 246, 258, 272, 289, 305, 322, 342, 362], [232, 233, 234, 235, 0, 247, 259, 273, 290, 306, 323, 343, 363], [243, 244, 245, 246, 247, 0, 260, 274, 291, 307, 324, 344, 364], [255, 256, 257, 258, 259, 260, 0, 275, 292, 308, 325, 345, 365], [269, 270, 271, 272, 273, 274, 275, 0, 293, 309, 326, 346, 366], [286, 287, 288, 289, 290, 291, 292, 293, 0, 310, 327, 347, 367], [302, 303, 304, 305, 306, 307, 308, 309, 310, 0, 328, 348, 368], [319, 320, 321, 322, 323, 324, 325, 326, 327, 328, 0, 349, 369], [339, 340, 341, 342, 343, 344, 345, 346, 347, 348, 349, 0, 370], [359, 360, 361, 362, 363, 364, 365, 366, 367, 368, 369, 370, 0]]
theorem nL_ex : ∀ i, i < 13 → nL[exP.getD i 0]? = some (Cond.exactly (tmS i) "java/lang/String") := by decide +kernel
theorem nL_co : ∀ i, i < 13 → nL[coP.getD i 0]? = some (Cond.eq (.field (tmS i) "java/lang/String" "coder" "B") (.int 0)) := by decide +kernel
theorem nL_ar : ∀ i, i < 13 → nL[arP.getD i 0]? = some (Cond.arrayOf (.field (tmS i) "java/lang/String" "value" "[B") .byte) := by decide +kernel
theorem nL_le : ∀ i, i < 13 → nL[leP.getD i 0]? = some (Cond.eq (.length (.field (tmS i) "java/lang/String" "value" "[B")) (.int (Int32.ofNat (strLen.getD i 0)))) := by decide +kernel
theorem nL_el : ∀ i, i < 13 → ∀ j, j < strLen.getD i 0 → nL[elP.getD i 0 + j]? = some (Cond.eq (.elem (.field (tmS i) "java/lang/String" "value" "[B") (.int (Int32.ofNat j))) (.int ((strByt.getD i []).getD j 0))) := by decide +kernel
theorem nL_df : ∀ i, i < 13 → ∀ j, j < 13 → i ≠ j → nL[(dfP.getD i []).getD j 0]? = some (Cond.not (Cond.eq (tmS i) (tmS j))) ∨ nL[(dfP.getD i []).getD j 0]? = some (Cond.not (Cond.eq (tmS j) (tmS i))) := by decide +kernel
theorem nL_nc : ∀ k, k < 23 → (ncL[k]?).map (fun x => Cond.not (.castable x.1 x.2)) = nL[ncP.getD k 0]? := by decide +kernel
theorem tb_sr : ∀ k, k < 13 → (strL[k]?).map (fun x => Cond.stringRef x.1 x.2.1 x.2.2) = tables_1[srP.getD k 0]? := by decide +kernel
theorem tb_ca : ∀ k, k < 7 → (castL[k]?).map (fun x => Cond.castable x.1 x.2) = tables_1[caP.getD k 0]? := by decide +kernel
theorem tb_ne : ∀ k, k < 9 → (nestL[k]?).map (fun x => Cond.methodLinkNest x.1 x.2.1 x.2.2.1 x.2.2.2) = tables_1[neP.getD k 0]? := by decide +kernel
theorem nL_cs : nL[4]? = some (Cond.eq (.static "java/lang/String" "COMPACT_STRINGS" "Z") (.int 1)) := by decide +kernel
theorem nL_si : nL[5]? = some (Cond.isRef (.static "jdk/internal/util/Preconditions" "SIOOBE_FORMATTER" "Ljava/util/function/BiFunction;")) := by decide +kernel
theorem sl_lt : ∀ i, i < 13 → strLen.getD i 0 < 2 ^ 31 := by decide +kernel
theorem lget {α : Type} {l : List α} {x : α} (h : x ∈ l) : ∃ k, k < l.length ∧ l[k]? = some x := by
  obtain ⟨k, h1, h2⟩ := List.mem_iff_getElem.mp h
  exact ⟨k, h1, by rw [List.getElem?_eq_getElem h1, h2]⟩
theorem vk_S_congr {N : Nat} {len : List Nat} {byt : List (List Int32)} {a v a' v' : Nat → Nat} {A : Nat → Prop} {U : State} {H : Heap} (h : vk_S N len byt a v A U H) (ha : ∀ i, i < N → a' i = a i) (hv : ∀ i, i < N → v' i = v i) : vk_S N len byt a' v' A U H := by
  refine ⟨fun i hi => ?_, fun i j hi hj e => h.2 i j hi hj (by rw [← ha i hi, ← ha j hj]; exact e)⟩
  rw [ha i hi, hv i hi]; exact h.1 i hi
theorem arr_int {s : State} {args : Array Value} (h : (Cond.arrayClass .int).before args s = true) : ∃ c : ClassId, ArrOfT s c .int ∧ va_RA s c .int := by
  obtain ⟨c, k, comp, h1, h2, h3⟩ := Cond.arrayClass_spec h
  exact ⟨c, fun n z => ⟨fun k h => (by cases h), k, h2, comp, h3⟩, h1⟩
theorem arr_obj {s : State} {args : Array Value} {C : String} (h : (Cond.arrayOver (.object C)).before args s = true) : ∃ c : ClassId, ArrOfT s c (.object C) ∧ va_RA s c (.object C) := by
  obtain ⟨comp, c, k, h1, h2, h3, h4, h5⟩ := Cond.arrayOver_spec h
  exact ⟨c, fun n z => ⟨fun k h => (by cases h), k, h3, comp, h4⟩, k, comp, h3, h4, h1, h5⟩
/-- the words and the world at the start -/
theorem start_G {s : State} {b L : Nat} {xs : Nat → Int32} (l : Launch) (hts : ∀ w ∈ lw_tbl, w.before #[Value.ref b] s = true) (hX : va_X b L xs s s.heap) (hbl : b < s.heap.size) (hgv : (Jvm.Cond.and given_1 narrow_1).before #[Value.ref b] s = true) : ∃ G : GG, G.1 = l ∧ gb G = s.heap.size ∧ G.2.2.2.2.1 200 = b ∧ G.2.2.2.2.2.1 = L ∧ va_K G.2.1 clL (tyG G) s ∧ SW G s s.heap := by
  have hn : ∀ c ∈ nL, c.before #[Value.ref b] s = true := flat_of_before _ hgv
  have ht : ∀ c ∈ tables_1, c.before #[Value.ref b] s = true := fun c hc => hts c (List.mem_append_right _ hc)
  have hG : ∀ w ∈ tblG, w.before #[Value.ref b] s = true := fun w hw => hts w (List.mem_filter.mp hw).1
  have hA : ∀ a : Nat, a < s.heap.size → ¬ s.heap.size ≤ a := fun a h => Nat.not_le.mpr h
  obtain ⟨c0, i0, k0⟩ := u_known (C := R_Aunt) (T := F_Aunt) (N := 3) (n := 3) hG i_Aunt (ht (.instantiable R_Aunt 3) (List.mem_of_getElem? (i := 491) (by decide +kernel)))
  obtain ⟨c1, i1, k1⟩ := u_known (C := R_Braked) (T := F_Braked) (N := 3) (n := 3) hG i_Braked (ht (.instantiable R_Braked 3) (List.mem_of_getElem? (i := 481) (by decide +kernel)))
  obtain ⟨c2, i2, k2⟩ := u_known (C := R_Dusk) (T := F_Dusk) (N := 9) (n := 9) hG i_Dusk (ht (.instantiable R_Dusk 9) (List.mem_of_getElem? (i := 70) (by decide +kernel)))
  obtain ⟨c3, i3, k3⟩ := u_known (C := R_Heavy) (T := F_Heavy) (N := 3) (n := 3) hG i_Heavy (ht (.instantiable R_Heavy 3) (List.mem_of_getElem? (i := 471) (by decide +kernel)))
  obtain ⟨c4, i4, k4⟩ := u_known (C := R_House) (T := F_House) (N := 3) (n := 3) hG i_House (ht (.instantiable R_House 3) (List.mem_of_getElem? (i := 139) (by decide +kernel)))
  obtain ⟨c5, i5, k5⟩ := u_known (C := R_Late) (T := F_Late) (N := 3) (n := 3) hG i_Late (ht (.instantiable R_Late 3) (List.mem_of_getElem? (i := 511) (by decide +kernel)))
  obtain ⟨c6, i6, k6⟩ := u_known (C := R_Law) (T := F_Law) (N := 3) (n := 3) hG i_Law (ht (.instantiable R_Law 3) (List.mem_of_getElem? (i := 167) (by decide +kernel)))
  obtain ⟨c7, i7, k7⟩ := u_known (C := R_Reader) (T := F_Reader) (N := 7) (n := 7) hG i_Reader (ht (.instantiable R_Reader 7) (List.mem_of_getElem? (i := 112) (by decide +kernel)))
  obtain ⟨c8, i8, k8⟩ := u_known (C := R_Sheet) (T := F_Sheet) (N := 3) (n := 3) hG i_Sheet (ht (.instantiable R_Sheet 3) (List.mem_of_getElem? (i := 184) (by decide +kernel)))
  obtain ⟨c9, i9, k9⟩ := u_known (C := R_Stuck) (T := F_Stuck) (N := 3) (n := 3) hG i_Stuck (ht (.instantiable R_Stuck 3) (List.mem_of_getElem? (i := 501) (by decide +kernel)))
  obtain ⟨c10, i10, k10⟩ := u_known (C := R_Town) (T := F_Town) (N := 5) (n := 5) hG i_Town (ht (.instantiable R_Town 5) (List.mem_of_getElem? (i := 36) (by decide +kernel)))
  obtain ⟨c11, i11, k11⟩ := u_known (C := R_UF) (T := F_UF) (N := 11) (n := 11) hG i_UF (ht (.instantiable R_UF 11) (List.mem_of_getElem? (i := 22) (by decide +kernel)))
  obtain ⟨c12, i12, k12⟩ := u_known (C := R_MO) (T := F_MO) (N := 40) (n := 40) hG i_MO (ht (.instantiable R_MO 40) (List.mem_of_getElem? (i := 831) (by decide +kernel)))
  obtain ⟨a0, b0, e0⟩ := arr_int (ht (.arrayClass .int) (List.mem_of_getElem? (i := 68) (by decide +kernel)))
  have w1 := ht (.arrayOver (.object R_House)) (List.mem_of_getElem? (i := 30) (by decide +kernel))
  obtain ⟨a1, b1, e1⟩ := arr_obj w1
  have w2 := ht (.arrayOver (.object R_Law)) (List.mem_of_getElem? (i := 32) (by decide +kernel))
  obtain ⟨a2, b2, e2⟩ := arr_obj w2
  have w3 := ht (.arrayOver (.object R_Sheet)) (List.mem_of_getElem? (i := 34) (by decide +kernel))
  obtain ⟨a3, b3, e3⟩ := arr_obj w3
  obtain ⟨adK, adV, hS, hSe⟩ := vk_Sof (args := #[Value.ref b]) (s := s) (N := 13) (tm := tmS) (len := strLen) (byt := strByt) (A := fun a => s.heap.size ≤ a) sl_lt (fun i hi => hn _ (List.mem_of_getElem? (nL_ex i hi))) (fun i hi => hn _ (List.mem_of_getElem? (nL_co i hi))) (fun i hi => hn _ (List.mem_of_getElem? (nL_ar i hi))) (fun i hi => hn _ (List.mem_of_getElem? (nL_le i hi))) (fun i hi j hj => hn _ (List.mem_of_getElem? (nL_el i hi j hj))) (fun i j hi hj hij => (nL_df i hi j hj hij).imp (fun z => hn _ (List.mem_of_getElem? z)) (fun z => hn _ (List.mem_of_getElem? z))) hA
  have hZ := va_Zof (args := #[Value.ref b]) (A := fun a => s.heap.size ≤ a) (ht (.laysStatic "java/lang/String" "COMPACT_STRINGS" "Z") (List.mem_of_getElem? (i := 212) (by decide +kernel))) (ht (.initialized "java/lang/String") (List.mem_of_getElem? (i := 8) (by decide +kernel))) (va_eqt (hn _ (List.mem_of_getElem? nL_cs))) hA
  have hQ := va_Zqof (args := #[Value.ref b]) (A := fun a => s.heap.size ≤ a) (ht (.laysStatic "jdk/internal/util/Preconditions" "SIOOBE_FORMATTER" "Ljava/util/function/BiFunction;") (List.mem_of_getElem? (i := 228) (by decide +kernel))) (ht (.initialized "jdk/internal/util/Preconditions") (List.mem_of_getElem? (i := 10) (by decide +kernel))) (hn _ (List.mem_of_getElem? nL_si)) hA
  obtain ⟨fm, hF⟩ : ∃ fm : Nat, va_Z "jdk/internal/util/Preconditions" "SIOOBE_FORMATTER" "Ljava/util/function/BiFunction;" .null (fun a => s.heap.size ≤ a) s s.heap ∨ va_Z "jdk/internal/util/Preconditions" "SIOOBE_FORMATTER" "Ljava/util/function/BiFunction;" (.ref fm) (fun a => s.heap.size ≤ a) s s.heap := by
    rcases hQ with z | ⟨t, z⟩
    · exact ⟨0, Or.inl z⟩
    · exact ⟨t, Or.inr z⟩
  refine ⟨(l, (fun k => nthN [c0, c1, c2, c3, c4, c5, c6, c7, c8, c9, c10, c11, c12] k c0, fun k => nthN [i0, i1, i2, i3, i4, i5, i6, i7, i8, i9, i10, i11, i12] k i0), fun k => nthN [a0, a1, a2, a3] k a0, s.heap.size, fun k => if k < 100 then adK k else if k < 200 then adV (k - 100) else if k = 200 then b else fm, L, xs), rfl, rfl, rfl, rfl, ⟨fun k q hq => ?_, fun k q hq => ?_⟩, ?_⟩
  · match k, hq with
    | 0, hq => cases hq; exact k0
    | 1, hq => cases hq; exact k1
    | 2, hq => cases hq; exact k2
    | 3, hq => cases hq; exact k3
    | 4, hq => cases hq; exact k4
    | 5, hq => cases hq; exact k5
    | 6, hq => cases hq; exact k6
    | 7, hq => cases hq; exact k7
    | 8, hq => cases hq; exact k8
    | 9, hq => cases hq; exact k9
    | 10, hq => cases hq; exact k10
    | 11, hq => cases hq; exact k11
    | 12, hq => cases hq; exact k12
    | k + 13, hq => cases hq
  · match k, hq with
    | 0, hq => cases hq; exact ⟨b0, e0⟩
    | 1, hq => cases hq; exact ⟨b1, e1⟩
    | 2, hq => cases hq; exact ⟨b2, e2⟩
    | 3, hq => cases hq; exact ⟨b3, e3⟩
    | k + 4, hq => cases hq
  refine ⟨fun x hx => ?_, fun x hx => ?_, fun x hx => ?_, ⟨?_, ?_, ?_⟩, ?_, fun i x hx => ?_, hZ, ?_, hF⟩
  · obtain ⟨k, hk, e⟩ := lget hx
    have z := tb_ne k hk
    rw [e] at z
    exact va_Nw.of rfl (ht _ (List.mem_of_getElem? z.symm))
  · obtain ⟨k, hk, e⟩ := lget hx
    have z := tb_ca k hk
    rw [e] at z
    exact va_Nw.of rfl (ht _ (List.mem_of_getElem? z.symm))
  · obtain ⟨k, hk, e⟩ := lget hx
    have z := nL_nc k hk
    rw [e] at z
    exact va_Nc.of (hn _ (List.mem_of_getElem? z.symm))
  · exact va_AO.of w1
  · exact va_AO.of w2
  · exact va_AO.of w3
  · refine vk_S_congr hS (fun i hi => if_pos (by omega)) (fun i hi => ?_)
    show (if 100 + i < 100 then adK (100 + i) else if 100 + i < 200 then adV (100 + i - 100) else if 100 + i = 200 then b else fm) = adV i
    rw [if_neg (by omega), if_pos (by omega), Nat.add_sub_cancel_left]
  · have hi : i < 13 := (List.getElem?_eq_some_iff.mp hx).1
    have z := tb_sr i hi
    rw [hx] at z
    have e : tmS i = .string x.1 x.2.1 := by unfold tmS; rw [hx]
    have y := hSe i hi
    rw [e] at y
    have g : (if i < 100 then adK i else if i < 200 then adV (i - 100) else if i = 200 then b else fm) = adK i := if_pos (by omega)
    show vk_R x.1 x.2.1 x.2.2 (if i < 100 then adK i else if i < 200 then adV (i - 100) else if i = 200 then b else fm) s
    rw [g]
    exact vk_R.of (ht _ (List.mem_of_getElem? z.symm)) y
  · obtain ⟨scr, h1, h2, h3, h4, h5⟩ := hX
    exact ⟨scr, h1, h2, h3, Nat.le_of_eq h4.symm, by rw [h4], h5, Nat.not_le.mpr hbl⟩
