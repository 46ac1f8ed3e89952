/-- a stretch of one row laid into another -/
def cpI (f g : Int32 → Int32) (sp dp n : Int32) : Int32 → Int32 := fun j => if dp.toInt ≤ j.toInt ∧ j.toInt < dp.toInt + n.toInt then f (sp + (j - dp)) else g j
def wC (h : AH) (a0 a : Nat) (sp dp n : Int32) : AH := (fun b => if b = a then cpI (h.1 a0) (h.1 a) sp dp n else h.1 b, h.2)
theorem clampI {x : Int32} (h : 0 ≤ x.toInt) : (x.toNatClampNeg : Int) = x.toInt := by
  show ((x.toInt.toNat : Nat) : Int) = _
  omega
theorem cpI_ent {f g : Int32 → Int32} {sp dp n : Int32} {n0 n1 : Nat} (hs : 0 ≤ sp.toInt) (hd : 0 ≤ dp.toInt) (hn : 0 ≤ n.toInt) (h4 : sp.toInt + n.toInt ≤ n0) (hn0 : n0 < 2147483648) {j : Nat} (hj : j < 2147483648) (F : Nat → Int32) (Gf : Nat → Int32) (hF : ∀ j : Nat, j < 2147483648 → F j = f (Int32.ofNat j)) (hG : ∀ j : Nat, j < 2147483648 → Gf j = g (Int32.ofNat j)) :
    va_cpy F Gf sp.toNatClampNeg dp.toNatClampNeg n.toNatClampNeg j = cpI f g sp dp n (Int32.ofNat j) := by
  have e1 := clampI hs
  have e2 := clampI hd
  have e3 := clampI hn
  have ej : (Int32.ofNat j).toInt = j := nI_toInt hj
  unfold cpI
  simp only [va_cpy]
  by_cases hc : dp.toNatClampNeg ≤ j ∧ j < dp.toNatClampNeg + n.toNatClampNeg
  · rw [if_pos hc, if_pos (by rw [ej]; omega), hF _ (by omega)]
    congr 1
    apply Int32.toInt_inj.mp
    have g1 : (Int32.ofNat j - dp).toInt = j - dp.toInt := by
      rw [Int32.toInt_sub, ej]
      exact Int.bmod_eq_of_le (by omega) (by omega)
    rw [Int32.toInt_add, g1]
    rw [Int.bmod_eq_of_le (by omega) (by omega)]
    rw [show (Int32.ofNat (sp.toNatClampNeg + (j - dp.toNatClampNeg))).toInt = ((sp.toNatClampNeg + (j - dp.toNatClampNeg) : Nat) : Int) from nI_toInt (by omega)]
    omega
  · rw [if_neg hc, if_neg (by rw [ej]; omega), hG _ hj]
section HOPS5
variable {G : GG} {T : TT} {q : MM} {d pc : Nat} {L : LL} {st : List Value} {h : AH} {bc bs : Nat} {Q : QQ}
theorem A_acopy {a0 a idx n0 n1 : Nat} {sp dp n : Int32} (hd : decode q.2.2.1 pc = .ok (.invokestatic idx, 3)) (hw1 : Cond.methodLink q.1 idx arraycopyName ∈ tblG) (hw2 : Cond.native arraycopyName ∈ tblG) (hw3 : Cond.static arraycopyName ∈ tblG) (hw4 : Cond.initialized "java/lang/System" ∈ tblG)
    (ha0 : vA T h a0) (hs0 : rS T h a0 = (100, n0)) (ha : vA T h a) (hs1 : rS T h a = (100, n1)) (h1 : 0 ≤ sp.toInt) (h2 : 0 ≤ dp.toInt) (h3 : 0 ≤ n.toInt) (h4 : sp.toInt + n.toInt ≤ n0) (h5 : dp.toInt + n.toInt ≤ n1) (hn0 : n0 < 2147483648) (hn1 : n1 < 2147483648) (hsum : (st.map fun v => v.category).sum ≤ 8)
    (kk : Att G T q (d + 1) (pc + 3) L st (wC h a0 a sp dp n) bc bs Q) : Att G T q (d + 1) pc L (.int n :: .int dp :: .ref a :: .int sp :: .ref a0 :: st) h bc bs Q := by
  intro p e R s m args below meth cc H locs cells slots KK Zs ls hC hH hS hl hc1 hc2 hk1 hk2 hE
  have hvA : a < nC T h := ha
  have hvA0 : a0 < nC T h := ha0
  have hga : ga G a = gb G + a := ga_lt (by omega)
  have hga0 : ga G a0 = gb G + a0 := ga_lt (by omega)
  show W p G.1 e R s m args below meth cc H locs cells slots Zs (F0 m pc ls (.int n :: .int dp :: .ref (ga G a) :: .int sp :: .ref (ga G a0) :: st.map (cv G)))
  rw [hga, hga0]
  have hts := hC.2.2.2.2.2.1
  have hd1 := hC.2.2.2.2.2.2.2.2.2.1
  have hd2 := hC.2.2.2.2.2.2.2.2.2.2
  have hc0 := hH.2 a0 ha0
  rw [ent_i hs0] at hc0
  have hc1' := hH.2 a ha
  rw [ent_i hs1] at hc1'
  have hc0 : H[gb G + a0]? = some (vp_cell (G.2.2.1 0) (n0, .inl (entI h a0))) := hc0
  have hc1' : H[gb G + a]? = some (vp_cell (G.2.2.1 0) (n1, .inl (entI h a))) := hc1'
  have hKt := (hC.2.2.2.2.2.2.1.2 0 _ rfl).1
  obtain ⟨-, k0, hk0, cm0, hkk0⟩ := hKt n0 (fun j => .int (entI h a0 j))
  have e1 := clampI h1
  have e2 := clampI h2
  have e3 := clampI h3
  have nn : ∀ z : Int32, 0 ≤ z.toInt → ¬ z < 0 := fun z hz h9 => by
    rw [Int32.lt_iff_toInt_lt] at h9
    simp at h9
    omega
  intro Tt hT X
  obtain ⟨vm', X', step⟩ := X.arraycopy hC.1 hC.2.2.2.1 (hts _ hw1) (hts _ hw2) (hts _ hw3) (hts _ hw4) (src := gb G + a0) (dst := gb G + a) (cs := vp_cell (G.2.2.1 0) (n0, .inl (entI h a0))) (cd := vp_cell (G.2.2.1 0) (n1, .inl (entI h a))) (srcPos := sp) (destPos := dp) (n := n) (by rw [hT]; exact hc0) (by rw [hT]; exact hc1')
    (fun _ h9 => by cases h9) (fun _ h9 => by cases h9) (fun h9 => by cases h9) (fun h9 => by cases h9) hk0 hk0 hkk0 hkk0 (by simp [refKind]) (nn _ h1) (nn _ h2) (nn _ h3)
    (by show ¬ _ > ((arrV (G.2.2.1 0) n0 (fun j => .int (entI h a0 j))).slots.size : Int); rw [arrV_size]; omega)
    (by show ¬ _ > ((arrV (G.2.2.1 0) n1 (fun j => .int (entI h a j))).slots.size : Int); rw [arrV_size]; omega)
    (fun vm₁ _ i hi => by
      have ee : (vp_cell (G.2.2.1 0) (n0, .inl (entI h a0))).slots.getD (sp.toNatClampNeg + i) .null = .int (entI h a0 (sp.toNatClampNeg + i)) := by
        show (arrV (G.2.2.1 0) n0 (fun j => .int (entI h a0 j))).slots.getD _ _ = _
        rw [Array.getD_eq_getD_getElem?, arrV_read _ _ (by omega)]
        rfl
      refine ⟨?_, ?_⟩
      · rw [ee]; rfl
      · rw [ee]; exact trivial)
    (g := F0 m pc ls (.int n :: .int dp :: .ref (gb G + a) :: .int sp :: .ref (gb G + a0) :: st.map (cv G))) rfl (by rw [hC.2.2.1]; exact hl.1) (rest := st.map (cv G)) rfl (by rw [hC.2.1]; exact hd) (by omega) (by
      show 2 * 0 + _ + _ ≤ _
      rw [sum_cv]
      have : nativeFrameWords "java/lang/System" "arraycopy" 5 + 11 ≤ 18 := by decide
      omega)
  have ec : copied (vp_cell (G.2.2.1 0) (n0, .inl (entI h a0))) (vp_cell (G.2.2.1 0) (n1, .inl (entI h a))) sp dp n = vp_cell (G.2.2.1 0) (n1, .inl (va_cpy (entI h a0) (entI h a) sp.toNatClampNeg dp.toNatClampNeg n.toNatClampNeg)) := va_copied (fun z => .int z) _ _ (entI h a0) (entI h a) (by omega)
  have en : va_cpy (entI h a0) (entI h a) sp.toNatClampNeg dp.toNatClampNeg n.toNatClampNeg = entI (wC h a0 a sp dp n) a := by
    funext j
    by_cases hj : j < 2147483648
    · rw [cpI_ent (f := h.1 a0) (g := h.1 a) (n1 := n1) h1 h2 h3 h4 hn0 hj (entI h a0) (entI h a) (fun j hj => by unfold entI; rw [if_pos hj]) (fun j hj => by unfold entI; rw [if_pos hj])]
      unfold entI wC
      simp [hj]
    · unfold entI
      rw [if_neg hj]
      simp only [va_cpy]
      have hl2 := Int32.toInt_lt sp
      by_cases hc : dp.toNatClampNeg ≤ j ∧ j < dp.toNatClampNeg + n.toNatClampNeg
      · omega
      · rw [if_neg hc, if_neg hj]
  rw [ec, en] at X' step
  have hla : gb G + a < H.size := (Array.getElem?_eq_some_iff.mp hc1').1
  generalize hZ : vp_cell (G.2.2.1 0) (n1, .inl (entI (wC h a0 a sp dp n) a)) = Z at X' step
  have hheap : ((Tt.setVm vm').setCell (gb G + a) Z).heap = H.setIfInBounds (gb G + a) Z := by rw [← hT]; rfl
  have oq : ∀ x : Nat, x ≠ gb G + a → (H.setIfInBounds (gb G + a) Z)[x]? = H[x]? := fun x hx => by simp [Array.getElem?_setIfInBounds, Ne.symm hx]
  obtain ⟨t, a1, b1⟩ := kk p e R s m args below meth cc (H.setIfInBounds (gb G + a) Z) _ cells slots KK Zs ls hC (hH.upd rfl (fun j hj => ent_congr (by simp [wC, hj]) rfl (fun _ => rfl) rfl) (by simp) oq (by
      have hs' : rS T (wC h a0 a sp dp n) a = (100, n1) := hs1
      rw [ent_i hs']
      show (H.setIfInBounds (gb G + a) Z)[gb G + a]? = some (vp_cell _ _)
      rw [hZ]
      simp [Array.getElem?_setIfInBounds, hla])) ⟨by simp; exact hS.1, fun x g1 g2 => by
        rw [oq x (fun e9 => g2 (by rw [e9]; exact Nat.le_add_right _ _))]
        exact hS.2.1 x g1 g2, fun x hx => by
        rcases List.mem_append.mp hx with h9 | h9
        · exact hS.2.2 x h9
        · obtain ⟨z, -, hz⟩ := List.mem_map.mp h9
          rw [← hz]
          exact Nat.le_add_right _ _⟩ hl hc1 hc2 hk1 hk2 hE _ hheap X'
  exact ⟨t, step t a1, b1⟩
end HOPS5
