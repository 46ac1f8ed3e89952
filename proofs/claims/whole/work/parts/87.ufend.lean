/-! UpperFloors.<init>, to its end -/
def hV : AH := (fun a => if a < 59 then (hPs 58).1 a else fun _ => 0, (hPs 58).2.1, fun a => if a < 59 then (hPs 58).2.2.1 a else fun _ => 0, fun a => if a < 59 then (hPs 58).2.2.2.1 a else (0, 0), 0)
theorem hV_n : nC TU hV = nC T0 (hPs 58) := by decide +kernel
theorem n_hPs : nC T0 (hPs 58) = 59 := by decide +kernel
theorem hV_S : ∀ a, a < 59 → rS TU hV a = rS T0 (hPs 58) a := by decide +kernel
def chkR (o : Option Nat) (v : Nat) : Bool := match o with
  | none => true
  | some w => w == v
theorem hV_R0 : ∀ a, a < 59 → ∀ k, k < 8 → chkR (TU.1 a k) ((hPs 58).2.2.1 a k) = true := by decide +kernel
theorem tblRU_len : ∀ r ∈ tblRU, r.length ≤ 8 := by decide +kernel
theorem TU_8 {a k : Nat} (h : 8 ≤ k) : TU.1 a k = none := by
  show nthN (nthN tblRU a []) k none = none
  rcases nthN_mem tblRU a [] with e | ⟨_, e⟩
  · rw [e]; rfl
  · exact nthN_ge _ _ _ (Nat.le_trans (tblRU_len _ e) h)
theorem hV_R {a : Nat} (ha : a < 59) (k : Nat) : rR TU hV a k = rR T0 (hPs 58) a k := by
  have e0 : hV.2.2.1 a k = (hPs 58).2.2.1 a k := by
    show (if a < 59 then (hPs 58).2.2.1 a else fun _ => 0) k = _
    rw [if_pos ha]
  have e1 : rR T0 (hPs 58) a k = (hPs 58).2.2.1 a k := rfl
  rw [e1]
  unfold rR
  by_cases c : k < 8
  · have z := hV_R0 a ha k c
    cases e : TU.1 a k with
    | none => exact e0
    | some v => rw [e] at z; exact of_decide_eq_true z
  · rw [TU_8 (Nat.le_of_not_lt c)]; exact e0
theorem hV_ent {G : GG} : ∀ k, k < nC T0 (hPs 58) → ent G TU hV k = ent G T0 (hPs 58) k := fun k hk => by
  rw [n_hPs] at hk
  refine ent_view ?_ rfl (hV_R hk) (hV_S k hk)
  show (if k < 59 then (hPs 58).1 k else fun _ => 0) = _
  rw [if_pos hk]
def PU (g : AH) : Prop := g.2.2.2 = hV.2.2.2 ∧ (∀ a, ¬ a = 25 → g.2.2.1 a = hV.2.2.1 a) ∧ (∀ b, b ∉ SCf 0 → ¬ b = 0 → g.1 b = hV.1 b) ∧ g.1 0 = up (hV.1 0) 8 1 ∧ ∃ o' : List Int32, DSo esF o' ∧ o'.length ≤ 58 ∧ (∀ j, j < o'.length → g.1 (34 + 3 * 0) (nI j) = mapC (o'.getD j 0)) ∧ FR 0 3 esF g
theorem hV_tape : ∀ j, j < 58 → hV.1 4 (nI j) = bF j := by decide +kernel
theorem PU_of {h' : AH} {o' : List Int32} (D : DSo esF o') (l : o'.length ≤ 58) (c : ∀ j, j < o'.length → h'.1 (34 + 3 * 0) (nI j) = mapC (o'.getD j 0)) (F : FR 0 3 esF h') (f : frP 0 hV h') : PU (wI h' 0 8 1) := by
  refine ⟨f.1, f.2.1, fun b hb h0 => ?_, ?_, o', D, l, fun j hj => ?_, ?_⟩
  · rw [wI_r, if_neg h0]; exact f.2.2 b hb
  · rw [wI_r, if_pos rfl, f.2.2 0 (by decide)]
  · rw [wI_r, if_neg (by decide)]; exact c j hj
  · unfold FR at F ⊢
    rw [wI_r, if_neg (by decide)]; exact F
theorem ok_UF_init {G : GG} {d : Nat} : WP G T0 m_UF_init (d + 60) [.ref 0] uh0 58 1667 (vQ (fun h => ∃ g, h = flT TU T0 g ∧ PU g)) := by
  refine WP.enter 1 (by decide) rfl rfl ?_
  refine uf_init_0 ?_
  refine A_view (T2 := TU) (h2 := hV) (Q2 := vQ PU) hV_n hV_ent (fun v g hq => ?_) ?_
  · cases v with
    | none => exact ⟨flT TU T0 g, ⟨g, rfl, hq⟩, flT_nC subT_0U g, fun k _ => flT_ent subT_0U g k⟩
    | some _ => exact hq.elim
  refine A_aload_n d_UF_init_202 rfl ?_
  refine A_get (v := .ref 25) d_UF_init_203 (fo_UF_51_11 rfl) (vA_s (by decide)) rfl rfl ?_
  refine A_aload_n d_UF_init_206 rfl ?_
  refine A_get (v := .ref 4) d_UF_init_207 (fo_UF_27_11 rfl) (vA_s (by decide)) rfl rfl ?_
  refine A_ldcS 0 d_UF_init_210 rfl rfl ?_
  refine A_cI (Qc := fun r h2 => r = 58 ∧ h2 = hV) [.ref (1000000 + 0)] [.ref 4, .ref 25] (ct_UF_62 rfl) d_UF_init_212 rfl rfl (by decide) (Nat.le_of_ble_eq_true rfl) (rcA_s rfl (by decide)) (ok_Str_length (d := d + 58) ⟨0, rfl, by decide, rfl, rfl⟩) (fun r h2 e => ?_)
  obtain ⟨rfl, rfl⟩ := e
  refine A_aload_n d_UF_init_215 rfl ?_
  refine A_get (v := .ref 2) d_UF_init_216 (fo_UF_17_11 rfl) (vA_s (by decide)) rfl rfl ?_
  refine A_iconst 0 (by decide) d_UF_init_219 ?_
  refine A_aald (t := 1) (n := 6) (b := 33) d_UF_init_220 (by decide) (vA_s (by decide)) rfl (by decide) rfl ?_
  refine A_cI (Qc := fun r h2 => PU (wI h2 0 8 1)) [.ref 25, .ref 4, .int 58, .ref 33] [] (ct_UF_72 rfl) d_UF_init_221 rfl rfl (by decide) (Nat.le_of_ble_eq_true rfl) (rcA_o (c := 7) rfl (vA_s (by decide)) rfl (by decide) rfl) (ok_Reader_readU (d := d + 50) (P_Reader_either := PRdU 42 0) (ok_PRdU (d := d + 8) 42).1 (read_first hV_tape (fun o' h' D l c F f => PU_of D l c F f))) (fun r h2 H => ?_)
  refine A_pop rfl d_UF_init_224 ?_
  refine A_aload_n d_UF_init_225 rfl ?_
  refine A_iconst 1 (by decide) d_UF_init_226 ?_
  refine A_putI (k := 8) (x := 1) d_UF_init_227 (fo_UF_76_11 rfl) (Or.inl ft_11_8) (fun z => by cases z) rfl (vA_s (by decide)) rfl rfl rfl ?_
  exact A_ret d_UF_init_230 rfl H
