/-! UpperFloors.<init>, from a closed heap, up to the reader (printed by wip/gen/ctor.py) -/
theorem d_UF_init_0 : decode prog_1_method_1_code 0 = .ok (.aload_n 0, 1) := by decide +kernel
theorem d_UF_init_1 : decode prog_1_method_1_code 1 = .ok (.invokespecial 1, 3) := by decide +kernel
theorem d_UF_init_4 : decode prog_1_method_1_code 4 = .ok (.aload_n 0, 1) := by decide +kernel
theorem d_UF_init_5 : decode prog_1_method_1_code 5 = .ok (.bipush 7, 2) := by decide +kernel
theorem d_UF_init_7 : decode prog_1_method_1_code 7 = .ok (.anewarray 9, 3) := by decide +kernel
theorem d_UF_init_10 : decode prog_1_method_1_code 10 = .ok (.putfield 11, 3) := by decide +kernel
theorem d_UF_init_13 : decode prog_1_method_1_code 13 = .ok (.aload_n 0, 1) := by decide +kernel
theorem d_UF_init_14 : decode prog_1_method_1_code 14 = .ok (.bipush 6, 2) := by decide +kernel
theorem d_UF_init_16 : decode prog_1_method_1_code 16 = .ok (.anewarray 15, 3) := by decide +kernel
theorem d_UF_init_19 : decode prog_1_method_1_code 19 = .ok (.putfield 17, 3) := by decide +kernel
theorem d_UF_init_22 : decode prog_1_method_1_code 22 = .ok (.aload_n 0, 1) := by decide +kernel
theorem d_UF_init_23 : decode prog_1_method_1_code 23 = .ok (.iconst 4, 1) := by decide +kernel
theorem d_UF_init_24 : decode prog_1_method_1_code 24 = .ok (.anewarray 21, 3) := by decide +kernel
theorem d_UF_init_27 : decode prog_1_method_1_code 27 = .ok (.putfield 23, 3) := by decide +kernel
theorem d_UF_init_30 : decode prog_1_method_1_code 30 = .ok (.aload_n 0, 1) := by decide +kernel
theorem d_UF_init_31 : decode prog_1_method_1_code 31 = .ok (.sipush 160, 3) := by decide +kernel
theorem d_UF_init_34 : decode prog_1_method_1_code 34 = .ok (.newarray .int, 2) := by decide +kernel
theorem d_UF_init_36 : decode prog_1_method_1_code 36 = .ok (.putfield 27, 3) := by decide +kernel
theorem d_UF_init_39 : decode prog_1_method_1_code 39 = .ok (.aload_n 0, 1) := by decide +kernel
theorem d_UF_init_40 : decode prog_1_method_1_code 40 = .ok (.new 31, 3) := by decide +kernel
theorem d_UF_init_43 : decode prog_1_method_1_code 43 = .ok (.dup, 1) := by decide +kernel
theorem d_UF_init_44 : decode prog_1_method_1_code 44 = .ok (.invokespecial 33, 3) := by decide +kernel
theorem d_UF_init_47 : decode prog_1_method_1_code 47 = .ok (.putfield 34, 3) := by decide +kernel
theorem d_UF_init_50 : decode prog_1_method_1_code 50 = .ok (.aload_n 0, 1) := by decide +kernel
theorem d_UF_init_51 : decode prog_1_method_1_code 51 = .ok (.new 31, 3) := by decide +kernel
theorem d_UF_init_54 : decode prog_1_method_1_code 54 = .ok (.dup, 1) := by decide +kernel
theorem d_UF_init_55 : decode prog_1_method_1_code 55 = .ok (.invokespecial 33, 3) := by decide +kernel
theorem d_UF_init_58 : decode prog_1_method_1_code 58 = .ok (.putfield 38, 3) := by decide +kernel
theorem d_UF_init_61 : decode prog_1_method_1_code 61 = .ok (.aload_n 0, 1) := by decide +kernel
theorem d_UF_init_62 : decode prog_1_method_1_code 62 = .ok (.new 41, 3) := by decide +kernel
theorem d_UF_init_65 : decode prog_1_method_1_code 65 = .ok (.dup, 1) := by decide +kernel
theorem d_UF_init_66 : decode prog_1_method_1_code 66 = .ok (.invokespecial 43, 3) := by decide +kernel
theorem d_UF_init_69 : decode prog_1_method_1_code 69 = .ok (.putfield 44, 3) := by decide +kernel
theorem d_UF_init_72 : decode prog_1_method_1_code 72 = .ok (.aload_n 0, 1) := by decide +kernel
theorem d_UF_init_73 : decode prog_1_method_1_code 73 = .ok (.new 48, 3) := by decide +kernel
theorem d_UF_init_76 : decode prog_1_method_1_code 76 = .ok (.dup, 1) := by decide +kernel
theorem d_UF_init_77 : decode prog_1_method_1_code 77 = .ok (.invokespecial 50, 3) := by decide +kernel
theorem d_UF_init_80 : decode prog_1_method_1_code 80 = .ok (.putfield 51, 3) := by decide +kernel
theorem d_UF_init_83 : decode prog_1_method_1_code 83 = .ok (.iconst 0, 1) := by decide +kernel
theorem d_UF_init_84 : decode prog_1_method_1_code 84 = .ok (.istore_n 1, 1) := by decide +kernel
theorem d_UF_init_85 : decode prog_1_method_1_code 85 = .ok (.iload_n 1, 1) := by decide +kernel
theorem d_UF_init_86 : decode prog_1_method_1_code 86 = .ok (.bipush 7, 2) := by decide +kernel
theorem d_UF_init_88 : decode prog_1_method_1_code 88 = .ok (.if_icmp .ge 25, 3) := by decide +kernel
theorem d_UF_init_91 : decode prog_1_method_1_code 91 = .ok (.aload_n 0, 1) := by decide +kernel
theorem d_UF_init_92 : decode prog_1_method_1_code 92 = .ok (.getfield 11, 3) := by decide +kernel
theorem d_UF_init_95 : decode prog_1_method_1_code 95 = .ok (.iload_n 1, 1) := by decide +kernel
theorem d_UF_init_96 : decode prog_1_method_1_code 96 = .ok (.new 9, 3) := by decide +kernel
theorem d_UF_init_99 : decode prog_1_method_1_code 99 = .ok (.dup, 1) := by decide +kernel
theorem d_UF_init_100 : decode prog_1_method_1_code 100 = .ok (.iconst 0, 1) := by decide +kernel
theorem d_UF_init_101 : decode prog_1_method_1_code 101 = .ok (.iconst 0, 1) := by decide +kernel
theorem d_UF_init_102 : decode prog_1_method_1_code 102 = .ok (.iconst 0, 1) := by decide +kernel
theorem d_UF_init_103 : decode prog_1_method_1_code 103 = .ok (.invokespecial 55, 3) := by decide +kernel
theorem d_UF_init_106 : decode prog_1_method_1_code 106 = .ok (.aastore, 1) := by decide +kernel
theorem d_UF_init_107 : decode prog_1_method_1_code 107 = .ok (.iinc 1 1, 3) := by decide +kernel
theorem d_UF_init_110 : decode prog_1_method_1_code 110 = .ok (.goto (-25), 3) := by decide +kernel
theorem d_UF_init_113 : decode prog_1_method_1_code 113 = .ok (.iconst 0, 1) := by decide +kernel
theorem d_UF_init_114 : decode prog_1_method_1_code 114 = .ok (.istore_n 1, 1) := by decide +kernel
theorem d_UF_init_115 : decode prog_1_method_1_code 115 = .ok (.iload_n 1, 1) := by decide +kernel
theorem d_UF_init_116 : decode prog_1_method_1_code 116 = .ok (.bipush 6, 2) := by decide +kernel
theorem d_UF_init_118 : decode prog_1_method_1_code 118 = .ok (.if_icmp .ge 22, 3) := by decide +kernel
theorem d_UF_init_121 : decode prog_1_method_1_code 121 = .ok (.aload_n 0, 1) := by decide +kernel
theorem d_UF_init_122 : decode prog_1_method_1_code 122 = .ok (.getfield 17, 3) := by decide +kernel
theorem d_UF_init_125 : decode prog_1_method_1_code 125 = .ok (.iload_n 1, 1) := by decide +kernel
theorem d_UF_init_126 : decode prog_1_method_1_code 126 = .ok (.new 15, 3) := by decide +kernel
theorem d_UF_init_129 : decode prog_1_method_1_code 129 = .ok (.dup, 1) := by decide +kernel
theorem d_UF_init_130 : decode prog_1_method_1_code 130 = .ok (.invokespecial 58, 3) := by decide +kernel
theorem d_UF_init_133 : decode prog_1_method_1_code 133 = .ok (.aastore, 1) := by decide +kernel
theorem d_UF_init_134 : decode prog_1_method_1_code 134 = .ok (.iinc 1 1, 3) := by decide +kernel
theorem d_UF_init_137 : decode prog_1_method_1_code 137 = .ok (.goto (-22), 3) := by decide +kernel
theorem d_UF_init_140 : decode prog_1_method_1_code 140 = .ok (.iconst 0, 1) := by decide +kernel
theorem d_UF_init_141 : decode prog_1_method_1_code 141 = .ok (.istore_n 1, 1) := by decide +kernel
theorem d_UF_init_142 : decode prog_1_method_1_code 142 = .ok (.iload_n 1, 1) := by decide +kernel
theorem d_UF_init_143 : decode prog_1_method_1_code 143 = .ok (.iconst 4, 1) := by decide +kernel
theorem d_UF_init_144 : decode prog_1_method_1_code 144 = .ok (.if_icmp .ge 22, 3) := by decide +kernel
theorem d_UF_init_147 : decode prog_1_method_1_code 147 = .ok (.aload_n 0, 1) := by decide +kernel
theorem d_UF_init_148 : decode prog_1_method_1_code 148 = .ok (.getfield 23, 3) := by decide +kernel
theorem d_UF_init_151 : decode prog_1_method_1_code 151 = .ok (.iload_n 1, 1) := by decide +kernel
theorem d_UF_init_152 : decode prog_1_method_1_code 152 = .ok (.new 21, 3) := by decide +kernel
theorem d_UF_init_155 : decode prog_1_method_1_code 155 = .ok (.dup, 1) := by decide +kernel
theorem d_UF_init_156 : decode prog_1_method_1_code 156 = .ok (.invokespecial 59, 3) := by decide +kernel
theorem d_UF_init_159 : decode prog_1_method_1_code 159 = .ok (.aastore, 1) := by decide +kernel
theorem d_UF_init_160 : decode prog_1_method_1_code 160 = .ok (.iinc 1 1, 3) := by decide +kernel
theorem d_UF_init_163 : decode prog_1_method_1_code 163 = .ok (.goto (-21), 3) := by decide +kernel
theorem d_UF_init_166 : decode prog_1_method_1_code 166 = .ok (.iconst 0, 1) := by decide +kernel
theorem d_UF_init_167 : decode prog_1_method_1_code 167 = .ok (.istore_n 1, 1) := by decide +kernel
theorem d_UF_init_168 : decode prog_1_method_1_code 168 = .ok (.iload_n 1, 1) := by decide +kernel
theorem d_UF_init_169 : decode prog_1_method_1_code 169 = .ok (.ldc 60, 2) := by decide +kernel
theorem d_UF_init_171 : decode prog_1_method_1_code 171 = .ok (.invokevirtual 62, 3) := by decide +kernel
theorem d_UF_init_174 : decode prog_1_method_1_code 174 = .ok (.if_icmp .ge 28, 3) := by decide +kernel
theorem d_UF_init_177 : decode prog_1_method_1_code 177 = .ok (.iload_n 1, 1) := by decide +kernel
theorem d_UF_init_178 : decode prog_1_method_1_code 178 = .ok (.sipush 160, 3) := by decide +kernel
theorem d_UF_init_181 : decode prog_1_method_1_code 181 = .ok (.if_icmp .ge 21, 3) := by decide +kernel
theorem d_UF_init_184 : decode prog_1_method_1_code 184 = .ok (.aload_n 0, 1) := by decide +kernel
theorem d_UF_init_185 : decode prog_1_method_1_code 185 = .ok (.getfield 27, 3) := by decide +kernel
theorem d_UF_init_188 : decode prog_1_method_1_code 188 = .ok (.iload_n 1, 1) := by decide +kernel
theorem d_UF_init_189 : decode prog_1_method_1_code 189 = .ok (.ldc 60, 2) := by decide +kernel
theorem d_UF_init_191 : decode prog_1_method_1_code 191 = .ok (.iload_n 1, 1) := by decide +kernel
theorem d_UF_init_192 : decode prog_1_method_1_code 192 = .ok (.invokevirtual 68, 3) := by decide +kernel
theorem d_UF_init_195 : decode prog_1_method_1_code 195 = .ok (.iastore, 1) := by decide +kernel
theorem d_UF_init_196 : decode prog_1_method_1_code 196 = .ok (.iinc 1 1, 3) := by decide +kernel
theorem d_UF_init_199 : decode prog_1_method_1_code 199 = .ok (.goto (-31), 3) := by decide +kernel
theorem d_UF_init_202 : decode prog_1_method_1_code 202 = .ok (.aload_n 0, 1) := by decide +kernel
theorem d_UF_init_203 : decode prog_1_method_1_code 203 = .ok (.getfield 51, 3) := by decide +kernel
theorem d_UF_init_206 : decode prog_1_method_1_code 206 = .ok (.aload_n 0, 1) := by decide +kernel
theorem d_UF_init_207 : decode prog_1_method_1_code 207 = .ok (.getfield 27, 3) := by decide +kernel
theorem d_UF_init_210 : decode prog_1_method_1_code 210 = .ok (.ldc 60, 2) := by decide +kernel
theorem d_UF_init_212 : decode prog_1_method_1_code 212 = .ok (.invokevirtual 62, 3) := by decide +kernel
theorem d_UF_init_215 : decode prog_1_method_1_code 215 = .ok (.aload_n 0, 1) := by decide +kernel
theorem d_UF_init_216 : decode prog_1_method_1_code 216 = .ok (.getfield 17, 3) := by decide +kernel
theorem d_UF_init_219 : decode prog_1_method_1_code 219 = .ok (.iconst 0, 1) := by decide +kernel
theorem d_UF_init_220 : decode prog_1_method_1_code 220 = .ok (.aaload, 1) := by decide +kernel
theorem d_UF_init_221 : decode prog_1_method_1_code 221 = .ok (.invokevirtual 72, 3) := by decide +kernel
theorem d_UF_init_224 : decode prog_1_method_1_code 224 = .ok (.pop, 1) := by decide +kernel
theorem d_UF_init_225 : decode prog_1_method_1_code 225 = .ok (.aload_n 0, 1) := by decide +kernel
theorem d_UF_init_226 : decode prog_1_method_1_code 226 = .ok (.iconst 1, 1) := by decide +kernel
theorem d_UF_init_227 : decode prog_1_method_1_code 227 = .ok (.putfield 76, 3) := by decide +kernel
theorem d_UF_init_230 : decode prog_1_method_1_code 230 = .ok (.return_, 1) := by decide +kernel
def zH : AH := (fun _ _ => 0, fun _ _ => 0, fun _ _ => 0, fun _ => (0, 0), 0)
def uh0 : AH := wN T0 zH (11, 11)
def uh1 : AH := addQ T0 uh0 0 0 0 7
def uh2 : AH := addQ T0 uh1 0 1 1 6
def uh3 : AH := addQ T0 uh2 0 2 2 4
def uh4 : AH := addI T0 uh3 0 3 160
def uh5 : AH := addT uh4 0 4
def uh6 : AH := addT uh5 0 5
def uh7 : AH := wR (mkDusk (wN T0 uh6 (2, 9)) (nC T0 uh6)) 0 6 (nC T0 uh6 + 1)
def uh8 : AH := wR (mkReader T0 (wN T0 uh7 (7, 7)) (nC T0 uh7)) 0 7 (nC T0 uh7 + 1)
def hHs : Nat → AH
  | 0 => uh8
  | k + 1 => wR (mkH T0 (hHs k) 4 0 0 0) 1 k (nC T0 (hHs k) + 1)
def hTs : Nat → AH
  | 0 => hHs 7
  | k + 1 => wR (mkLaw T0 (wN T0 (hTs k) (6, 3)) (nC T0 (hTs k))) 2 k (nC T0 (hTs k) + 1)
def hSs : Nat → AH
  | 0 => hTs 6
  | k + 1 => wR (mkSheet T0 (wN T0 (hSs k) (8, 3)) (nC T0 (hSs k))) 3 k (nC T0 (hSs k) + 1)
def hPs : Nat → AH
  | 0 => hSs 4
  | k + 1 => wI (hPs k) 4 (nI k) (chS 0 (nI k))
theorem hHs_ok : ∀ k, k < 8 → (vA T0 (hHs k) 0 ∧ (rS T0 (hHs k) 0).1 = 11 ∧ rR T0 (hHs k) 0 0 = 2) ∧ vA T0 (mkH T0 (hHs k) 4 0 0 0) 1 ∧ rS T0 (mkH T0 (hHs k) 4 0 0 0) 1 = (101, 7) ∧ vA T0 (mkH T0 (hHs k) 4 0 0 0) (nC T0 (hHs k)) ∧ (rS T0 (mkH T0 (hHs k) 4 0 0 0) (nC T0 (hHs k))).1 = 4 := by decide +kernel
theorem hTs_ok : ∀ k, k < 7 → (vA T0 (hTs k) 0 ∧ (rS T0 (hTs k) 0).1 = 11 ∧ rR T0 (hTs k) 0 1 = 3) ∧ vA T0 (mkLaw T0 (wN T0 (hTs k) (6, 3)) (nC T0 (hTs k))) 2 ∧ rS T0 (mkLaw T0 (wN T0 (hTs k) (6, 3)) (nC T0 (hTs k))) 2 = (102, 6) ∧ vA T0 (mkLaw T0 (wN T0 (hTs k) (6, 3)) (nC T0 (hTs k))) (nC T0 (hTs k)) ∧ (rS T0 (mkLaw T0 (wN T0 (hTs k) (6, 3)) (nC T0 (hTs k))) (nC T0 (hTs k))).1 = 6 := by decide +kernel
theorem hSs_ok : ∀ k, k < 5 → (vA T0 (hSs k) 0 ∧ (rS T0 (hSs k) 0).1 = 11 ∧ rR T0 (hSs k) 0 2 = 4) ∧ vA T0 (mkSheet T0 (wN T0 (hSs k) (8, 3)) (nC T0 (hSs k))) 3 ∧ rS T0 (mkSheet T0 (wN T0 (hSs k) (8, 3)) (nC T0 (hSs k))) 3 = (103, 4) ∧ vA T0 (mkSheet T0 (wN T0 (hSs k) (8, 3)) (nC T0 (hSs k))) (nC T0 (hSs k)) ∧ (rS T0 (mkSheet T0 (wN T0 (hSs k) (8, 3)) (nC T0 (hSs k))) (nC T0 (hSs k))).1 = 8 := by decide +kernel
theorem hPs_ok : ∀ k, k < 59 → vA T0 (hPs k) 0 ∧ (rS T0 (hPs k) 0).1 = 11 ∧ rR T0 (hPs k) 0 3 = 5 ∧ vA T0 (hPs k) 4 ∧ rS T0 (hPs k) 4 = (100, 160) := by decide +kernel
abbrev L0 (x : Int32) : LL := [some (.ref 0), some (.int x)]
theorem r_UF_init_85 {G : GG} {d bc bs : Nat} {Q : QQ} (K : Att G T0 m_UF_init (d + 60) 113 (L0 (nI 7)) [] (hHs 7) bc bs Q) : ∀ n k, n + k = 7 → Att G T0 m_UF_init (d + 60) 85 (L0 (nI k)) [] (hHs k) (bc + 1 * n) (bs + 3 * n) Q := by
  intro n
  induction n with
  | zero =>
    intro k hk
    have hk2 : k = 7 := by omega
    subst hk2
    refine A_iload_n d_UF_init_85 rfl ?_
    refine A_bipush 7 (by decide) d_UF_init_86 ?_
    refine A_icmp_ge 113 d_UF_init_88 (by decide) (fun z => ?_) (fun z => absurd (Int32.le_refl _) z)
    exact K
  | succ n ih =>
    intro k hk
    have hkl : k < 7 := by omega
    obtain ⟨⟨f1, f2, f3⟩, f4, f5, f6, f7⟩ := hHs_ok k (by omega)
    refine A_iload_n d_UF_init_85 rfl ?_
    refine A_bipush 7 (by decide) d_UF_init_86 ?_
    refine A_icmp_ge 113 d_UF_init_88 (by decide) (fun z => absurd z (nI_ge hkl (by decide))) (fun z => ?_)
    refine A_aload_n d_UF_init_91 rfl ?_
    refine A_get (v := .ref 1) d_UF_init_92 (fo_UF_11_11 rfl) f1 f2 (congrArg vR f3) ?_
    refine A_iload_n d_UF_init_95 rfl ?_
    refine A_new (bc := bc + 1 * n) (bs := bs + 3 * n) (c := 4) t_House d_UF_init_96 ck_House t_House_ok (fun k hk => by match k, hk with | 0, _ => rfl | 1, _ => rfl | 2, _ => rfl) (tG 29 (by decide +kernel) (by decide +kernel)) (tG 139 (by decide +kernel) (by decide +kernel)) (tG 5 (by decide +kernel) (by decide +kernel)) (frN_T0 _) ?_
    refine A_dup rfl d_UF_init_99 ?_
    refine A_iconst 0 (by decide) d_UF_init_100 ?_
    refine A_iconst 0 (by decide) d_UF_init_101 ?_
    refine A_iconst 0 (by decide) d_UF_init_102 ?_
    refine A_cV (Qc := fun h2 => h2 = mkH T0 (hHs k) 4 0 0 0) [.ref (nC T0 (hHs k)), .int 0, .int 0, .int 0] [.ref (nC T0 (hHs k)), .int (nI k), .ref 1] (ct_UF_55 rfl) d_UF_init_103 rfl rfl (by decide) (Nat.le_of_ble_eq_true rfl) ⟨_, _, rfl⟩ (w_House_init (d := d + 58) (c := 4) vA_wN (by rw [rS_wN rfl]) (by unfold famP; decide) rfl) (fun h2 e => ?_)
    rw [e]
    refine A_aast (t := 0) (n := 7) (c := 4) d_UF_init_106 (by decide) f4 f5 (inb_nI hkl (by decide)) f6 f7 (by decide) (fam_asg (by unfold famP; decide)) rfl ?_
    rw [nI_clamp (by omega)]
    refine A_iinc 1 (L0 (nI (k + 1))) d_UF_init_107 rfl (by decide) (by decide) rfl (by rw [nI_succ]; rfl) ?_
    refine A_goto 85 d_UF_init_110 (by decide) ?_
    exact ih (k + 1) (by omega)
theorem r_UF_init_115 {G : GG} {d bc bs : Nat} {Q : QQ} (K : Att G T0 m_UF_init (d + 60) 140 (L0 (nI 6)) [] (hTs 6) bc bs Q) : ∀ n k, n + k = 6 → Att G T0 m_UF_init (d + 60) 115 (L0 (nI k)) [] (hTs k) (bc + 3 * n) (bs + 167 * n) Q := by
  intro n
  induction n with
  | zero =>
    intro k hk
    have hk2 : k = 6 := by omega
    subst hk2
    refine A_iload_n d_UF_init_115 rfl ?_
    refine A_bipush 6 (by decide) d_UF_init_116 ?_
    refine A_icmp_ge 140 d_UF_init_118 (by decide) (fun z => ?_) (fun z => absurd (Int32.le_refl _) z)
    exact K
  | succ n ih =>
    intro k hk
    have hkl : k < 6 := by omega
    obtain ⟨⟨f1, f2, f3⟩, f4, f5, f6, f7⟩ := hTs_ok k (by omega)
    refine A_iload_n d_UF_init_115 rfl ?_
    refine A_bipush 6 (by decide) d_UF_init_116 ?_
    refine A_icmp_ge 140 d_UF_init_118 (by decide) (fun z => absurd z (nI_ge hkl (by decide))) (fun z => ?_)
    refine A_aload_n d_UF_init_121 rfl ?_
    refine A_get (v := .ref 2) d_UF_init_122 (fo_UF_17_11 rfl) f1 f2 (congrArg vR f3) ?_
    refine A_iload_n d_UF_init_125 rfl ?_
    rw [show bc + 3 * (n + 1) = bc + 3 * n + 2 + 1 by omega, show bs + 167 * (n + 1) = bs + 167 * n + 164 + 3 by omega]
    refine A_mkO (d := d + 59) (bc := bc + 3 * n) (bs := bs + 167 * n) (mc := 2) (ms := 164) (c := 6) t_Law d_UF_init_126 d_UF_init_129 d_UF_init_130 ck_Law t_Law_ok (fun k hk => by match k, hk with | 0, _ => rfl | 1, _ => rfl | 2, _ => rfl) (tG 31 (by decide +kernel) (by decide +kernel)) (tG 167 (by decide +kernel) (by decide +kernel)) (tG 6 (by decide +kernel) (by decide +kernel)) (ct_UF_58 rfl) (by decide) (Nat.le_of_ble_eq_true rfl) (fun Q H => w_Law_init (vA_wN (T := T0)) (by rw [rS_wN rfl]) H) ?_
    refine A_aast (t := 1) (n := 6) (c := 6) d_UF_init_133 (by decide) f4 f5 (inb_nI hkl (by decide)) f6 f7 (by decide) ⟨_, _, _, _, rfl, rfl, Or.inl rfl⟩ rfl ?_
    rw [nI_clamp (by omega)]
    refine A_iinc 1 (L0 (nI (k + 1))) d_UF_init_134 rfl (by decide) (by decide) rfl (by rw [nI_succ]; rfl) ?_
    refine A_goto 115 d_UF_init_137 (by decide) ?_
    exact ih (k + 1) (by omega)
theorem r_UF_init_142 {G : GG} {d bc bs : Nat} {Q : QQ} (K : Att G T0 m_UF_init (d + 60) 166 (L0 (nI 4)) [] (hSs 4) bc bs Q) : ∀ n k, n + k = 4 → Att G T0 m_UF_init (d + 60) 142 (L0 (nI k)) [] (hSs k) (bc + 2 * n) (bs + 43 * n) Q := by
  intro n
  induction n with
  | zero =>
    intro k hk
    have hk2 : k = 4 := by omega
    subst hk2
    refine A_iload_n d_UF_init_142 rfl ?_
    refine A_iconst 4 (by decide) d_UF_init_143 ?_
    refine A_icmp_ge 166 d_UF_init_144 (by decide) (fun z => ?_) (fun z => absurd (Int32.le_refl _) z)
    exact K
  | succ n ih =>
    intro k hk
    have hkl : k < 4 := by omega
    obtain ⟨⟨f1, f2, f3⟩, f4, f5, f6, f7⟩ := hSs_ok k (by omega)
    refine A_iload_n d_UF_init_142 rfl ?_
    refine A_iconst 4 (by decide) d_UF_init_143 ?_
    refine A_icmp_ge 166 d_UF_init_144 (by decide) (fun z => absurd z (nI_ge hkl (by decide))) (fun z => ?_)
    refine A_aload_n d_UF_init_147 rfl ?_
    refine A_get (v := .ref 3) d_UF_init_148 (fo_UF_23_11 rfl) f1 f2 (congrArg vR f3) ?_
    refine A_iload_n d_UF_init_151 rfl ?_
    rw [show bc + 2 * (n + 1) = bc + 2 * n + 1 + 1 by omega, show bs + 43 * (n + 1) = bs + 43 * n + 40 + 3 by omega]
    refine A_mkO (d := d + 59) (bc := bc + 2 * n) (bs := bs + 43 * n) (mc := 1) (ms := 40) (c := 8) t_Sheet d_UF_init_152 d_UF_init_155 d_UF_init_156 ck_Sheet t_Sheet_ok (fun k hk => by match k, hk with | 0, _ => rfl | 1, _ => rfl | 2, _ => rfl) (tG 33 (by decide +kernel) (by decide +kernel)) (tG 184 (by decide +kernel) (by decide +kernel)) (tG 7 (by decide +kernel) (by decide +kernel)) (ct_UF_59 rfl) (by decide) (Nat.le_of_ble_eq_true rfl) (fun Q H => w_Sheet_init (vA_wN (T := T0)) (by rw [rS_wN rfl]) H) ?_
    refine A_aast (t := 2) (n := 4) (c := 8) d_UF_init_159 (by decide) f4 f5 (inb_nI hkl (by decide)) f6 f7 (by decide) ⟨_, _, _, _, rfl, rfl, Or.inl rfl⟩ rfl ?_
    rw [nI_clamp (by omega)]
    refine A_iinc 1 (L0 (nI (k + 1))) d_UF_init_160 rfl (by decide) (by decide) rfl (by rw [nI_succ]; rfl) ?_
    refine A_goto 142 d_UF_init_163 (by decide) ?_
    exact ih (k + 1) (by omega)
theorem r_UF_init_168 {G : GG} {d bc bs : Nat} {Q : QQ} (K : Att G T0 m_UF_init (d + 60) 202 (L0 (nI 58)) [] (hPs 58) bc bs Q) : ∀ n k, n + k = 58 → Att G T0 m_UF_init (d + 60) 168 (L0 (nI k)) [] (hPs k) bc bs Q := by
  intro n
  induction n with
  | zero =>
    intro k hk
    have hk2 : k = 58 := by omega
    subst hk2
    refine A_iload_n d_UF_init_168 rfl ?_
    refine A_ldcS 0 d_UF_init_169 rfl rfl ?_
    refine A_cI (Qc := fun r h2 => r = 58 ∧ h2 = hPs 58) [.ref (1000000 + 0)] [.int (nI 58)] (ct_UF_62 rfl) d_UF_init_171 rfl rfl (by decide) (Nat.le_of_ble_eq_true rfl) (rcA_s rfl (by decide)) (ok_Str_length (d := d + 58) ⟨0, rfl, by decide, rfl, rfl⟩) (fun r h2 e => ?_)
    obtain ⟨rfl, rfl⟩ := e
    refine A_icmp_ge 202 d_UF_init_174 (by decide) (fun z => K) (fun z => absurd (Int32.le_refl _) z)
  | succ n ih =>
    intro k hk
    have hkl : k < 58 := by omega
    obtain ⟨f1, f2, f3, f4, f5⟩ := hPs_ok k (by omega)
    refine A_iload_n d_UF_init_168 rfl ?_
    refine A_ldcS 0 d_UF_init_169 rfl rfl ?_
    refine A_cI (Qc := fun r h2 => r = 58 ∧ h2 = hPs k) [.ref (1000000 + 0)] [.int (nI k)] (ct_UF_62 rfl) d_UF_init_171 rfl rfl (by decide) (Nat.le_of_ble_eq_true rfl) (rcA_s rfl (by decide)) (ok_Str_length (d := d + 58) ⟨0, rfl, by decide, rfl, rfl⟩) (fun r h2 e => ?_)
    obtain ⟨rfl, rfl⟩ := e
    refine A_icmp_ge 202 d_UF_init_174 (by decide) (fun z => absurd z (nI_ge hkl (by decide))) (fun z => ?_)
    refine A_iload_n d_UF_init_177 rfl ?_
    refine A_sipush 160 (by decide) d_UF_init_178 ?_
    refine A_icmp_ge 202 d_UF_init_181 (by decide) (fun z => absurd z (nI_ge (b := 160) (by omega) (by decide))) (fun z => ?_)
    refine A_aload_n d_UF_init_184 rfl ?_
    refine A_get (v := .ref 4) d_UF_init_185 (fo_UF_27_11 rfl) f1 f2 (congrArg vR f3) ?_
    refine A_iload_n d_UF_init_188 rfl ?_
    refine A_ldcS 0 d_UF_init_189 rfl rfl ?_
    refine A_iload_n d_UF_init_191 rfl ?_
    refine A_cI (Qc := fun r h2 => r = chS 0 (nI k) ∧ h2 = hPs k) [.ref (1000000 + 0), .int (nI k)] [.int (nI k), .ref 4] (ct_UF_68 rfl) d_UF_init_192 rfl rfl (by decide) (Nat.le_of_ble_eq_true rfl) (rcA_s rfl (by decide)) (ok_Str_charAt (d := d + 56) ⟨0, rfl, by decide, inb_nI hkl (by decide), rfl, rfl⟩) (fun r h2 e => ?_)
    obtain ⟨rfl, rfl⟩ := e
    refine A_iast d_UF_init_195 f4 f5 (inb_nI (by omega) (by decide)) ?_
    refine A_iinc 1 (L0 (nI (k + 1))) d_UF_init_196 rfl (by decide) (by decide) rfl (by rw [nI_succ]; rfl) ?_
    refine A_goto 168 d_UF_init_199 (by decide) ?_
    exact ih (k + 1) (by omega)
theorem uf_init_0 {G : GG} {d : Nat} {Q : QQ} (K : Att G T0 m_UF_init (d + 60) 202 (L0 (nI 58)) [] (hPs 58) 0 0 Q) : Att G T0 m_UF_init (d + 60) 0 [some (.ref 0), none] [] uh0 58 1667 Q := by
  refine A_aload_n d_UF_init_0 rfl ?_
  refine A_objI d_UF_init_1 (tG 26 (by decide +kernel) (by decide +kernel)) (tG 27 (by decide +kernel) (by decide +kernel)) (tG 28 (by decide +kernel) (by decide +kernel)) (by decide) ?_
  refine A_aload_n d_UF_init_4 rfl ?_
  refine A_bipush 7 (by decide) d_UF_init_5 ?_
  refine A_mkQ (bc := 57) (bs := 1660) (k := 0) (t := 0) (N := 7) d_UF_init_7 d_UF_init_10 (by decide) rfl (tG 29 (by decide +kernel) (by decide +kernel)) (fo_UF_11_11 rfl) ft_11_0 rfl rfl (by decide +kernel) (by decide +kernel) rfl (fun _ => rfl) (fun _ => rfl) (by decide) (by decide) (frN_T0 _) ?_
  change Att G T0 m_UF_init (d + 60) 13 _ [] uh1 _ _ _
  refine A_aload_n d_UF_init_13 rfl ?_
  refine A_bipush 6 (by decide) d_UF_init_14 ?_
  refine A_mkQ (bc := 56) (bs := 1654) (k := 1) (t := 1) (N := 6) d_UF_init_16 d_UF_init_19 (by decide) rfl (tG 31 (by decide +kernel) (by decide +kernel)) (fo_UF_17_11 rfl) ft_11_1 rfl rfl (by decide +kernel) (by decide +kernel) rfl (fun _ => rfl) (fun _ => rfl) (by decide) (by decide) (frN_T0 _) ?_
  change Att G T0 m_UF_init (d + 60) 22 _ [] uh2 _ _ _
  refine A_aload_n d_UF_init_22 rfl ?_
  refine A_iconst 4 (by decide) d_UF_init_23 ?_
  refine A_mkQ (bc := 55) (bs := 1650) (k := 2) (t := 2) (N := 4) d_UF_init_24 d_UF_init_27 (by decide) rfl (tG 33 (by decide +kernel) (by decide +kernel)) (fo_UF_23_11 rfl) ft_11_2 rfl rfl (by decide +kernel) (by decide +kernel) rfl (fun _ => rfl) (fun _ => rfl) (by decide) (by decide) (frN_T0 _) ?_
  change Att G T0 m_UF_init (d + 60) 30 _ [] uh3 _ _ _
  refine A_aload_n d_UF_init_30 rfl ?_
  refine A_sipush 160 (by decide) d_UF_init_31 ?_
  refine A_mkI (bc := 54) (bs := 1490) (k := 3) (N := 160) d_UF_init_34 d_UF_init_36 (fo_UF_27_11 rfl) ft_11_3 rfl rfl (by decide +kernel) (by decide +kernel) rfl (fun _ => rfl) (fun _ => rfl) (by decide) (by decide) (frN_T0 _) ?_
  change Att G T0 m_UF_init (d + 60) 39 _ [] uh4 _ _ _
  refine A_aload_n d_UF_init_39 rfl ?_
  refine A_mkO (d := d + 59) (bc := 50) (bs := 1464) (mc := 3) (ms := 21) (c := 10) t_Town d_UF_init_40 d_UF_init_43 d_UF_init_44 ck_Town t_Town_ok (fun k hk => by match k, hk with | 0, _ => rfl | 1, _ => rfl | 2, _ => rfl | 3, _ => rfl | 4, _ => rfl) (tG 35 (by decide +kernel) (by decide +kernel)) (tG 36 (by decide +kernel) (by decide +kernel)) (tG 2 (by decide +kernel) (by decide +kernel)) (ct_UF_33 rfl) (by decide) (Nat.le_of_ble_eq_true rfl) (fun Q H => w_Town_init (vA_wN (T := T0)) (by rw [rS_wN rfl]) H) ?_
  refine A_putR (k := 4) (b := nC T0 uh4) d_UF_init_47 (fo_UF_34_11 rfl) (Or.inl ft_11_4) (fun _ => rfl) rfl (by decide +kernel) (by decide +kernel) rfl (fun _ => rfl) (fun _ => rfl) ?_
  change Att G T0 m_UF_init (d + 60) 50 _ [] uh5 _ _ _
  refine A_aload_n d_UF_init_50 rfl ?_
  refine A_mkO (d := d + 59) (bc := 46) (bs := 1438) (mc := 3) (ms := 21) (c := 10) t_Town d_UF_init_51 d_UF_init_54 d_UF_init_55 ck_Town t_Town_ok (fun k hk => by match k, hk with | 0, _ => rfl | 1, _ => rfl | 2, _ => rfl | 3, _ => rfl | 4, _ => rfl) (tG 35 (by decide +kernel) (by decide +kernel)) (tG 36 (by decide +kernel) (by decide +kernel)) (tG 2 (by decide +kernel) (by decide +kernel)) (ct_UF_33 rfl) (by decide) (Nat.le_of_ble_eq_true rfl) (fun Q H => w_Town_init (vA_wN (T := T0)) (by rw [rS_wN rfl]) H) ?_
  refine A_putR (k := 5) (b := nC T0 uh5) d_UF_init_58 (fo_UF_38_11 rfl) (Or.inl ft_11_5) (fun _ => rfl) rfl (by decide +kernel) (by decide +kernel) rfl (fun _ => rfl) (fun _ => rfl) ?_
  change Att G T0 m_UF_init (d + 60) 61 _ [] uh6 _ _ _
  refine A_aload_n d_UF_init_61 rfl ?_
  refine A_mkO (d := d + 59) (bc := 34) (bs := 1202) (mc := 11) (ms := 227) (c := 2) t_Dusk d_UF_init_62 d_UF_init_65 d_UF_init_66 ck_Dusk t_Dusk_ok (fun k hk => by match k, hk with | 0, _ => rfl | 1, _ => rfl | 2, _ => rfl | 3, _ => rfl | 4, _ => rfl | 5, _ => rfl | 6, _ => rfl | 7, _ => rfl | 8, _ => rfl) (tG 69 (by decide +kernel) (by decide +kernel)) (tG 70 (by decide +kernel) (by decide +kernel)) (tG 3 (by decide +kernel) (by decide +kernel)) (ct_UF_43 rfl) (by decide) (Nat.le_of_ble_eq_true rfl) (fun Q H => w_Dusk_init (vA_wN (T := T0)) (by rw [rS_wN rfl]) H) ?_
  refine A_putR (k := 6) (b := nC T0 uh6) d_UF_init_69 (fo_UF_44_11 rfl) (Or.inl ft_11_6) (fun _ => rfl) rfl (by decide +kernel) (by decide +kernel) rfl (fun _ => rfl) (fun _ => rfl) ?_
  change Att G T0 m_UF_init (d + 60) 72 _ [] uh7 _ _ _
  refine A_aload_n d_UF_init_72 rfl ?_
  refine A_mkO (d := d + 59) (bc := 33) (bs := 1195) (mc := 0) (ms := 0) (c := 7) t_Reader d_UF_init_73 d_UF_init_76 d_UF_init_77 ck_Reader t_Reader_ok (fun k hk => by match k, hk with | 0, _ => rfl | 1, _ => rfl | 2, _ => rfl | 3, _ => rfl | 4, _ => rfl | 5, _ => rfl | 6, _ => rfl) (tG 111 (by decide +kernel) (by decide +kernel)) (tG 112 (by decide +kernel) (by decide +kernel)) (tG 4 (by decide +kernel) (by decide +kernel)) (ct_UF_50 rfl) (by decide) (Nat.le_of_ble_eq_true rfl) (fun Q H => w_Reader_init (vA_wN (T := T0)) (by rw [rS_wN rfl]) H) ?_
  refine A_putR (k := 7) (b := nC T0 uh7) d_UF_init_80 (fo_UF_51_11 rfl) (Or.inl ft_11_7) (fun _ => rfl) rfl (by decide +kernel) (by decide +kernel) rfl (fun _ => rfl) (fun _ => rfl) ?_
  change Att G T0 m_UF_init (d + 60) 83 _ [] uh8 _ _ _
  refine A_iconst 0 (by decide) d_UF_init_83 ?_
  refine A_istore_n (L0 (nI 0)) d_UF_init_84 (by decide) rfl rfl ?_
  refine r_UF_init_85 (bc := 26) (bs := 1174) ?_ 7 0 rfl
  refine A_iconst 0 (by decide) d_UF_init_113 ?_
  refine A_istore_n (L0 (nI 0)) d_UF_init_114 (by decide) rfl rfl ?_
  refine r_UF_init_115 (bc := 8) (bs := 172) ?_ 6 0 rfl
  refine A_iconst 0 (by decide) d_UF_init_140 ?_
  refine A_istore_n (L0 (nI 0)) d_UF_init_141 (by decide) rfl rfl ?_
  refine r_UF_init_142 (bc := 0) (bs := 0) ?_ 4 0 rfl
  refine A_iconst 0 (by decide) d_UF_init_166 ?_
  refine A_istore_n (L0 (nI 0)) d_UF_init_167 (by decide) rfl rfl ?_
  exact r_UF_init_168 K 58 0 rfl
