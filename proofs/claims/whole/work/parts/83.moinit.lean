/-! UpperFloorsModel.<init> up to its text(), over a heap of 59 cells (printed by wip/gen/moinit.py) -/
theorem TU_1 {a k : Nat} (h : 59 ≤ a) : TU.1 a k = none := (TU_ge h).1 k
/-- below 59 as g, from 59 on as z -/
def AG (g h z : AH) : Prop := h.2.2.2.2 = z.2.2.2.2 ∧ (∀ a, a < 59 → h.1 a = g.1 a ∧ h.2.2.1 a = g.2.2.1 a ∧ h.2.2.2.1 a = g.2.2.2.1 a) ∧ ∀ a, 59 ≤ a → h.1 a = z.1 a ∧ h.2.2.1 a = z.2.2.1 a ∧ h.2.2.2.1 a = z.2.2.2.1 a
theorem AG_nC {g h z : AH} (H : AG g h z) : nC TU h = nC TU z := by unfold nC; rw [H.1]
theorem AG_wI {g h z : AH} {a : Nat} {k x x' : Int32} (ha : 59 ≤ a) (e : x = x') (H : AG g h z) : AG g (wI h a k x) (wI z a k x') := by
  subst e
  refine ⟨H.1, fun b hb => ⟨?_, (H.2.1 b hb).2⟩, fun b hb => ⟨?_, (H.2.2 b hb).2⟩⟩
  · rw [wI_r, if_neg (by omega)]; exact (H.2.1 b hb).1
  · rw [wI_r, wI_r, (H.2.2 a ha).1, (H.2.2 b hb).1]
theorem AG_wR {g h z : AH} {a k x : Nat} (ha : 59 ≤ a) (H : AG g h z) : AG g (wR h a k x) (wR z a k x) := by
  refine ⟨H.1, fun b hb => ⟨(H.2.1 b hb).1, ?_, (H.2.1 b hb).2.2⟩, fun b hb => ⟨(H.2.2 b hb).1, ?_, (H.2.2 b hb).2.2⟩⟩
  · show (if b = a then _ else h.2.2.1 b) = _
    rw [if_neg (by omega)]; exact (H.2.1 b hb).2.1
  · show (if b = a then upR (h.2.2.1 a) k x else h.2.2.1 b) = (if b = a then upR (z.2.2.1 a) k x else z.2.2.1 b)
    rw [(H.2.2 a ha).2.1, (H.2.2 b hb).2.1]
theorem AG_wN {g h z : AH} {s : Nat × Nat} (H : AG g h z) : AG g (wN TU h s) (wN TU z s) := by
  have n59 : 59 ≤ nC TU h := Nat.le_add_right _ _
  have e := AG_nC H
  refine ⟨congrArg (· + 1) H.1, fun b hb => ?_, fun b hb => ?_⟩
  · have q : ¬ b = nC TU h := by omega
    obtain ⟨h1, h3, h4⟩ := H.2.1 b hb
    refine ⟨?_, ?_, ?_⟩
    · show (if b = nC TU h then _ else h.1 b) = _
      rw [if_neg q]; exact h1
    · show (if b = nC TU h then _ else h.2.2.1 b) = _
      rw [if_neg q]; exact h3
    · show (if b = nC TU h then _ else h.2.2.2.1 b) = _
      rw [if_neg q]; exact h4
  · obtain ⟨h1, h3, h4⟩ := H.2.2 b hb
    refine ⟨?_, ?_, ?_⟩
    · show (if b = nC TU h then _ else h.1 b) = (if b = nC TU z then _ else z.1 b)
      rw [e, h1]
    · show (if b = nC TU h then _ else h.2.2.1 b) = (if b = nC TU z then _ else z.2.2.1 b)
      rw [e, h3]
    · show (if b = nC TU h then _ else h.2.2.2.1 b) = (if b = nC TU z then _ else z.2.2.2.1 b)
      rw [e, h4]
/-- the model's own class and row -/
theorem rS_T59 {h : AH} (e : rS TU h 59 = (12, 40)) : (rS TU h 59).1 = 12 := by rw [e]
theorem vA_U {h : AH} {a n : Nat} (e : nC TU h = n) (ha : a < n) : vA TU h a := by show a < nC TU h; rw [e]; exact ha
def mh0 (g : AH) : AH := wN TU g (12, 40)
theorem mhn_0 {g : AH} (hg : g.2.2.2.2 = 0) : nC TU (mh0 g) = 60 := by
  unfold mh0; rw [nC_wN]; unfold nC; rw [hg]; rfl
theorem mhs_0 {g : AH} (hg : g.2.2.2.2 = 0) : rS TU (mh0 g) 59 = (12, 40) := by
  have e : nC TU g = 59 := by unfold nC; rw [hg]; rfl
  have := rS_wN (T := TU) (h := g) (s := (12, 40)) (frN_TU g).1
  rw [e] at this; exact this
theorem mha_0 {g z : AH} (H : AG g g z) : AG g (mh0 g) (mh0 z) := AG_wN H
theorem d_MO_init_0 : decode prog_14_method_1_code 0 = .ok (.aload_n 0, 1) := by decide +kernel
theorem d_MO_init_1 : decode prog_14_method_1_code 1 = .ok (.invokespecial 1, 3) := by decide +kernel
theorem d_MO_init_4 : decode prog_14_method_1_code 4 = .ok (.aload_n 0, 1) := by decide +kernel
theorem d_MO_init_5 : decode prog_14_method_1_code 5 = .ok (.bipush 7, 2) := by decide +kernel
theorem d_MO_init_7 : decode prog_14_method_1_code 7 = .ok (.newarray .int, 2) := by decide +kernel
theorem d_MO_init_9 : decode prog_14_method_1_code 9 = .ok (.putfield 7, 3) := by decide +kernel
theorem d_MO_init_12 : decode prog_14_method_1_code 12 = .ok (.aload_n 0, 1) := by decide +kernel
theorem d_MO_init_13 : decode prog_14_method_1_code 13 = .ok (.bipush 7, 2) := by decide +kernel
theorem d_MO_init_15 : decode prog_14_method_1_code 15 = .ok (.newarray .int, 2) := by decide +kernel
theorem d_MO_init_17 : decode prog_14_method_1_code 17 = .ok (.putfield 13, 3) := by decide +kernel
theorem d_MO_init_20 : decode prog_14_method_1_code 20 = .ok (.aload_n 0, 1) := by decide +kernel
theorem d_MO_init_21 : decode prog_14_method_1_code 21 = .ok (.bipush 7, 2) := by decide +kernel
theorem d_MO_init_23 : decode prog_14_method_1_code 23 = .ok (.newarray .int, 2) := by decide +kernel
theorem d_MO_init_25 : decode prog_14_method_1_code 25 = .ok (.putfield 16, 3) := by decide +kernel
theorem d_MO_init_28 : decode prog_14_method_1_code 28 = .ok (.aload_n 0, 1) := by decide +kernel
theorem d_MO_init_29 : decode prog_14_method_1_code 29 = .ok (.bipush 7, 2) := by decide +kernel
theorem d_MO_init_31 : decode prog_14_method_1_code 31 = .ok (.newarray .int, 2) := by decide +kernel
theorem d_MO_init_33 : decode prog_14_method_1_code 33 = .ok (.putfield 19, 3) := by decide +kernel
theorem d_MO_init_36 : decode prog_14_method_1_code 36 = .ok (.aload_n 0, 1) := by decide +kernel
theorem d_MO_init_37 : decode prog_14_method_1_code 37 = .ok (.bipush 7, 2) := by decide +kernel
theorem d_MO_init_39 : decode prog_14_method_1_code 39 = .ok (.newarray .int, 2) := by decide +kernel
theorem d_MO_init_41 : decode prog_14_method_1_code 41 = .ok (.putfield 22, 3) := by decide +kernel
theorem d_MO_init_44 : decode prog_14_method_1_code 44 = .ok (.aload_n 0, 1) := by decide +kernel
theorem d_MO_init_45 : decode prog_14_method_1_code 45 = .ok (.bipush 7, 2) := by decide +kernel
theorem d_MO_init_47 : decode prog_14_method_1_code 47 = .ok (.newarray .int, 2) := by decide +kernel
theorem d_MO_init_49 : decode prog_14_method_1_code 49 = .ok (.dup, 1) := by decide +kernel
theorem d_MO_init_50 : decode prog_14_method_1_code 50 = .ok (.iconst 0, 1) := by decide +kernel
theorem d_MO_init_51 : decode prog_14_method_1_code 51 = .ok (.iconst (-1), 1) := by decide +kernel
theorem d_MO_init_52 : decode prog_14_method_1_code 52 = .ok (.iastore, 1) := by decide +kernel
theorem d_MO_init_53 : decode prog_14_method_1_code 53 = .ok (.dup, 1) := by decide +kernel
theorem d_MO_init_54 : decode prog_14_method_1_code 54 = .ok (.iconst 1, 1) := by decide +kernel
theorem d_MO_init_55 : decode prog_14_method_1_code 55 = .ok (.iconst (-1), 1) := by decide +kernel
theorem d_MO_init_56 : decode prog_14_method_1_code 56 = .ok (.iastore, 1) := by decide +kernel
theorem d_MO_init_57 : decode prog_14_method_1_code 57 = .ok (.dup, 1) := by decide +kernel
theorem d_MO_init_58 : decode prog_14_method_1_code 58 = .ok (.iconst 2, 1) := by decide +kernel
theorem d_MO_init_59 : decode prog_14_method_1_code 59 = .ok (.iconst (-1), 1) := by decide +kernel
theorem d_MO_init_60 : decode prog_14_method_1_code 60 = .ok (.iastore, 1) := by decide +kernel
theorem d_MO_init_61 : decode prog_14_method_1_code 61 = .ok (.dup, 1) := by decide +kernel
theorem d_MO_init_62 : decode prog_14_method_1_code 62 = .ok (.iconst 3, 1) := by decide +kernel
theorem d_MO_init_63 : decode prog_14_method_1_code 63 = .ok (.iconst (-1), 1) := by decide +kernel
theorem d_MO_init_64 : decode prog_14_method_1_code 64 = .ok (.iastore, 1) := by decide +kernel
theorem d_MO_init_65 : decode prog_14_method_1_code 65 = .ok (.dup, 1) := by decide +kernel
theorem d_MO_init_66 : decode prog_14_method_1_code 66 = .ok (.iconst 4, 1) := by decide +kernel
theorem d_MO_init_67 : decode prog_14_method_1_code 67 = .ok (.iconst (-1), 1) := by decide +kernel
theorem d_MO_init_68 : decode prog_14_method_1_code 68 = .ok (.iastore, 1) := by decide +kernel
theorem d_MO_init_69 : decode prog_14_method_1_code 69 = .ok (.dup, 1) := by decide +kernel
theorem d_MO_init_70 : decode prog_14_method_1_code 70 = .ok (.iconst 5, 1) := by decide +kernel
theorem d_MO_init_71 : decode prog_14_method_1_code 71 = .ok (.iconst (-1), 1) := by decide +kernel
theorem d_MO_init_72 : decode prog_14_method_1_code 72 = .ok (.iastore, 1) := by decide +kernel
theorem d_MO_init_73 : decode prog_14_method_1_code 73 = .ok (.dup, 1) := by decide +kernel
theorem d_MO_init_74 : decode prog_14_method_1_code 74 = .ok (.bipush 6, 2) := by decide +kernel
theorem d_MO_init_76 : decode prog_14_method_1_code 76 = .ok (.iconst (-1), 1) := by decide +kernel
theorem d_MO_init_77 : decode prog_14_method_1_code 77 = .ok (.iastore, 1) := by decide +kernel
theorem d_MO_init_78 : decode prog_14_method_1_code 78 = .ok (.putfield 25, 3) := by decide +kernel
theorem d_MO_init_81 : decode prog_14_method_1_code 81 = .ok (.aload_n 0, 1) := by decide +kernel
theorem d_MO_init_82 : decode prog_14_method_1_code 82 = .ok (.sipush 160, 3) := by decide +kernel
theorem d_MO_init_85 : decode prog_14_method_1_code 85 = .ok (.newarray .int, 2) := by decide +kernel
theorem d_MO_init_87 : decode prog_14_method_1_code 87 = .ok (.putfield 28, 3) := by decide +kernel
theorem d_MO_init_90 : decode prog_14_method_1_code 90 = .ok (.aload_n 0, 1) := by decide +kernel
theorem d_MO_init_91 : decode prog_14_method_1_code 91 = .ok (.sipush 1200, 3) := by decide +kernel
theorem d_MO_init_94 : decode prog_14_method_1_code 94 = .ok (.newarray .int, 2) := by decide +kernel
theorem d_MO_init_96 : decode prog_14_method_1_code 96 = .ok (.putfield 31, 3) := by decide +kernel
theorem d_MO_init_99 : decode prog_14_method_1_code 99 = .ok (.aload_n 0, 1) := by decide +kernel
theorem d_MO_init_100 : decode prog_14_method_1_code 100 = .ok (.bipush 24, 2) := by decide +kernel
theorem d_MO_init_102 : decode prog_14_method_1_code 102 = .ok (.newarray .int, 2) := by decide +kernel
theorem d_MO_init_104 : decode prog_14_method_1_code 104 = .ok (.putfield 34, 3) := by decide +kernel
theorem d_MO_init_107 : decode prog_14_method_1_code 107 = .ok (.aload_n 0, 1) := by decide +kernel
theorem d_MO_init_108 : decode prog_14_method_1_code 108 = .ok (.bipush 21, 2) := by decide +kernel
theorem d_MO_init_110 : decode prog_14_method_1_code 110 = .ok (.newarray .int, 2) := by decide +kernel
theorem d_MO_init_112 : decode prog_14_method_1_code 112 = .ok (.putfield 37, 3) := by decide +kernel
theorem d_MO_init_115 : decode prog_14_method_1_code 115 = .ok (.aload_n 0, 1) := by decide +kernel
theorem d_MO_init_116 : decode prog_14_method_1_code 116 = .ok (.iconst 4, 1) := by decide +kernel
theorem d_MO_init_117 : decode prog_14_method_1_code 117 = .ok (.newarray .int, 2) := by decide +kernel
theorem d_MO_init_119 : decode prog_14_method_1_code 119 = .ok (.dup, 1) := by decide +kernel
theorem d_MO_init_120 : decode prog_14_method_1_code 120 = .ok (.iconst 0, 1) := by decide +kernel
theorem d_MO_init_121 : decode prog_14_method_1_code 121 = .ok (.iconst (-1), 1) := by decide +kernel
theorem d_MO_init_122 : decode prog_14_method_1_code 122 = .ok (.iastore, 1) := by decide +kernel
theorem d_MO_init_123 : decode prog_14_method_1_code 123 = .ok (.dup, 1) := by decide +kernel
theorem d_MO_init_124 : decode prog_14_method_1_code 124 = .ok (.iconst 1, 1) := by decide +kernel
theorem d_MO_init_125 : decode prog_14_method_1_code 125 = .ok (.iconst (-1), 1) := by decide +kernel
theorem d_MO_init_126 : decode prog_14_method_1_code 126 = .ok (.iastore, 1) := by decide +kernel
theorem d_MO_init_127 : decode prog_14_method_1_code 127 = .ok (.dup, 1) := by decide +kernel
theorem d_MO_init_128 : decode prog_14_method_1_code 128 = .ok (.iconst 2, 1) := by decide +kernel
theorem d_MO_init_129 : decode prog_14_method_1_code 129 = .ok (.iconst (-1), 1) := by decide +kernel
theorem d_MO_init_130 : decode prog_14_method_1_code 130 = .ok (.iastore, 1) := by decide +kernel
theorem d_MO_init_131 : decode prog_14_method_1_code 131 = .ok (.dup, 1) := by decide +kernel
theorem d_MO_init_132 : decode prog_14_method_1_code 132 = .ok (.iconst 3, 1) := by decide +kernel
theorem d_MO_init_133 : decode prog_14_method_1_code 133 = .ok (.iconst (-1), 1) := by decide +kernel
theorem d_MO_init_134 : decode prog_14_method_1_code 134 = .ok (.iastore, 1) := by decide +kernel
theorem d_MO_init_135 : decode prog_14_method_1_code 135 = .ok (.putfield 40, 3) := by decide +kernel
theorem d_MO_init_138 : decode prog_14_method_1_code 138 = .ok (.aload_n 0, 1) := by decide +kernel
theorem d_MO_init_139 : decode prog_14_method_1_code 139 = .ok (.iconst 4, 1) := by decide +kernel
theorem d_MO_init_140 : decode prog_14_method_1_code 140 = .ok (.newarray .int, 2) := by decide +kernel
theorem d_MO_init_142 : decode prog_14_method_1_code 142 = .ok (.putfield 43, 3) := by decide +kernel
theorem d_MO_init_145 : decode prog_14_method_1_code 145 = .ok (.aload_n 0, 1) := by decide +kernel
theorem d_MO_init_146 : decode prog_14_method_1_code 146 = .ok (.sipush 160, 3) := by decide +kernel
theorem d_MO_init_149 : decode prog_14_method_1_code 149 = .ok (.newarray .int, 2) := by decide +kernel
theorem d_MO_init_151 : decode prog_14_method_1_code 151 = .ok (.putfield 46, 3) := by decide +kernel
theorem d_MO_init_154 : decode prog_14_method_1_code 154 = .ok (.aload_n 0, 1) := by decide +kernel
theorem d_MO_init_155 : decode prog_14_method_1_code 155 = .ok (.bipush 58, 2) := by decide +kernel
theorem d_MO_init_157 : decode prog_14_method_1_code 157 = .ok (.newarray .int, 2) := by decide +kernel
theorem d_MO_init_159 : decode prog_14_method_1_code 159 = .ok (.dup, 1) := by decide +kernel
theorem d_MO_init_160 : decode prog_14_method_1_code 160 = .ok (.iconst 0, 1) := by decide +kernel
theorem d_MO_init_161 : decode prog_14_method_1_code 161 = .ok (.bipush 119, 2) := by decide +kernel
theorem d_MO_init_163 : decode prog_14_method_1_code 163 = .ok (.iastore, 1) := by decide +kernel
theorem d_MO_init_164 : decode prog_14_method_1_code 164 = .ok (.dup, 1) := by decide +kernel
theorem d_MO_init_165 : decode prog_14_method_1_code 165 = .ok (.iconst 1, 1) := by decide +kernel
theorem d_MO_init_166 : decode prog_14_method_1_code 166 = .ok (.bipush 101, 2) := by decide +kernel
theorem d_MO_init_168 : decode prog_14_method_1_code 168 = .ok (.iastore, 1) := by decide +kernel
theorem d_MO_init_169 : decode prog_14_method_1_code 169 = .ok (.dup, 1) := by decide +kernel
theorem d_MO_init_170 : decode prog_14_method_1_code 170 = .ok (.iconst 2, 1) := by decide +kernel
theorem d_MO_init_171 : decode prog_14_method_1_code 171 = .ok (.bipush 105, 2) := by decide +kernel
theorem d_MO_init_173 : decode prog_14_method_1_code 173 = .ok (.iastore, 1) := by decide +kernel
theorem d_MO_init_174 : decode prog_14_method_1_code 174 = .ok (.dup, 1) := by decide +kernel
theorem d_MO_init_175 : decode prog_14_method_1_code 175 = .ok (.iconst 3, 1) := by decide +kernel
theorem d_MO_init_176 : decode prog_14_method_1_code 176 = .ok (.bipush 103, 2) := by decide +kernel
theorem d_MO_init_178 : decode prog_14_method_1_code 178 = .ok (.iastore, 1) := by decide +kernel
theorem d_MO_init_179 : decode prog_14_method_1_code 179 = .ok (.dup, 1) := by decide +kernel
theorem d_MO_init_180 : decode prog_14_method_1_code 180 = .ok (.iconst 4, 1) := by decide +kernel
theorem d_MO_init_181 : decode prog_14_method_1_code 181 = .ok (.bipush 104, 2) := by decide +kernel
theorem d_MO_init_183 : decode prog_14_method_1_code 183 = .ok (.iastore, 1) := by decide +kernel
theorem d_MO_init_184 : decode prog_14_method_1_code 184 = .ok (.dup, 1) := by decide +kernel
theorem d_MO_init_185 : decode prog_14_method_1_code 185 = .ok (.iconst 5, 1) := by decide +kernel
theorem d_MO_init_186 : decode prog_14_method_1_code 186 = .ok (.bipush 115, 2) := by decide +kernel
theorem d_MO_init_188 : decode prog_14_method_1_code 188 = .ok (.iastore, 1) := by decide +kernel
theorem d_MO_init_189 : decode prog_14_method_1_code 189 = .ok (.dup, 1) := by decide +kernel
theorem d_MO_init_190 : decode prog_14_method_1_code 190 = .ok (.bipush 6, 2) := by decide +kernel
theorem d_MO_init_192 : decode prog_14_method_1_code 192 = .ok (.bipush 32, 2) := by decide +kernel
theorem d_MO_init_194 : decode prog_14_method_1_code 194 = .ok (.iastore, 1) := by decide +kernel
theorem d_MO_init_195 : decode prog_14_method_1_code 195 = .ok (.dup, 1) := by decide +kernel
theorem d_MO_init_196 : decode prog_14_method_1_code 196 = .ok (.bipush 7, 2) := by decide +kernel
theorem d_MO_init_198 : decode prog_14_method_1_code 198 = .ok (.bipush 116, 2) := by decide +kernel
theorem d_MO_init_200 : decode prog_14_method_1_code 200 = .ok (.iastore, 1) := by decide +kernel
theorem d_MO_init_201 : decode prog_14_method_1_code 201 = .ok (.dup, 1) := by decide +kernel
theorem d_MO_init_202 : decode prog_14_method_1_code 202 = .ok (.bipush 8, 2) := by decide +kernel
theorem d_MO_init_204 : decode prog_14_method_1_code 204 = .ok (.bipush 111, 2) := by decide +kernel
theorem d_MO_init_206 : decode prog_14_method_1_code 206 = .ok (.iastore, 1) := by decide +kernel
theorem d_MO_init_207 : decode prog_14_method_1_code 207 = .ok (.dup, 1) := by decide +kernel
theorem d_MO_init_208 : decode prog_14_method_1_code 208 = .ok (.bipush 9, 2) := by decide +kernel
theorem d_MO_init_210 : decode prog_14_method_1_code 210 = .ok (.bipush 108, 2) := by decide +kernel
theorem d_MO_init_212 : decode prog_14_method_1_code 212 = .ok (.iastore, 1) := by decide +kernel
theorem d_MO_init_213 : decode prog_14_method_1_code 213 = .ok (.dup, 1) := by decide +kernel
theorem d_MO_init_214 : decode prog_14_method_1_code 214 = .ok (.bipush 10, 2) := by decide +kernel
theorem d_MO_init_216 : decode prog_14_method_1_code 216 = .ok (.bipush 100, 2) := by decide +kernel
theorem d_MO_init_218 : decode prog_14_method_1_code 218 = .ok (.iastore, 1) := by decide +kernel
theorem d_MO_init_219 : decode prog_14_method_1_code 219 = .ok (.dup, 1) := by decide +kernel
theorem d_MO_init_220 : decode prog_14_method_1_code 220 = .ok (.bipush 11, 2) := by decide +kernel
theorem d_MO_init_222 : decode prog_14_method_1_code 222 = .ok (.bipush 32, 2) := by decide +kernel
theorem d_MO_init_224 : decode prog_14_method_1_code 224 = .ok (.iastore, 1) := by decide +kernel
theorem d_MO_init_225 : decode prog_14_method_1_code 225 = .ok (.dup, 1) := by decide +kernel
theorem d_MO_init_226 : decode prog_14_method_1_code 226 = .ok (.bipush 12, 2) := by decide +kernel
theorem d_MO_init_228 : decode prog_14_method_1_code 228 = .ok (.bipush 43, 2) := by decide +kernel
theorem d_MO_init_230 : decode prog_14_method_1_code 230 = .ok (.iastore, 1) := by decide +kernel
theorem d_MO_init_231 : decode prog_14_method_1_code 231 = .ok (.dup, 1) := by decide +kernel
theorem d_MO_init_232 : decode prog_14_method_1_code 232 = .ok (.bipush 13, 2) := by decide +kernel
theorem d_MO_init_234 : decode prog_14_method_1_code 234 = .ok (.bipush 32, 2) := by decide +kernel
theorem d_MO_init_236 : decode prog_14_method_1_code 236 = .ok (.iastore, 1) := by decide +kernel
theorem d_MO_init_237 : decode prog_14_method_1_code 237 = .ok (.dup, 1) := by decide +kernel
theorem d_MO_init_238 : decode prog_14_method_1_code 238 = .ok (.bipush 14, 2) := by decide +kernel
theorem d_MO_init_240 : decode prog_14_method_1_code 240 = .ok (.bipush 112, 2) := by decide +kernel
theorem d_MO_init_242 : decode prog_14_method_1_code 242 = .ok (.iastore, 1) := by decide +kernel
theorem d_MO_init_243 : decode prog_14_method_1_code 243 = .ok (.dup, 1) := by decide +kernel
theorem d_MO_init_244 : decode prog_14_method_1_code 244 = .ok (.bipush 15, 2) := by decide +kernel
theorem d_MO_init_246 : decode prog_14_method_1_code 246 = .ok (.bipush 101, 2) := by decide +kernel
theorem d_MO_init_248 : decode prog_14_method_1_code 248 = .ok (.iastore, 1) := by decide +kernel
theorem d_MO_init_249 : decode prog_14_method_1_code 249 = .ok (.dup, 1) := by decide +kernel
theorem d_MO_init_250 : decode prog_14_method_1_code 250 = .ok (.bipush 16, 2) := by decide +kernel
theorem d_MO_init_252 : decode prog_14_method_1_code 252 = .ok (.bipush 111, 2) := by decide +kernel
theorem d_MO_init_254 : decode prog_14_method_1_code 254 = .ok (.iastore, 1) := by decide +kernel
theorem d_MO_init_255 : decode prog_14_method_1_code 255 = .ok (.dup, 1) := by decide +kernel
theorem d_MO_init_256 : decode prog_14_method_1_code 256 = .ok (.bipush 17, 2) := by decide +kernel
theorem d_MO_init_258 : decode prog_14_method_1_code 258 = .ok (.bipush 112, 2) := by decide +kernel
theorem d_MO_init_260 : decode prog_14_method_1_code 260 = .ok (.iastore, 1) := by decide +kernel
theorem d_MO_init_261 : decode prog_14_method_1_code 261 = .ok (.dup, 1) := by decide +kernel
theorem d_MO_init_262 : decode prog_14_method_1_code 262 = .ok (.bipush 18, 2) := by decide +kernel
theorem d_MO_init_264 : decode prog_14_method_1_code 264 = .ok (.bipush 108, 2) := by decide +kernel
theorem d_MO_init_266 : decode prog_14_method_1_code 266 = .ok (.iastore, 1) := by decide +kernel
theorem d_MO_init_267 : decode prog_14_method_1_code 267 = .ok (.dup, 1) := by decide +kernel
theorem d_MO_init_268 : decode prog_14_method_1_code 268 = .ok (.bipush 19, 2) := by decide +kernel
theorem d_MO_init_270 : decode prog_14_method_1_code 270 = .ok (.bipush 101, 2) := by decide +kernel
theorem d_MO_init_272 : decode prog_14_method_1_code 272 = .ok (.iastore, 1) := by decide +kernel
theorem d_MO_init_273 : decode prog_14_method_1_code 273 = .ok (.dup, 1) := by decide +kernel
theorem d_MO_init_274 : decode prog_14_method_1_code 274 = .ok (.bipush 20, 2) := by decide +kernel
theorem d_MO_init_276 : decode prog_14_method_1_code 276 = .ok (.bipush 32, 2) := by decide +kernel
theorem d_MO_init_278 : decode prog_14_method_1_code 278 = .ok (.iastore, 1) := by decide +kernel
theorem d_MO_init_279 : decode prog_14_method_1_code 279 = .ok (.dup, 1) := by decide +kernel
theorem d_MO_init_280 : decode prog_14_method_1_code 280 = .ok (.bipush 21, 2) := by decide +kernel
theorem d_MO_init_282 : decode prog_14_method_1_code 282 = .ok (.bipush 42, 2) := by decide +kernel
theorem d_MO_init_284 : decode prog_14_method_1_code 284 = .ok (.iastore, 1) := by decide +kernel
theorem d_MO_init_285 : decode prog_14_method_1_code 285 = .ok (.dup, 1) := by decide +kernel
theorem d_MO_init_286 : decode prog_14_method_1_code 286 = .ok (.bipush 22, 2) := by decide +kernel
theorem d_MO_init_288 : decode prog_14_method_1_code 288 = .ok (.bipush 32, 2) := by decide +kernel
theorem d_MO_init_290 : decode prog_14_method_1_code 290 = .ok (.iastore, 1) := by decide +kernel
theorem d_MO_init_291 : decode prog_14_method_1_code 291 = .ok (.dup, 1) := by decide +kernel
theorem d_MO_init_292 : decode prog_14_method_1_code 292 = .ok (.bipush 23, 2) := by decide +kernel
theorem d_MO_init_294 : decode prog_14_method_1_code 294 = .ok (.bipush 53, 2) := by decide +kernel
theorem d_MO_init_296 : decode prog_14_method_1_code 296 = .ok (.iastore, 1) := by decide +kernel
theorem d_MO_init_297 : decode prog_14_method_1_code 297 = .ok (.dup, 1) := by decide +kernel
theorem d_MO_init_298 : decode prog_14_method_1_code 298 = .ok (.bipush 24, 2) := by decide +kernel
theorem d_MO_init_300 : decode prog_14_method_1_code 300 = .ok (.bipush 32, 2) := by decide +kernel
theorem d_MO_init_302 : decode prog_14_method_1_code 302 = .ok (.iastore, 1) := by decide +kernel
theorem d_MO_init_303 : decode prog_14_method_1_code 303 = .ok (.dup, 1) := by decide +kernel
theorem d_MO_init_304 : decode prog_14_method_1_code 304 = .ok (.bipush 25, 2) := by decide +kernel
theorem d_MO_init_306 : decode prog_14_method_1_code 306 = .ok (.bipush 59, 2) := by decide +kernel
theorem d_MO_init_308 : decode prog_14_method_1_code 308 = .ok (.iastore, 1) := by decide +kernel
theorem d_MO_init_309 : decode prog_14_method_1_code 309 = .ok (.dup, 1) := by decide +kernel
theorem d_MO_init_310 : decode prog_14_method_1_code 310 = .ok (.bipush 26, 2) := by decide +kernel
theorem d_MO_init_312 : decode prog_14_method_1_code 312 = .ok (.bipush 32, 2) := by decide +kernel
theorem d_MO_init_314 : decode prog_14_method_1_code 314 = .ok (.iastore, 1) := by decide +kernel
theorem d_MO_init_315 : decode prog_14_method_1_code 315 = .ok (.dup, 1) := by decide +kernel
theorem d_MO_init_316 : decode prog_14_method_1_code 316 = .ok (.bipush 27, 2) := by decide +kernel
theorem d_MO_init_318 : decode prog_14_method_1_code 318 = .ok (.bipush 104, 2) := by decide +kernel
theorem d_MO_init_320 : decode prog_14_method_1_code 320 = .ok (.iastore, 1) := by decide +kernel
theorem d_MO_init_321 : decode prog_14_method_1_code 321 = .ok (.dup, 1) := by decide +kernel
theorem d_MO_init_322 : decode prog_14_method_1_code 322 = .ok (.bipush 28, 2) := by decide +kernel
theorem d_MO_init_324 : decode prog_14_method_1_code 324 = .ok (.bipush 111, 2) := by decide +kernel
theorem d_MO_init_326 : decode prog_14_method_1_code 326 = .ok (.iastore, 1) := by decide +kernel
theorem d_MO_init_327 : decode prog_14_method_1_code 327 = .ok (.dup, 1) := by decide +kernel
theorem d_MO_init_328 : decode prog_14_method_1_code 328 = .ok (.bipush 29, 2) := by decide +kernel
theorem d_MO_init_330 : decode prog_14_method_1_code 330 = .ok (.bipush 108, 2) := by decide +kernel
theorem d_MO_init_332 : decode prog_14_method_1_code 332 = .ok (.iastore, 1) := by decide +kernel
theorem d_MO_init_333 : decode prog_14_method_1_code 333 = .ok (.dup, 1) := by decide +kernel
theorem d_MO_init_334 : decode prog_14_method_1_code 334 = .ok (.bipush 30, 2) := by decide +kernel
theorem d_MO_init_336 : decode prog_14_method_1_code 336 = .ok (.bipush 100, 2) := by decide +kernel
theorem d_MO_init_338 : decode prog_14_method_1_code 338 = .ok (.iastore, 1) := by decide +kernel
theorem d_MO_init_339 : decode prog_14_method_1_code 339 = .ok (.dup, 1) := by decide +kernel
theorem d_MO_init_340 : decode prog_14_method_1_code 340 = .ok (.bipush 31, 2) := by decide +kernel
theorem d_MO_init_342 : decode prog_14_method_1_code 342 = .ok (.bipush 115, 2) := by decide +kernel
theorem d_MO_init_344 : decode prog_14_method_1_code 344 = .ok (.iastore, 1) := by decide +kernel
theorem d_MO_init_345 : decode prog_14_method_1_code 345 = .ok (.dup, 1) := by decide +kernel
theorem d_MO_init_346 : decode prog_14_method_1_code 346 = .ok (.bipush 32, 2) := by decide +kernel
theorem d_MO_init_348 : decode prog_14_method_1_code 348 = .ok (.bipush 32, 2) := by decide +kernel
theorem d_MO_init_350 : decode prog_14_method_1_code 350 = .ok (.iastore, 1) := by decide +kernel
theorem d_MO_init_351 : decode prog_14_method_1_code 351 = .ok (.dup, 1) := by decide +kernel
theorem d_MO_init_352 : decode prog_14_method_1_code 352 = .ok (.bipush 33, 2) := by decide +kernel
theorem d_MO_init_354 : decode prog_14_method_1_code 354 = .ok (.bipush 50, 2) := by decide +kernel
theorem d_MO_init_356 : decode prog_14_method_1_code 356 = .ok (.iastore, 1) := by decide +kernel
theorem d_MO_init_357 : decode prog_14_method_1_code 357 = .ok (.dup, 1) := by decide +kernel
theorem d_MO_init_358 : decode prog_14_method_1_code 358 = .ok (.bipush 34, 2) := by decide +kernel
theorem d_MO_init_360 : decode prog_14_method_1_code 360 = .ok (.bipush 32, 2) := by decide +kernel
theorem d_MO_init_362 : decode prog_14_method_1_code 362 = .ok (.iastore, 1) := by decide +kernel
theorem d_MO_init_363 : decode prog_14_method_1_code 363 = .ok (.dup, 1) := by decide +kernel
theorem d_MO_init_364 : decode prog_14_method_1_code 364 = .ok (.bipush 35, 2) := by decide +kernel
theorem d_MO_init_366 : decode prog_14_method_1_code 366 = .ok (.bipush 59, 2) := by decide +kernel
theorem d_MO_init_368 : decode prog_14_method_1_code 368 = .ok (.iastore, 1) := by decide +kernel
theorem d_MO_init_369 : decode prog_14_method_1_code 369 = .ok (.dup, 1) := by decide +kernel
theorem d_MO_init_370 : decode prog_14_method_1_code 370 = .ok (.bipush 36, 2) := by decide +kernel
theorem d_MO_init_372 : decode prog_14_method_1_code 372 = .ok (.bipush 32, 2) := by decide +kernel
theorem d_MO_init_374 : decode prog_14_method_1_code 374 = .ok (.iastore, 1) := by decide +kernel
theorem d_MO_init_375 : decode prog_14_method_1_code 375 = .ok (.dup, 1) := by decide +kernel
theorem d_MO_init_376 : decode prog_14_method_1_code 376 = .ok (.bipush 37, 2) := by decide +kernel
theorem d_MO_init_378 : decode prog_14_method_1_code 378 = .ok (.bipush 104, 2) := by decide +kernel
theorem d_MO_init_380 : decode prog_14_method_1_code 380 = .ok (.iastore, 1) := by decide +kernel
theorem d_MO_init_381 : decode prog_14_method_1_code 381 = .ok (.dup, 1) := by decide +kernel
theorem d_MO_init_382 : decode prog_14_method_1_code 382 = .ok (.bipush 38, 2) := by decide +kernel
theorem d_MO_init_384 : decode prog_14_method_1_code 384 = .ok (.bipush 105, 2) := by decide +kernel
theorem d_MO_init_386 : decode prog_14_method_1_code 386 = .ok (.iastore, 1) := by decide +kernel
theorem d_MO_init_387 : decode prog_14_method_1_code 387 = .ok (.dup, 1) := by decide +kernel
theorem d_MO_init_388 : decode prog_14_method_1_code 388 = .ok (.bipush 39, 2) := by decide +kernel
theorem d_MO_init_390 : decode prog_14_method_1_code 390 = .ok (.bipush 116, 2) := by decide +kernel
theorem d_MO_init_392 : decode prog_14_method_1_code 392 = .ok (.iastore, 1) := by decide +kernel
theorem d_MO_init_393 : decode prog_14_method_1_code 393 = .ok (.dup, 1) := by decide +kernel
theorem d_MO_init_394 : decode prog_14_method_1_code 394 = .ok (.bipush 40, 2) := by decide +kernel
theorem d_MO_init_396 : decode prog_14_method_1_code 396 = .ok (.bipush 115, 2) := by decide +kernel
theorem d_MO_init_398 : decode prog_14_method_1_code 398 = .ok (.iastore, 1) := by decide +kernel
theorem d_MO_init_399 : decode prog_14_method_1_code 399 = .ok (.dup, 1) := by decide +kernel
theorem d_MO_init_400 : decode prog_14_method_1_code 400 = .ok (.bipush 41, 2) := by decide +kernel
theorem d_MO_init_402 : decode prog_14_method_1_code 402 = .ok (.bipush 32, 2) := by decide +kernel
theorem d_MO_init_404 : decode prog_14_method_1_code 404 = .ok (.iastore, 1) := by decide +kernel
theorem d_MO_init_405 : decode prog_14_method_1_code 405 = .ok (.dup, 1) := by decide +kernel
theorem d_MO_init_406 : decode prog_14_method_1_code 406 = .ok (.bipush 42, 2) := by decide +kernel
theorem d_MO_init_408 : decode prog_14_method_1_code 408 = .ok (.bipush 115, 2) := by decide +kernel
theorem d_MO_init_410 : decode prog_14_method_1_code 410 = .ok (.iastore, 1) := by decide +kernel
theorem d_MO_init_411 : decode prog_14_method_1_code 411 = .ok (.dup, 1) := by decide +kernel
theorem d_MO_init_412 : decode prog_14_method_1_code 412 = .ok (.bipush 43, 2) := by decide +kernel
theorem d_MO_init_414 : decode prog_14_method_1_code 414 = .ok (.bipush 112, 2) := by decide +kernel
theorem d_MO_init_416 : decode prog_14_method_1_code 416 = .ok (.iastore, 1) := by decide +kernel
theorem d_MO_init_417 : decode prog_14_method_1_code 417 = .ok (.dup, 1) := by decide +kernel
theorem d_MO_init_418 : decode prog_14_method_1_code 418 = .ok (.bipush 44, 2) := by decide +kernel
theorem d_MO_init_420 : decode prog_14_method_1_code 420 = .ok (.bipush 101, 2) := by decide +kernel
theorem d_MO_init_422 : decode prog_14_method_1_code 422 = .ok (.iastore, 1) := by decide +kernel
theorem d_MO_init_423 : decode prog_14_method_1_code 423 = .ok (.dup, 1) := by decide +kernel
theorem d_MO_init_424 : decode prog_14_method_1_code 424 = .ok (.bipush 45, 2) := by decide +kernel
theorem d_MO_init_426 : decode prog_14_method_1_code 426 = .ok (.bipush 101, 2) := by decide +kernel
theorem d_MO_init_428 : decode prog_14_method_1_code 428 = .ok (.iastore, 1) := by decide +kernel
theorem d_MO_init_429 : decode prog_14_method_1_code 429 = .ok (.dup, 1) := by decide +kernel
theorem d_MO_init_430 : decode prog_14_method_1_code 430 = .ok (.bipush 46, 2) := by decide +kernel
theorem d_MO_init_432 : decode prog_14_method_1_code 432 = .ok (.bipush 100, 2) := by decide +kernel
theorem d_MO_init_434 : decode prog_14_method_1_code 434 = .ok (.iastore, 1) := by decide +kernel
theorem d_MO_init_435 : decode prog_14_method_1_code 435 = .ok (.dup, 1) := by decide +kernel
theorem d_MO_init_436 : decode prog_14_method_1_code 436 = .ok (.bipush 47, 2) := by decide +kernel
theorem d_MO_init_438 : decode prog_14_method_1_code 438 = .ok (.bipush 32, 2) := by decide +kernel
theorem d_MO_init_440 : decode prog_14_method_1_code 440 = .ok (.iastore, 1) := by decide +kernel
theorem d_MO_init_441 : decode prog_14_method_1_code 441 = .ok (.dup, 1) := by decide +kernel
theorem d_MO_init_442 : decode prog_14_method_1_code 442 = .ok (.bipush 48, 2) := by decide +kernel
theorem d_MO_init_444 : decode prog_14_method_1_code 444 = .ok (.bipush 42, 2) := by decide +kernel
theorem d_MO_init_446 : decode prog_14_method_1_code 446 = .ok (.iastore, 1) := by decide +kernel
theorem d_MO_init_447 : decode prog_14_method_1_code 447 = .ok (.dup, 1) := by decide +kernel
theorem d_MO_init_448 : decode prog_14_method_1_code 448 = .ok (.bipush 49, 2) := by decide +kernel
theorem d_MO_init_450 : decode prog_14_method_1_code 450 = .ok (.bipush 32, 2) := by decide +kernel
theorem d_MO_init_452 : decode prog_14_method_1_code 452 = .ok (.iastore, 1) := by decide +kernel
theorem d_MO_init_453 : decode prog_14_method_1_code 453 = .ok (.dup, 1) := by decide +kernel
theorem d_MO_init_454 : decode prog_14_method_1_code 454 = .ok (.bipush 50, 2) := by decide +kernel
theorem d_MO_init_456 : decode prog_14_method_1_code 456 = .ok (.bipush 112, 2) := by decide +kernel
theorem d_MO_init_458 : decode prog_14_method_1_code 458 = .ok (.iastore, 1) := by decide +kernel
theorem d_MO_init_459 : decode prog_14_method_1_code 459 = .ok (.dup, 1) := by decide +kernel
theorem d_MO_init_460 : decode prog_14_method_1_code 460 = .ok (.bipush 51, 2) := by decide +kernel
theorem d_MO_init_462 : decode prog_14_method_1_code 462 = .ok (.bipush 101, 2) := by decide +kernel
theorem d_MO_init_464 : decode prog_14_method_1_code 464 = .ok (.iastore, 1) := by decide +kernel
theorem d_MO_init_465 : decode prog_14_method_1_code 465 = .ok (.dup, 1) := by decide +kernel
theorem d_MO_init_466 : decode prog_14_method_1_code 466 = .ok (.bipush 52, 2) := by decide +kernel
theorem d_MO_init_468 : decode prog_14_method_1_code 468 = .ok (.bipush 111, 2) := by decide +kernel
theorem d_MO_init_470 : decode prog_14_method_1_code 470 = .ok (.iastore, 1) := by decide +kernel
theorem d_MO_init_471 : decode prog_14_method_1_code 471 = .ok (.dup, 1) := by decide +kernel
theorem d_MO_init_472 : decode prog_14_method_1_code 472 = .ok (.bipush 53, 2) := by decide +kernel
theorem d_MO_init_474 : decode prog_14_method_1_code 474 = .ok (.bipush 112, 2) := by decide +kernel
theorem d_MO_init_476 : decode prog_14_method_1_code 476 = .ok (.iastore, 1) := by decide +kernel
theorem d_MO_init_477 : decode prog_14_method_1_code 477 = .ok (.dup, 1) := by decide +kernel
theorem d_MO_init_478 : decode prog_14_method_1_code 478 = .ok (.bipush 54, 2) := by decide +kernel
theorem d_MO_init_480 : decode prog_14_method_1_code 480 = .ok (.bipush 108, 2) := by decide +kernel
theorem d_MO_init_482 : decode prog_14_method_1_code 482 = .ok (.iastore, 1) := by decide +kernel
theorem d_MO_init_483 : decode prog_14_method_1_code 483 = .ok (.dup, 1) := by decide +kernel
theorem d_MO_init_484 : decode prog_14_method_1_code 484 = .ok (.bipush 55, 2) := by decide +kernel
theorem d_MO_init_486 : decode prog_14_method_1_code 486 = .ok (.bipush 101, 2) := by decide +kernel
theorem d_MO_init_488 : decode prog_14_method_1_code 488 = .ok (.iastore, 1) := by decide +kernel
theorem d_MO_init_489 : decode prog_14_method_1_code 489 = .ok (.dup, 1) := by decide +kernel
theorem d_MO_init_490 : decode prog_14_method_1_code 490 = .ok (.bipush 56, 2) := by decide +kernel
theorem d_MO_init_492 : decode prog_14_method_1_code 492 = .ok (.bipush 32, 2) := by decide +kernel
theorem d_MO_init_494 : decode prog_14_method_1_code 494 = .ok (.iastore, 1) := by decide +kernel
theorem d_MO_init_495 : decode prog_14_method_1_code 495 = .ok (.dup, 1) := by decide +kernel
theorem d_MO_init_496 : decode prog_14_method_1_code 496 = .ok (.bipush 57, 2) := by decide +kernel
theorem d_MO_init_498 : decode prog_14_method_1_code 498 = .ok (.bipush 59, 2) := by decide +kernel
theorem d_MO_init_500 : decode prog_14_method_1_code 500 = .ok (.iastore, 1) := by decide +kernel
theorem d_MO_init_501 : decode prog_14_method_1_code 501 = .ok (.putfield 49, 3) := by decide +kernel
theorem d_MO_init_504 : decode prog_14_method_1_code 504 = .ok (.aload_n 0, 1) := by decide +kernel
theorem d_MO_init_505 : decode prog_14_method_1_code 505 = .ok (.bipush 96, 2) := by decide +kernel
theorem d_MO_init_507 : decode prog_14_method_1_code 507 = .ok (.newarray .int, 2) := by decide +kernel
theorem d_MO_init_509 : decode prog_14_method_1_code 509 = .ok (.dup, 1) := by decide +kernel
theorem d_MO_init_510 : decode prog_14_method_1_code 510 = .ok (.iconst 0, 1) := by decide +kernel
theorem d_MO_init_511 : decode prog_14_method_1_code 511 = .ok (.bipush 119, 2) := by decide +kernel
theorem d_MO_init_513 : decode prog_14_method_1_code 513 = .ok (.iastore, 1) := by decide +kernel
theorem d_MO_init_514 : decode prog_14_method_1_code 514 = .ok (.dup, 1) := by decide +kernel
theorem d_MO_init_515 : decode prog_14_method_1_code 515 = .ok (.iconst 1, 1) := by decide +kernel
theorem d_MO_init_516 : decode prog_14_method_1_code 516 = .ok (.bipush 101, 2) := by decide +kernel
theorem d_MO_init_518 : decode prog_14_method_1_code 518 = .ok (.iastore, 1) := by decide +kernel
theorem d_MO_init_519 : decode prog_14_method_1_code 519 = .ok (.dup, 1) := by decide +kernel
theorem d_MO_init_520 : decode prog_14_method_1_code 520 = .ok (.iconst 2, 1) := by decide +kernel
theorem d_MO_init_521 : decode prog_14_method_1_code 521 = .ok (.bipush 105, 2) := by decide +kernel
theorem d_MO_init_523 : decode prog_14_method_1_code 523 = .ok (.iastore, 1) := by decide +kernel
theorem d_MO_init_524 : decode prog_14_method_1_code 524 = .ok (.dup, 1) := by decide +kernel
theorem d_MO_init_525 : decode prog_14_method_1_code 525 = .ok (.iconst 3, 1) := by decide +kernel
theorem d_MO_init_526 : decode prog_14_method_1_code 526 = .ok (.bipush 103, 2) := by decide +kernel
theorem d_MO_init_528 : decode prog_14_method_1_code 528 = .ok (.iastore, 1) := by decide +kernel
theorem d_MO_init_529 : decode prog_14_method_1_code 529 = .ok (.dup, 1) := by decide +kernel
theorem d_MO_init_530 : decode prog_14_method_1_code 530 = .ok (.iconst 4, 1) := by decide +kernel
theorem d_MO_init_531 : decode prog_14_method_1_code 531 = .ok (.bipush 104, 2) := by decide +kernel
theorem d_MO_init_533 : decode prog_14_method_1_code 533 = .ok (.iastore, 1) := by decide +kernel
theorem d_MO_init_534 : decode prog_14_method_1_code 534 = .ok (.dup, 1) := by decide +kernel
theorem d_MO_init_535 : decode prog_14_method_1_code 535 = .ok (.iconst 5, 1) := by decide +kernel
theorem d_MO_init_536 : decode prog_14_method_1_code 536 = .ok (.bipush 115, 2) := by decide +kernel
theorem d_MO_init_538 : decode prog_14_method_1_code 538 = .ok (.iastore, 1) := by decide +kernel
theorem d_MO_init_539 : decode prog_14_method_1_code 539 = .ok (.dup, 1) := by decide +kernel
theorem d_MO_init_540 : decode prog_14_method_1_code 540 = .ok (.bipush 6, 2) := by decide +kernel
theorem d_MO_init_542 : decode prog_14_method_1_code 542 = .ok (.bipush 32, 2) := by decide +kernel
theorem d_MO_init_544 : decode prog_14_method_1_code 544 = .ok (.iastore, 1) := by decide +kernel
theorem d_MO_init_545 : decode prog_14_method_1_code 545 = .ok (.dup, 1) := by decide +kernel
theorem d_MO_init_546 : decode prog_14_method_1_code 546 = .ok (.bipush 7, 2) := by decide +kernel
theorem d_MO_init_548 : decode prog_14_method_1_code 548 = .ok (.bipush 32, 2) := by decide +kernel
theorem d_MO_init_550 : decode prog_14_method_1_code 550 = .ok (.iastore, 1) := by decide +kernel
theorem d_MO_init_551 : decode prog_14_method_1_code 551 = .ok (.dup, 1) := by decide +kernel
theorem d_MO_init_552 : decode prog_14_method_1_code 552 = .ok (.bipush 8, 2) := by decide +kernel
theorem d_MO_init_554 : decode prog_14_method_1_code 554 = .ok (.bipush 104, 2) := by decide +kernel
theorem d_MO_init_556 : decode prog_14_method_1_code 556 = .ok (.iastore, 1) := by decide +kernel
theorem d_MO_init_557 : decode prog_14_method_1_code 557 = .ok (.dup, 1) := by decide +kernel
theorem d_MO_init_558 : decode prog_14_method_1_code 558 = .ok (.bipush 9, 2) := by decide +kernel
theorem d_MO_init_560 : decode prog_14_method_1_code 560 = .ok (.bipush 111, 2) := by decide +kernel
theorem d_MO_init_562 : decode prog_14_method_1_code 562 = .ok (.iastore, 1) := by decide +kernel
theorem d_MO_init_563 : decode prog_14_method_1_code 563 = .ok (.dup, 1) := by decide +kernel
theorem d_MO_init_564 : decode prog_14_method_1_code 564 = .ok (.bipush 10, 2) := by decide +kernel
theorem d_MO_init_566 : decode prog_14_method_1_code 566 = .ok (.bipush 108, 2) := by decide +kernel
theorem d_MO_init_568 : decode prog_14_method_1_code 568 = .ok (.iastore, 1) := by decide +kernel
theorem d_MO_init_569 : decode prog_14_method_1_code 569 = .ok (.dup, 1) := by decide +kernel
theorem d_MO_init_570 : decode prog_14_method_1_code 570 = .ok (.bipush 11, 2) := by decide +kernel
theorem d_MO_init_572 : decode prog_14_method_1_code 572 = .ok (.bipush 100, 2) := by decide +kernel
theorem d_MO_init_574 : decode prog_14_method_1_code 574 = .ok (.iastore, 1) := by decide +kernel
theorem d_MO_init_575 : decode prog_14_method_1_code 575 = .ok (.dup, 1) := by decide +kernel
theorem d_MO_init_576 : decode prog_14_method_1_code 576 = .ok (.bipush 12, 2) := by decide +kernel
theorem d_MO_init_578 : decode prog_14_method_1_code 578 = .ok (.bipush 115, 2) := by decide +kernel
theorem d_MO_init_580 : decode prog_14_method_1_code 580 = .ok (.iastore, 1) := by decide +kernel
theorem d_MO_init_581 : decode prog_14_method_1_code 581 = .ok (.dup, 1) := by decide +kernel
theorem d_MO_init_582 : decode prog_14_method_1_code 582 = .ok (.bipush 13, 2) := by decide +kernel
theorem d_MO_init_584 : decode prog_14_method_1_code 584 = .ok (.bipush 32, 2) := by decide +kernel
theorem d_MO_init_586 : decode prog_14_method_1_code 586 = .ok (.iastore, 1) := by decide +kernel
theorem d_MO_init_587 : decode prog_14_method_1_code 587 = .ok (.dup, 1) := by decide +kernel
theorem d_MO_init_588 : decode prog_14_method_1_code 588 = .ok (.bipush 14, 2) := by decide +kernel
theorem d_MO_init_590 : decode prog_14_method_1_code 590 = .ok (.bipush 32, 2) := by decide +kernel
theorem d_MO_init_592 : decode prog_14_method_1_code 592 = .ok (.iastore, 1) := by decide +kernel
theorem d_MO_init_593 : decode prog_14_method_1_code 593 = .ok (.dup, 1) := by decide +kernel
theorem d_MO_init_594 : decode prog_14_method_1_code 594 = .ok (.bipush 15, 2) := by decide +kernel
theorem d_MO_init_596 : decode prog_14_method_1_code 596 = .ok (.bipush 32, 2) := by decide +kernel
theorem d_MO_init_598 : decode prog_14_method_1_code 598 = .ok (.iastore, 1) := by decide +kernel
theorem d_MO_init_599 : decode prog_14_method_1_code 599 = .ok (.dup, 1) := by decide +kernel
theorem d_MO_init_600 : decode prog_14_method_1_code 600 = .ok (.bipush 16, 2) := by decide +kernel
theorem d_MO_init_602 : decode prog_14_method_1_code 602 = .ok (.bipush 104, 2) := by decide +kernel
theorem d_MO_init_604 : decode prog_14_method_1_code 604 = .ok (.iastore, 1) := by decide +kernel
theorem d_MO_init_605 : decode prog_14_method_1_code 605 = .ok (.dup, 1) := by decide +kernel
theorem d_MO_init_606 : decode prog_14_method_1_code 606 = .ok (.bipush 17, 2) := by decide +kernel
theorem d_MO_init_608 : decode prog_14_method_1_code 608 = .ok (.bipush 105, 2) := by decide +kernel
theorem d_MO_init_610 : decode prog_14_method_1_code 610 = .ok (.iastore, 1) := by decide +kernel
theorem d_MO_init_611 : decode prog_14_method_1_code 611 = .ok (.dup, 1) := by decide +kernel
theorem d_MO_init_612 : decode prog_14_method_1_code 612 = .ok (.bipush 18, 2) := by decide +kernel
theorem d_MO_init_614 : decode prog_14_method_1_code 614 = .ok (.bipush 116, 2) := by decide +kernel
theorem d_MO_init_616 : decode prog_14_method_1_code 616 = .ok (.iastore, 1) := by decide +kernel
theorem d_MO_init_617 : decode prog_14_method_1_code 617 = .ok (.dup, 1) := by decide +kernel
theorem d_MO_init_618 : decode prog_14_method_1_code 618 = .ok (.bipush 19, 2) := by decide +kernel
theorem d_MO_init_620 : decode prog_14_method_1_code 620 = .ok (.bipush 115, 2) := by decide +kernel
theorem d_MO_init_622 : decode prog_14_method_1_code 622 = .ok (.iastore, 1) := by decide +kernel
theorem d_MO_init_623 : decode prog_14_method_1_code 623 = .ok (.dup, 1) := by decide +kernel
theorem d_MO_init_624 : decode prog_14_method_1_code 624 = .ok (.bipush 20, 2) := by decide +kernel
theorem d_MO_init_626 : decode prog_14_method_1_code 626 = .ok (.bipush 32, 2) := by decide +kernel
theorem d_MO_init_628 : decode prog_14_method_1_code 628 = .ok (.iastore, 1) := by decide +kernel
theorem d_MO_init_629 : decode prog_14_method_1_code 629 = .ok (.dup, 1) := by decide +kernel
theorem d_MO_init_630 : decode prog_14_method_1_code 630 = .ok (.bipush 21, 2) := by decide +kernel
theorem d_MO_init_632 : decode prog_14_method_1_code 632 = .ok (.bipush 32, 2) := by decide +kernel
theorem d_MO_init_634 : decode prog_14_method_1_code 634 = .ok (.iastore, 1) := by decide +kernel
theorem d_MO_init_635 : decode prog_14_method_1_code 635 = .ok (.dup, 1) := by decide +kernel
theorem d_MO_init_636 : decode prog_14_method_1_code 636 = .ok (.bipush 22, 2) := by decide +kernel
theorem d_MO_init_638 : decode prog_14_method_1_code 638 = .ok (.bipush 32, 2) := by decide +kernel
theorem d_MO_init_640 : decode prog_14_method_1_code 640 = .ok (.iastore, 1) := by decide +kernel
theorem d_MO_init_641 : decode prog_14_method_1_code 641 = .ok (.dup, 1) := by decide +kernel
theorem d_MO_init_642 : decode prog_14_method_1_code 642 = .ok (.bipush 23, 2) := by decide +kernel
theorem d_MO_init_644 : decode prog_14_method_1_code 644 = .ok (.bipush 32, 2) := by decide +kernel
theorem d_MO_init_646 : decode prog_14_method_1_code 646 = .ok (.iastore, 1) := by decide +kernel
theorem d_MO_init_647 : decode prog_14_method_1_code 647 = .ok (.dup, 1) := by decide +kernel
theorem d_MO_init_648 : decode prog_14_method_1_code 648 = .ok (.bipush 24, 2) := by decide +kernel
theorem d_MO_init_650 : decode prog_14_method_1_code 650 = .ok (.bipush 116, 2) := by decide +kernel
theorem d_MO_init_652 : decode prog_14_method_1_code 652 = .ok (.iastore, 1) := by decide +kernel
theorem d_MO_init_653 : decode prog_14_method_1_code 653 = .ok (.dup, 1) := by decide +kernel
theorem d_MO_init_654 : decode prog_14_method_1_code 654 = .ok (.bipush 25, 2) := by decide +kernel
theorem d_MO_init_656 : decode prog_14_method_1_code 656 = .ok (.bipush 111, 2) := by decide +kernel
theorem d_MO_init_658 : decode prog_14_method_1_code 658 = .ok (.iastore, 1) := by decide +kernel
theorem d_MO_init_659 : decode prog_14_method_1_code 659 = .ok (.dup, 1) := by decide +kernel
theorem d_MO_init_660 : decode prog_14_method_1_code 660 = .ok (.bipush 26, 2) := by decide +kernel
theorem d_MO_init_662 : decode prog_14_method_1_code 662 = .ok (.bipush 108, 2) := by decide +kernel
theorem d_MO_init_664 : decode prog_14_method_1_code 664 = .ok (.iastore, 1) := by decide +kernel
theorem d_MO_init_665 : decode prog_14_method_1_code 665 = .ok (.dup, 1) := by decide +kernel
theorem d_MO_init_666 : decode prog_14_method_1_code 666 = .ok (.bipush 27, 2) := by decide +kernel
theorem d_MO_init_668 : decode prog_14_method_1_code 668 = .ok (.bipush 100, 2) := by decide +kernel
theorem d_MO_init_670 : decode prog_14_method_1_code 670 = .ok (.iastore, 1) := by decide +kernel
theorem d_MO_init_671 : decode prog_14_method_1_code 671 = .ok (.dup, 1) := by decide +kernel
theorem d_MO_init_672 : decode prog_14_method_1_code 672 = .ok (.bipush 28, 2) := by decide +kernel
theorem d_MO_init_674 : decode prog_14_method_1_code 674 = .ok (.bipush 32, 2) := by decide +kernel
theorem d_MO_init_676 : decode prog_14_method_1_code 676 = .ok (.iastore, 1) := by decide +kernel
theorem d_MO_init_677 : decode prog_14_method_1_code 677 = .ok (.dup, 1) := by decide +kernel
theorem d_MO_init_678 : decode prog_14_method_1_code 678 = .ok (.bipush 29, 2) := by decide +kernel
theorem d_MO_init_680 : decode prog_14_method_1_code 680 = .ok (.bipush 32, 2) := by decide +kernel
theorem d_MO_init_682 : decode prog_14_method_1_code 682 = .ok (.iastore, 1) := by decide +kernel
theorem d_MO_init_683 : decode prog_14_method_1_code 683 = .ok (.dup, 1) := by decide +kernel
theorem d_MO_init_684 : decode prog_14_method_1_code 684 = .ok (.bipush 30, 2) := by decide +kernel
theorem d_MO_init_686 : decode prog_14_method_1_code 686 = .ok (.bipush 32, 2) := by decide +kernel
theorem d_MO_init_688 : decode prog_14_method_1_code 688 = .ok (.iastore, 1) := by decide +kernel
theorem d_MO_init_689 : decode prog_14_method_1_code 689 = .ok (.dup, 1) := by decide +kernel
theorem d_MO_init_690 : decode prog_14_method_1_code 690 = .ok (.bipush 31, 2) := by decide +kernel
theorem d_MO_init_692 : decode prog_14_method_1_code 692 = .ok (.bipush 32, 2) := by decide +kernel
theorem d_MO_init_694 : decode prog_14_method_1_code 694 = .ok (.iastore, 1) := by decide +kernel
theorem d_MO_init_695 : decode prog_14_method_1_code 695 = .ok (.dup, 1) := by decide +kernel
theorem d_MO_init_696 : decode prog_14_method_1_code 696 = .ok (.bipush 32, 2) := by decide +kernel
theorem d_MO_init_698 : decode prog_14_method_1_code 698 = .ok (.bipush 112, 2) := by decide +kernel
theorem d_MO_init_700 : decode prog_14_method_1_code 700 = .ok (.iastore, 1) := by decide +kernel
theorem d_MO_init_701 : decode prog_14_method_1_code 701 = .ok (.dup, 1) := by decide +kernel
theorem d_MO_init_702 : decode prog_14_method_1_code 702 = .ok (.bipush 33, 2) := by decide +kernel
theorem d_MO_init_704 : decode prog_14_method_1_code 704 = .ok (.bipush 101, 2) := by decide +kernel
theorem d_MO_init_706 : decode prog_14_method_1_code 706 = .ok (.iastore, 1) := by decide +kernel
theorem d_MO_init_707 : decode prog_14_method_1_code 707 = .ok (.dup, 1) := by decide +kernel
theorem d_MO_init_708 : decode prog_14_method_1_code 708 = .ok (.bipush 34, 2) := by decide +kernel
theorem d_MO_init_710 : decode prog_14_method_1_code 710 = .ok (.bipush 111, 2) := by decide +kernel
theorem d_MO_init_712 : decode prog_14_method_1_code 712 = .ok (.iastore, 1) := by decide +kernel
theorem d_MO_init_713 : decode prog_14_method_1_code 713 = .ok (.dup, 1) := by decide +kernel
theorem d_MO_init_714 : decode prog_14_method_1_code 714 = .ok (.bipush 35, 2) := by decide +kernel
theorem d_MO_init_716 : decode prog_14_method_1_code 716 = .ok (.bipush 112, 2) := by decide +kernel
theorem d_MO_init_718 : decode prog_14_method_1_code 718 = .ok (.iastore, 1) := by decide +kernel
theorem d_MO_init_719 : decode prog_14_method_1_code 719 = .ok (.dup, 1) := by decide +kernel
theorem d_MO_init_720 : decode prog_14_method_1_code 720 = .ok (.bipush 36, 2) := by decide +kernel
theorem d_MO_init_722 : decode prog_14_method_1_code 722 = .ok (.bipush 108, 2) := by decide +kernel
theorem d_MO_init_724 : decode prog_14_method_1_code 724 = .ok (.iastore, 1) := by decide +kernel
theorem d_MO_init_725 : decode prog_14_method_1_code 725 = .ok (.dup, 1) := by decide +kernel
theorem d_MO_init_726 : decode prog_14_method_1_code 726 = .ok (.bipush 37, 2) := by decide +kernel
theorem d_MO_init_728 : decode prog_14_method_1_code 728 = .ok (.bipush 101, 2) := by decide +kernel
theorem d_MO_init_730 : decode prog_14_method_1_code 730 = .ok (.iastore, 1) := by decide +kernel
theorem d_MO_init_731 : decode prog_14_method_1_code 731 = .ok (.dup, 1) := by decide +kernel
theorem d_MO_init_732 : decode prog_14_method_1_code 732 = .ok (.bipush 38, 2) := by decide +kernel
theorem d_MO_init_734 : decode prog_14_method_1_code 734 = .ok (.bipush 32, 2) := by decide +kernel
theorem d_MO_init_736 : decode prog_14_method_1_code 736 = .ok (.iastore, 1) := by decide +kernel
theorem d_MO_init_737 : decode prog_14_method_1_code 737 = .ok (.dup, 1) := by decide +kernel
theorem d_MO_init_738 : decode prog_14_method_1_code 738 = .ok (.bipush 39, 2) := by decide +kernel
theorem d_MO_init_740 : decode prog_14_method_1_code 740 = .ok (.bipush 32, 2) := by decide +kernel
theorem d_MO_init_742 : decode prog_14_method_1_code 742 = .ok (.iastore, 1) := by decide +kernel
theorem d_MO_init_743 : decode prog_14_method_1_code 743 = .ok (.dup, 1) := by decide +kernel
theorem d_MO_init_744 : decode prog_14_method_1_code 744 = .ok (.bipush 40, 2) := by decide +kernel
theorem d_MO_init_746 : decode prog_14_method_1_code 746 = .ok (.bipush 109, 2) := by decide +kernel
theorem d_MO_init_748 : decode prog_14_method_1_code 748 = .ok (.iastore, 1) := by decide +kernel
theorem d_MO_init_749 : decode prog_14_method_1_code 749 = .ok (.dup, 1) := by decide +kernel
theorem d_MO_init_750 : decode prog_14_method_1_code 750 = .ok (.bipush 41, 2) := by decide +kernel
theorem d_MO_init_752 : decode prog_14_method_1_code 752 = .ok (.bipush 111, 2) := by decide +kernel
theorem d_MO_init_754 : decode prog_14_method_1_code 754 = .ok (.iastore, 1) := by decide +kernel
theorem d_MO_init_755 : decode prog_14_method_1_code 755 = .ok (.dup, 1) := by decide +kernel
theorem d_MO_init_756 : decode prog_14_method_1_code 756 = .ok (.bipush 42, 2) := by decide +kernel
theorem d_MO_init_758 : decode prog_14_method_1_code 758 = .ok (.bipush 114, 2) := by decide +kernel
theorem d_MO_init_760 : decode prog_14_method_1_code 760 = .ok (.iastore, 1) := by decide +kernel
theorem d_MO_init_761 : decode prog_14_method_1_code 761 = .ok (.dup, 1) := by decide +kernel
theorem d_MO_init_762 : decode prog_14_method_1_code 762 = .ok (.bipush 43, 2) := by decide +kernel
theorem d_MO_init_764 : decode prog_14_method_1_code 764 = .ok (.bipush 101, 2) := by decide +kernel
theorem d_MO_init_766 : decode prog_14_method_1_code 766 = .ok (.iastore, 1) := by decide +kernel
theorem d_MO_init_767 : decode prog_14_method_1_code 767 = .ok (.dup, 1) := by decide +kernel
theorem d_MO_init_768 : decode prog_14_method_1_code 768 = .ok (.bipush 44, 2) := by decide +kernel
theorem d_MO_init_770 : decode prog_14_method_1_code 770 = .ok (.bipush 32, 2) := by decide +kernel
theorem d_MO_init_772 : decode prog_14_method_1_code 772 = .ok (.iastore, 1) := by decide +kernel
theorem d_MO_init_773 : decode prog_14_method_1_code 773 = .ok (.dup, 1) := by decide +kernel
theorem d_MO_init_774 : decode prog_14_method_1_code 774 = .ok (.bipush 45, 2) := by decide +kernel
theorem d_MO_init_776 : decode prog_14_method_1_code 776 = .ok (.bipush 32, 2) := by decide +kernel
theorem d_MO_init_778 : decode prog_14_method_1_code 778 = .ok (.iastore, 1) := by decide +kernel
theorem d_MO_init_779 : decode prog_14_method_1_code 779 = .ok (.dup, 1) := by decide +kernel
theorem d_MO_init_780 : decode prog_14_method_1_code 780 = .ok (.bipush 46, 2) := by decide +kernel
theorem d_MO_init_782 : decode prog_14_method_1_code 782 = .ok (.bipush 32, 2) := by decide +kernel
theorem d_MO_init_784 : decode prog_14_method_1_code 784 = .ok (.iastore, 1) := by decide +kernel
theorem d_MO_init_785 : decode prog_14_method_1_code 785 = .ok (.dup, 1) := by decide +kernel
theorem d_MO_init_786 : decode prog_14_method_1_code 786 = .ok (.bipush 47, 2) := by decide +kernel
theorem d_MO_init_788 : decode prog_14_method_1_code 788 = .ok (.bipush 32, 2) := by decide +kernel
theorem d_MO_init_790 : decode prog_14_method_1_code 790 = .ok (.iastore, 1) := by decide +kernel
theorem d_MO_init_791 : decode prog_14_method_1_code 791 = .ok (.dup, 1) := by decide +kernel
theorem d_MO_init_792 : decode prog_14_method_1_code 792 = .ok (.bipush 48, 2) := by decide +kernel
theorem d_MO_init_794 : decode prog_14_method_1_code 794 = .ok (.bipush 104, 2) := by decide +kernel
theorem d_MO_init_796 : decode prog_14_method_1_code 796 = .ok (.iastore, 1) := by decide +kernel
theorem d_MO_init_797 : decode prog_14_method_1_code 797 = .ok (.dup, 1) := by decide +kernel
theorem d_MO_init_798 : decode prog_14_method_1_code 798 = .ok (.bipush 49, 2) := by decide +kernel
theorem d_MO_init_800 : decode prog_14_method_1_code 800 = .ok (.bipush 105, 2) := by decide +kernel
theorem d_MO_init_802 : decode prog_14_method_1_code 802 = .ok (.iastore, 1) := by decide +kernel
theorem d_MO_init_803 : decode prog_14_method_1_code 803 = .ok (.dup, 1) := by decide +kernel
theorem d_MO_init_804 : decode prog_14_method_1_code 804 = .ok (.bipush 50, 2) := by decide +kernel
theorem d_MO_init_806 : decode prog_14_method_1_code 806 = .ok (.bipush 103, 2) := by decide +kernel
theorem d_MO_init_808 : decode prog_14_method_1_code 808 = .ok (.iastore, 1) := by decide +kernel
theorem d_MO_init_809 : decode prog_14_method_1_code 809 = .ok (.dup, 1) := by decide +kernel
theorem d_MO_init_810 : decode prog_14_method_1_code 810 = .ok (.bipush 51, 2) := by decide +kernel
theorem d_MO_init_812 : decode prog_14_method_1_code 812 = .ok (.bipush 104, 2) := by decide +kernel
theorem d_MO_init_814 : decode prog_14_method_1_code 814 = .ok (.iastore, 1) := by decide +kernel
theorem d_MO_init_815 : decode prog_14_method_1_code 815 = .ok (.dup, 1) := by decide +kernel
theorem d_MO_init_816 : decode prog_14_method_1_code 816 = .ok (.bipush 52, 2) := by decide +kernel
theorem d_MO_init_818 : decode prog_14_method_1_code 818 = .ok (.bipush 32, 2) := by decide +kernel
theorem d_MO_init_820 : decode prog_14_method_1_code 820 = .ok (.iastore, 1) := by decide +kernel
theorem d_MO_init_821 : decode prog_14_method_1_code 821 = .ok (.dup, 1) := by decide +kernel
theorem d_MO_init_822 : decode prog_14_method_1_code 822 = .ok (.bipush 53, 2) := by decide +kernel
theorem d_MO_init_824 : decode prog_14_method_1_code 824 = .ok (.bipush 32, 2) := by decide +kernel
theorem d_MO_init_826 : decode prog_14_method_1_code 826 = .ok (.iastore, 1) := by decide +kernel
theorem d_MO_init_827 : decode prog_14_method_1_code 827 = .ok (.dup, 1) := by decide +kernel
theorem d_MO_init_828 : decode prog_14_method_1_code 828 = .ok (.bipush 54, 2) := by decide +kernel
theorem d_MO_init_830 : decode prog_14_method_1_code 830 = .ok (.bipush 32, 2) := by decide +kernel
theorem d_MO_init_832 : decode prog_14_method_1_code 832 = .ok (.iastore, 1) := by decide +kernel
theorem d_MO_init_833 : decode prog_14_method_1_code 833 = .ok (.dup, 1) := by decide +kernel
theorem d_MO_init_834 : decode prog_14_method_1_code 834 = .ok (.bipush 55, 2) := by decide +kernel
theorem d_MO_init_836 : decode prog_14_method_1_code 836 = .ok (.bipush 32, 2) := by decide +kernel
theorem d_MO_init_838 : decode prog_14_method_1_code 838 = .ok (.iastore, 1) := by decide +kernel
theorem d_MO_init_839 : decode prog_14_method_1_code 839 = .ok (.dup, 1) := by decide +kernel
theorem d_MO_init_840 : decode prog_14_method_1_code 840 = .ok (.bipush 56, 2) := by decide +kernel
theorem d_MO_init_842 : decode prog_14_method_1_code 842 = .ok (.bipush 109, 2) := by decide +kernel
theorem d_MO_init_844 : decode prog_14_method_1_code 844 = .ok (.iastore, 1) := by decide +kernel
theorem d_MO_init_845 : decode prog_14_method_1_code 845 = .ok (.dup, 1) := by decide +kernel
theorem d_MO_init_846 : decode prog_14_method_1_code 846 = .ok (.bipush 57, 2) := by decide +kernel
theorem d_MO_init_848 : decode prog_14_method_1_code 848 = .ok (.bipush 105, 2) := by decide +kernel
theorem d_MO_init_850 : decode prog_14_method_1_code 850 = .ok (.iastore, 1) := by decide +kernel
theorem d_MO_init_851 : decode prog_14_method_1_code 851 = .ok (.dup, 1) := by decide +kernel
theorem d_MO_init_852 : decode prog_14_method_1_code 852 = .ok (.bipush 58, 2) := by decide +kernel
theorem d_MO_init_854 : decode prog_14_method_1_code 854 = .ok (.bipush 110, 2) := by decide +kernel
theorem d_MO_init_856 : decode prog_14_method_1_code 856 = .ok (.iastore, 1) := by decide +kernel
theorem d_MO_init_857 : decode prog_14_method_1_code 857 = .ok (.dup, 1) := by decide +kernel
theorem d_MO_init_858 : decode prog_14_method_1_code 858 = .ok (.bipush 59, 2) := by decide +kernel
theorem d_MO_init_860 : decode prog_14_method_1_code 860 = .ok (.bipush 117, 2) := by decide +kernel
theorem d_MO_init_862 : decode prog_14_method_1_code 862 = .ok (.iastore, 1) := by decide +kernel
theorem d_MO_init_863 : decode prog_14_method_1_code 863 = .ok (.dup, 1) := by decide +kernel
theorem d_MO_init_864 : decode prog_14_method_1_code 864 = .ok (.bipush 60, 2) := by decide +kernel
theorem d_MO_init_866 : decode prog_14_method_1_code 866 = .ok (.bipush 116, 2) := by decide +kernel
theorem d_MO_init_868 : decode prog_14_method_1_code 868 = .ok (.iastore, 1) := by decide +kernel
theorem d_MO_init_869 : decode prog_14_method_1_code 869 = .ok (.dup, 1) := by decide +kernel
theorem d_MO_init_870 : decode prog_14_method_1_code 870 = .ok (.bipush 61, 2) := by decide +kernel
theorem d_MO_init_872 : decode prog_14_method_1_code 872 = .ok (.bipush 101, 2) := by decide +kernel
theorem d_MO_init_874 : decode prog_14_method_1_code 874 = .ok (.iastore, 1) := by decide +kernel
theorem d_MO_init_875 : decode prog_14_method_1_code 875 = .ok (.dup, 1) := by decide +kernel
theorem d_MO_init_876 : decode prog_14_method_1_code 876 = .ok (.bipush 62, 2) := by decide +kernel
theorem d_MO_init_878 : decode prog_14_method_1_code 878 = .ok (.bipush 32, 2) := by decide +kernel
theorem d_MO_init_880 : decode prog_14_method_1_code 880 = .ok (.iastore, 1) := by decide +kernel
theorem d_MO_init_881 : decode prog_14_method_1_code 881 = .ok (.dup, 1) := by decide +kernel
theorem d_MO_init_882 : decode prog_14_method_1_code 882 = .ok (.bipush 63, 2) := by decide +kernel
theorem d_MO_init_884 : decode prog_14_method_1_code 884 = .ok (.bipush 32, 2) := by decide +kernel
theorem d_MO_init_886 : decode prog_14_method_1_code 886 = .ok (.iastore, 1) := by decide +kernel
theorem d_MO_init_887 : decode prog_14_method_1_code 887 = .ok (.dup, 1) := by decide +kernel
theorem d_MO_init_888 : decode prog_14_method_1_code 888 = .ok (.bipush 64, 2) := by decide +kernel
theorem d_MO_init_890 : decode prog_14_method_1_code 890 = .ok (.bipush 115, 2) := by decide +kernel
theorem d_MO_init_892 : decode prog_14_method_1_code 892 = .ok (.iastore, 1) := by decide +kernel
theorem d_MO_init_893 : decode prog_14_method_1_code 893 = .ok (.dup, 1) := by decide +kernel
theorem d_MO_init_894 : decode prog_14_method_1_code 894 = .ok (.bipush 65, 2) := by decide +kernel
theorem d_MO_init_896 : decode prog_14_method_1_code 896 = .ok (.bipush 112, 2) := by decide +kernel
theorem d_MO_init_898 : decode prog_14_method_1_code 898 = .ok (.iastore, 1) := by decide +kernel
theorem d_MO_init_899 : decode prog_14_method_1_code 899 = .ok (.dup, 1) := by decide +kernel
theorem d_MO_init_900 : decode prog_14_method_1_code 900 = .ok (.bipush 66, 2) := by decide +kernel
theorem d_MO_init_902 : decode prog_14_method_1_code 902 = .ok (.bipush 101, 2) := by decide +kernel
theorem d_MO_init_904 : decode prog_14_method_1_code 904 = .ok (.iastore, 1) := by decide +kernel
theorem d_MO_init_905 : decode prog_14_method_1_code 905 = .ok (.dup, 1) := by decide +kernel
theorem d_MO_init_906 : decode prog_14_method_1_code 906 = .ok (.bipush 67, 2) := by decide +kernel
theorem d_MO_init_908 : decode prog_14_method_1_code 908 = .ok (.bipush 101, 2) := by decide +kernel
theorem d_MO_init_910 : decode prog_14_method_1_code 910 = .ok (.iastore, 1) := by decide +kernel
theorem d_MO_init_911 : decode prog_14_method_1_code 911 = .ok (.dup, 1) := by decide +kernel
theorem d_MO_init_912 : decode prog_14_method_1_code 912 = .ok (.bipush 68, 2) := by decide +kernel
theorem d_MO_init_914 : decode prog_14_method_1_code 914 = .ok (.bipush 100, 2) := by decide +kernel
theorem d_MO_init_916 : decode prog_14_method_1_code 916 = .ok (.iastore, 1) := by decide +kernel
theorem d_MO_init_917 : decode prog_14_method_1_code 917 = .ok (.dup, 1) := by decide +kernel
theorem d_MO_init_918 : decode prog_14_method_1_code 918 = .ok (.bipush 69, 2) := by decide +kernel
theorem d_MO_init_920 : decode prog_14_method_1_code 920 = .ok (.bipush 32, 2) := by decide +kernel
theorem d_MO_init_922 : decode prog_14_method_1_code 922 = .ok (.iastore, 1) := by decide +kernel
theorem d_MO_init_923 : decode prog_14_method_1_code 923 = .ok (.dup, 1) := by decide +kernel
theorem d_MO_init_924 : decode prog_14_method_1_code 924 = .ok (.bipush 70, 2) := by decide +kernel
theorem d_MO_init_926 : decode prog_14_method_1_code 926 = .ok (.bipush 32, 2) := by decide +kernel
theorem d_MO_init_928 : decode prog_14_method_1_code 928 = .ok (.iastore, 1) := by decide +kernel
theorem d_MO_init_929 : decode prog_14_method_1_code 929 = .ok (.dup, 1) := by decide +kernel
theorem d_MO_init_930 : decode prog_14_method_1_code 930 = .ok (.bipush 71, 2) := by decide +kernel
theorem d_MO_init_932 : decode prog_14_method_1_code 932 = .ok (.bipush 32, 2) := by decide +kernel
theorem d_MO_init_934 : decode prog_14_method_1_code 934 = .ok (.iastore, 1) := by decide +kernel
theorem d_MO_init_935 : decode prog_14_method_1_code 935 = .ok (.dup, 1) := by decide +kernel
theorem d_MO_init_936 : decode prog_14_method_1_code 936 = .ok (.bipush 72, 2) := by decide +kernel
theorem d_MO_init_938 : decode prog_14_method_1_code 938 = .ok (.bipush 111, 2) := by decide +kernel
theorem d_MO_init_940 : decode prog_14_method_1_code 940 = .ok (.iastore, 1) := by decide +kernel
theorem d_MO_init_941 : decode prog_14_method_1_code 941 = .ok (.dup, 1) := by decide +kernel
theorem d_MO_init_942 : decode prog_14_method_1_code 942 = .ok (.bipush 73, 2) := by decide +kernel
theorem d_MO_init_944 : decode prog_14_method_1_code 944 = .ok (.bipush 114, 2) := by decide +kernel
theorem d_MO_init_946 : decode prog_14_method_1_code 946 = .ok (.iastore, 1) := by decide +kernel
theorem d_MO_init_947 : decode prog_14_method_1_code 947 = .ok (.dup, 1) := by decide +kernel
theorem d_MO_init_948 : decode prog_14_method_1_code 948 = .ok (.bipush 74, 2) := by decide +kernel
theorem d_MO_init_950 : decode prog_14_method_1_code 950 = .ok (.bipush 32, 2) := by decide +kernel
theorem d_MO_init_952 : decode prog_14_method_1_code 952 = .ok (.iastore, 1) := by decide +kernel
theorem d_MO_init_953 : decode prog_14_method_1_code 953 = .ok (.dup, 1) := by decide +kernel
theorem d_MO_init_954 : decode prog_14_method_1_code 954 = .ok (.bipush 75, 2) := by decide +kernel
theorem d_MO_init_956 : decode prog_14_method_1_code 956 = .ok (.bipush 32, 2) := by decide +kernel
theorem d_MO_init_958 : decode prog_14_method_1_code 958 = .ok (.iastore, 1) := by decide +kernel
theorem d_MO_init_959 : decode prog_14_method_1_code 959 = .ok (.dup, 1) := by decide +kernel
theorem d_MO_init_960 : decode prog_14_method_1_code 960 = .ok (.bipush 76, 2) := by decide +kernel
theorem d_MO_init_962 : decode prog_14_method_1_code 962 = .ok (.bipush 32, 2) := by decide +kernel
theorem d_MO_init_964 : decode prog_14_method_1_code 964 = .ok (.iastore, 1) := by decide +kernel
theorem d_MO_init_965 : decode prog_14_method_1_code 965 = .ok (.dup, 1) := by decide +kernel
theorem d_MO_init_966 : decode prog_14_method_1_code 966 = .ok (.bipush 77, 2) := by decide +kernel
theorem d_MO_init_968 : decode prog_14_method_1_code 968 = .ok (.bipush 32, 2) := by decide +kernel
theorem d_MO_init_970 : decode prog_14_method_1_code 970 = .ok (.iastore, 1) := by decide +kernel
theorem d_MO_init_971 : decode prog_14_method_1_code 971 = .ok (.dup, 1) := by decide +kernel
theorem d_MO_init_972 : decode prog_14_method_1_code 972 = .ok (.bipush 78, 2) := by decide +kernel
theorem d_MO_init_974 : decode prog_14_method_1_code 974 = .ok (.bipush 32, 2) := by decide +kernel
theorem d_MO_init_976 : decode prog_14_method_1_code 976 = .ok (.iastore, 1) := by decide +kernel
theorem d_MO_init_977 : decode prog_14_method_1_code 977 = .ok (.dup, 1) := by decide +kernel
theorem d_MO_init_978 : decode prog_14_method_1_code 978 = .ok (.bipush 79, 2) := by decide +kernel
theorem d_MO_init_980 : decode prog_14_method_1_code 980 = .ok (.bipush 32, 2) := by decide +kernel
theorem d_MO_init_982 : decode prog_14_method_1_code 982 = .ok (.iastore, 1) := by decide +kernel
theorem d_MO_init_983 : decode prog_14_method_1_code 983 = .ok (.dup, 1) := by decide +kernel
theorem d_MO_init_984 : decode prog_14_method_1_code 984 = .ok (.bipush 80, 2) := by decide +kernel
theorem d_MO_init_986 : decode prog_14_method_1_code 986 = .ok (.bipush 97, 2) := by decide +kernel
theorem d_MO_init_988 : decode prog_14_method_1_code 988 = .ok (.iastore, 1) := by decide +kernel
theorem d_MO_init_989 : decode prog_14_method_1_code 989 = .ok (.dup, 1) := by decide +kernel
theorem d_MO_init_990 : decode prog_14_method_1_code 990 = .ok (.bipush 81, 2) := by decide +kernel
theorem d_MO_init_992 : decode prog_14_method_1_code 992 = .ok (.bipush 110, 2) := by decide +kernel
theorem d_MO_init_994 : decode prog_14_method_1_code 994 = .ok (.iastore, 1) := by decide +kernel
theorem d_MO_init_995 : decode prog_14_method_1_code 995 = .ok (.dup, 1) := by decide +kernel
theorem d_MO_init_996 : decode prog_14_method_1_code 996 = .ok (.bipush 82, 2) := by decide +kernel
theorem d_MO_init_998 : decode prog_14_method_1_code 998 = .ok (.bipush 100, 2) := by decide +kernel
theorem d_MO_init_1000 : decode prog_14_method_1_code 1000 = .ok (.iastore, 1) := by decide +kernel
theorem d_MO_init_1001 : decode prog_14_method_1_code 1001 = .ok (.dup, 1) := by decide +kernel
theorem d_MO_init_1002 : decode prog_14_method_1_code 1002 = .ok (.bipush 83, 2) := by decide +kernel
theorem d_MO_init_1004 : decode prog_14_method_1_code 1004 = .ok (.bipush 32, 2) := by decide +kernel
theorem d_MO_init_1006 : decode prog_14_method_1_code 1006 = .ok (.iastore, 1) := by decide +kernel
theorem d_MO_init_1007 : decode prog_14_method_1_code 1007 = .ok (.dup, 1) := by decide +kernel
theorem d_MO_init_1008 : decode prog_14_method_1_code 1008 = .ok (.bipush 84, 2) := by decide +kernel
theorem d_MO_init_1010 : decode prog_14_method_1_code 1010 = .ok (.bipush 32, 2) := by decide +kernel
theorem d_MO_init_1012 : decode prog_14_method_1_code 1012 = .ok (.iastore, 1) := by decide +kernel
theorem d_MO_init_1013 : decode prog_14_method_1_code 1013 = .ok (.dup, 1) := by decide +kernel
theorem d_MO_init_1014 : decode prog_14_method_1_code 1014 = .ok (.bipush 85, 2) := by decide +kernel
theorem d_MO_init_1016 : decode prog_14_method_1_code 1016 = .ok (.bipush 32, 2) := by decide +kernel
theorem d_MO_init_1018 : decode prog_14_method_1_code 1018 = .ok (.iastore, 1) := by decide +kernel
theorem d_MO_init_1019 : decode prog_14_method_1_code 1019 = .ok (.dup, 1) := by decide +kernel
theorem d_MO_init_1020 : decode prog_14_method_1_code 1020 = .ok (.bipush 86, 2) := by decide +kernel
theorem d_MO_init_1022 : decode prog_14_method_1_code 1022 = .ok (.bipush 32, 2) := by decide +kernel
theorem d_MO_init_1024 : decode prog_14_method_1_code 1024 = .ok (.iastore, 1) := by decide +kernel
theorem d_MO_init_1025 : decode prog_14_method_1_code 1025 = .ok (.dup, 1) := by decide +kernel
theorem d_MO_init_1026 : decode prog_14_method_1_code 1026 = .ok (.bipush 87, 2) := by decide +kernel
theorem d_MO_init_1028 : decode prog_14_method_1_code 1028 = .ok (.bipush 32, 2) := by decide +kernel
theorem d_MO_init_1030 : decode prog_14_method_1_code 1030 = .ok (.iastore, 1) := by decide +kernel
theorem d_MO_init_1031 : decode prog_14_method_1_code 1031 = .ok (.dup, 1) := by decide +kernel
theorem d_MO_init_1032 : decode prog_14_method_1_code 1032 = .ok (.bipush 88, 2) := by decide +kernel
theorem d_MO_init_1034 : decode prog_14_method_1_code 1034 = .ok (.bipush 110, 2) := by decide +kernel
theorem d_MO_init_1036 : decode prog_14_method_1_code 1036 = .ok (.iastore, 1) := by decide +kernel
theorem d_MO_init_1037 : decode prog_14_method_1_code 1037 = .ok (.dup, 1) := by decide +kernel
theorem d_MO_init_1038 : decode prog_14_method_1_code 1038 = .ok (.bipush 89, 2) := by decide +kernel
theorem d_MO_init_1040 : decode prog_14_method_1_code 1040 = .ok (.bipush 111, 2) := by decide +kernel
theorem d_MO_init_1042 : decode prog_14_method_1_code 1042 = .ok (.iastore, 1) := by decide +kernel
theorem d_MO_init_1043 : decode prog_14_method_1_code 1043 = .ok (.dup, 1) := by decide +kernel
theorem d_MO_init_1044 : decode prog_14_method_1_code 1044 = .ok (.bipush 90, 2) := by decide +kernel
theorem d_MO_init_1046 : decode prog_14_method_1_code 1046 = .ok (.bipush 116, 2) := by decide +kernel
theorem d_MO_init_1048 : decode prog_14_method_1_code 1048 = .ok (.iastore, 1) := by decide +kernel
theorem d_MO_init_1049 : decode prog_14_method_1_code 1049 = .ok (.dup, 1) := by decide +kernel
theorem d_MO_init_1050 : decode prog_14_method_1_code 1050 = .ok (.bipush 91, 2) := by decide +kernel
theorem d_MO_init_1052 : decode prog_14_method_1_code 1052 = .ok (.bipush 32, 2) := by decide +kernel
theorem d_MO_init_1054 : decode prog_14_method_1_code 1054 = .ok (.iastore, 1) := by decide +kernel
theorem d_MO_init_1055 : decode prog_14_method_1_code 1055 = .ok (.dup, 1) := by decide +kernel
theorem d_MO_init_1056 : decode prog_14_method_1_code 1056 = .ok (.bipush 92, 2) := by decide +kernel
theorem d_MO_init_1058 : decode prog_14_method_1_code 1058 = .ok (.bipush 32, 2) := by decide +kernel
theorem d_MO_init_1060 : decode prog_14_method_1_code 1060 = .ok (.iastore, 1) := by decide +kernel
theorem d_MO_init_1061 : decode prog_14_method_1_code 1061 = .ok (.dup, 1) := by decide +kernel
theorem d_MO_init_1062 : decode prog_14_method_1_code 1062 = .ok (.bipush 93, 2) := by decide +kernel
theorem d_MO_init_1064 : decode prog_14_method_1_code 1064 = .ok (.bipush 32, 2) := by decide +kernel
theorem d_MO_init_1066 : decode prog_14_method_1_code 1066 = .ok (.iastore, 1) := by decide +kernel
theorem d_MO_init_1067 : decode prog_14_method_1_code 1067 = .ok (.dup, 1) := by decide +kernel
theorem d_MO_init_1068 : decode prog_14_method_1_code 1068 = .ok (.bipush 94, 2) := by decide +kernel
theorem d_MO_init_1070 : decode prog_14_method_1_code 1070 = .ok (.bipush 32, 2) := by decide +kernel
theorem d_MO_init_1072 : decode prog_14_method_1_code 1072 = .ok (.iastore, 1) := by decide +kernel
theorem d_MO_init_1073 : decode prog_14_method_1_code 1073 = .ok (.dup, 1) := by decide +kernel
theorem d_MO_init_1074 : decode prog_14_method_1_code 1074 = .ok (.bipush 95, 2) := by decide +kernel
theorem d_MO_init_1076 : decode prog_14_method_1_code 1076 = .ok (.bipush 32, 2) := by decide +kernel
theorem d_MO_init_1078 : decode prog_14_method_1_code 1078 = .ok (.iastore, 1) := by decide +kernel
theorem d_MO_init_1079 : decode prog_14_method_1_code 1079 = .ok (.putfield 52, 3) := by decide +kernel
theorem d_MO_init_1082 : decode prog_14_method_1_code 1082 = .ok (.aload_n 0, 1) := by decide +kernel
theorem d_MO_init_1083 : decode prog_14_method_1_code 1083 = .ok (.sipush 200, 3) := by decide +kernel
theorem d_MO_init_1086 : decode prog_14_method_1_code 1086 = .ok (.newarray .int, 2) := by decide +kernel
theorem d_MO_init_1088 : decode prog_14_method_1_code 1088 = .ok (.putfield 55, 3) := by decide +kernel
theorem d_MO_init_1091 : decode prog_14_method_1_code 1091 = .ok (.aload_n 0, 1) := by decide +kernel
theorem d_MO_init_1092 : decode prog_14_method_1_code 1092 = .ok (.sipush 200, 3) := by decide +kernel
theorem d_MO_init_1095 : decode prog_14_method_1_code 1095 = .ok (.newarray .int, 2) := by decide +kernel
theorem d_MO_init_1097 : decode prog_14_method_1_code 1097 = .ok (.putfield 58, 3) := by decide +kernel
theorem d_MO_init_1100 : decode prog_14_method_1_code 1100 = .ok (.aload_n 0, 1) := by decide +kernel
theorem d_MO_init_1101 : decode prog_14_method_1_code 1101 = .ok (.bipush 6, 2) := by decide +kernel
theorem d_MO_init_1103 : decode prog_14_method_1_code 1103 = .ok (.newarray .int, 2) := by decide +kernel
theorem d_MO_init_1105 : decode prog_14_method_1_code 1105 = .ok (.putfield 61, 3) := by decide +kernel
theorem d_MO_init_1108 : decode prog_14_method_1_code 1108 = .ok (.aload_n 0, 1) := by decide +kernel
theorem d_MO_init_1109 : decode prog_14_method_1_code 1109 = .ok (.bipush 7, 2) := by decide +kernel
theorem d_MO_init_1111 : decode prog_14_method_1_code 1111 = .ok (.newarray .int, 2) := by decide +kernel
theorem d_MO_init_1113 : decode prog_14_method_1_code 1113 = .ok (.putfield 64, 3) := by decide +kernel
theorem d_MO_init_1116 : decode prog_14_method_1_code 1116 = .ok (.aload_n 0, 1) := by decide +kernel
theorem d_MO_init_1117 : decode prog_14_method_1_code 1117 = .ok (.bipush 7, 2) := by decide +kernel
theorem d_MO_init_1119 : decode prog_14_method_1_code 1119 = .ok (.newarray .int, 2) := by decide +kernel
theorem d_MO_init_1121 : decode prog_14_method_1_code 1121 = .ok (.putfield 67, 3) := by decide +kernel
theorem d_MO_init_1124 : decode prog_14_method_1_code 1124 = .ok (.aload_n 0, 1) := by decide +kernel
theorem d_MO_init_1125 : decode prog_14_method_1_code 1125 = .ok (.bipush 7, 2) := by decide +kernel
theorem d_MO_init_1127 : decode prog_14_method_1_code 1127 = .ok (.newarray .int, 2) := by decide +kernel
theorem d_MO_init_1129 : decode prog_14_method_1_code 1129 = .ok (.putfield 70, 3) := by decide +kernel
theorem d_MO_init_1132 : decode prog_14_method_1_code 1132 = .ok (.aload_n 0, 1) := by decide +kernel
theorem d_MO_init_1133 : decode prog_14_method_1_code 1133 = .ok (.bipush 7, 2) := by decide +kernel
theorem d_MO_init_1135 : decode prog_14_method_1_code 1135 = .ok (.newarray .int, 2) := by decide +kernel
theorem d_MO_init_1137 : decode prog_14_method_1_code 1137 = .ok (.putfield 73, 3) := by decide +kernel
theorem d_MO_init_1140 : decode prog_14_method_1_code 1140 = .ok (.aload_n 0, 1) := by decide +kernel
theorem d_MO_init_1141 : decode prog_14_method_1_code 1141 = .ok (.bipush 7, 2) := by decide +kernel
theorem d_MO_init_1143 : decode prog_14_method_1_code 1143 = .ok (.newarray .int, 2) := by decide +kernel
theorem d_MO_init_1145 : decode prog_14_method_1_code 1145 = .ok (.putfield 76, 3) := by decide +kernel
theorem d_MO_init_1148 : decode prog_14_method_1_code 1148 = .ok (.aload_n 0, 1) := by decide +kernel
theorem d_MO_init_1149 : decode prog_14_method_1_code 1149 = .ok (.bipush 7, 2) := by decide +kernel
theorem d_MO_init_1151 : decode prog_14_method_1_code 1151 = .ok (.newarray .int, 2) := by decide +kernel
theorem d_MO_init_1153 : decode prog_14_method_1_code 1153 = .ok (.putfield 79, 3) := by decide +kernel
theorem d_MO_init_1156 : decode prog_14_method_1_code 1156 = .ok (.iconst 0, 1) := by decide +kernel
theorem d_MO_init_1157 : decode prog_14_method_1_code 1157 = .ok (.istore_n 1, 1) := by decide +kernel
theorem d_MO_init_1158 : decode prog_14_method_1_code 1158 = .ok (.iload_n 1, 1) := by decide +kernel
theorem d_MO_init_1159 : decode prog_14_method_1_code 1159 = .ok (.bipush 58, 2) := by decide +kernel
theorem d_MO_init_1161 : decode prog_14_method_1_code 1161 = .ok (.if_icmp .ge 21, 3) := by decide +kernel
theorem d_MO_init_1164 : decode prog_14_method_1_code 1164 = .ok (.aload_n 0, 1) := by decide +kernel
theorem d_MO_init_1165 : decode prog_14_method_1_code 1165 = .ok (.getfield 28, 3) := by decide +kernel
theorem d_MO_init_1168 : decode prog_14_method_1_code 1168 = .ok (.iload_n 1, 1) := by decide +kernel
theorem d_MO_init_1169 : decode prog_14_method_1_code 1169 = .ok (.aload_n 0, 1) := by decide +kernel
theorem d_MO_init_1170 : decode prog_14_method_1_code 1170 = .ok (.getfield 49, 3) := by decide +kernel
theorem d_MO_init_1173 : decode prog_14_method_1_code 1173 = .ok (.iload_n 1, 1) := by decide +kernel
theorem d_MO_init_1174 : decode prog_14_method_1_code 1174 = .ok (.iaload, 1) := by decide +kernel
theorem d_MO_init_1175 : decode prog_14_method_1_code 1175 = .ok (.iastore, 1) := by decide +kernel
theorem d_MO_init_1176 : decode prog_14_method_1_code 1176 = .ok (.iinc 1 1, 3) := by decide +kernel
theorem d_MO_init_1179 : decode prog_14_method_1_code 1179 = .ok (.goto (-21), 3) := by decide +kernel
theorem d_MO_init_1182 : decode prog_14_method_1_code 1182 = .ok (.aload_n 0, 1) := by decide +kernel
theorem d_MO_init_1183 : decode prog_14_method_1_code 1183 = .ok (.bipush 58, 2) := by decide +kernel
theorem d_MO_init_1185 : decode prog_14_method_1_code 1185 = .ok (.putfield 82, 3) := by decide +kernel
theorem d_MO_init_1188 : decode prog_14_method_1_code 1188 = .ok (.aload_n 0, 1) := by decide +kernel
theorem d_MO_init_1189 : decode prog_14_method_1_code 1189 = .ok (.invokevirtual 86, 3) := by decide +kernel
theorem d_MO_init_1192 : decode prog_14_method_1_code 1192 = .ok (.pop, 1) := by decide +kernel
theorem d_MO_init_1193 : decode prog_14_method_1_code 1193 = .ok (.return_, 1) := by decide +kernel
def mh1 (g : AH) : AH := wR (wN TU (mh0 g) (100, 7)) 59 1 61
theorem mhn_1 {g : AH} (hg : g.2.2.2.2 = 0) : nC TU (mh1 g) = 61 := by
  show nC TU (wN TU (mh0 g) (100, 7)) = 61
  rw [nC_wN, mhn_0 hg]
theorem mhs_1 {g : AH} (hg : g.2.2.2.2 = 0) : rS TU (mh1 g) 59 = (12, 40) := by
  show rS TU (wN TU (mh0 g) (100, 7)) 59 = (12, 40)
  rw [rS_wN_ne (by rw [mhn_0 hg]; decide), mhs_0 hg]
set_option maxRecDepth 20000 in
theorem mha_1 {g z : AH} (H : AG g g z) : AG g (mh1 g) (mh1 z) := AG_wR (by decide) (AG_wN (mha_0 H))
def mh2 (g : AH) : AH := wR (wN TU (mh1 g) (100, 7)) 59 2 62
theorem mhn_2 {g : AH} (hg : g.2.2.2.2 = 0) : nC TU (mh2 g) = 62 := by
  show nC TU (wN TU (mh1 g) (100, 7)) = 62
  rw [nC_wN, mhn_1 hg]
theorem mhs_2 {g : AH} (hg : g.2.2.2.2 = 0) : rS TU (mh2 g) 59 = (12, 40) := by
  show rS TU (wN TU (mh1 g) (100, 7)) 59 = (12, 40)
  rw [rS_wN_ne (by rw [mhn_1 hg]; decide), mhs_1 hg]
set_option maxRecDepth 20000 in
theorem mha_2 {g z : AH} (H : AG g g z) : AG g (mh2 g) (mh2 z) := AG_wR (by decide) (AG_wN (mha_1 H))
def mh3 (g : AH) : AH := wR (wN TU (mh2 g) (100, 7)) 59 3 63
theorem mhn_3 {g : AH} (hg : g.2.2.2.2 = 0) : nC TU (mh3 g) = 63 := by
  show nC TU (wN TU (mh2 g) (100, 7)) = 63
  rw [nC_wN, mhn_2 hg]
theorem mhs_3 {g : AH} (hg : g.2.2.2.2 = 0) : rS TU (mh3 g) 59 = (12, 40) := by
  show rS TU (wN TU (mh2 g) (100, 7)) 59 = (12, 40)
  rw [rS_wN_ne (by rw [mhn_2 hg]; decide), mhs_2 hg]
set_option maxRecDepth 20000 in
theorem mha_3 {g z : AH} (H : AG g g z) : AG g (mh3 g) (mh3 z) := AG_wR (by decide) (AG_wN (mha_2 H))
def mh4 (g : AH) : AH := wR (wN TU (mh3 g) (100, 7)) 59 4 64
theorem mhn_4 {g : AH} (hg : g.2.2.2.2 = 0) : nC TU (mh4 g) = 64 := by
  show nC TU (wN TU (mh3 g) (100, 7)) = 64
  rw [nC_wN, mhn_3 hg]
theorem mhs_4 {g : AH} (hg : g.2.2.2.2 = 0) : rS TU (mh4 g) 59 = (12, 40) := by
  show rS TU (wN TU (mh3 g) (100, 7)) 59 = (12, 40)
  rw [rS_wN_ne (by rw [mhn_3 hg]; decide), mhs_3 hg]
set_option maxRecDepth 20000 in
theorem mha_4 {g z : AH} (H : AG g g z) : AG g (mh4 g) (mh4 z) := AG_wR (by decide) (AG_wN (mha_3 H))
def mh5 (g : AH) : AH := wR (wN TU (mh4 g) (100, 7)) 59 5 65
theorem mhn_5 {g : AH} (hg : g.2.2.2.2 = 0) : nC TU (mh5 g) = 65 := by
  show nC TU (wN TU (mh4 g) (100, 7)) = 65
  rw [nC_wN, mhn_4 hg]
theorem mhs_5 {g : AH} (hg : g.2.2.2.2 = 0) : rS TU (mh5 g) 59 = (12, 40) := by
  show rS TU (wN TU (mh4 g) (100, 7)) 59 = (12, 40)
  rw [rS_wN_ne (by rw [mhn_4 hg]; decide), mhs_4 hg]
set_option maxRecDepth 20000 in
theorem mha_5 {g z : AH} (H : AG g g z) : AG g (mh5 g) (mh5 z) := AG_wR (by decide) (AG_wN (mha_4 H))
def mh6 (g : AH) : AH := wR (wI (wI (wI (wI (wI (wI (wI (wN TU (mh5 g) (100, 7)) 65 0 (-1)) 65 1 (-1)) 65 2 (-1)) 65 3 (-1)) 65 4 (-1)) 65 5 (-1)) 65 6 (-1)) 59 6 66
theorem mhn_6 {g : AH} (hg : g.2.2.2.2 = 0) : nC TU (mh6 g) = 66 := by
  show nC TU (wN TU (mh5 g) (100, 7)) = 66
  rw [nC_wN, mhn_5 hg]
theorem mhs_6 {g : AH} (hg : g.2.2.2.2 = 0) : rS TU (mh6 g) 59 = (12, 40) := by
  show rS TU (wN TU (mh5 g) (100, 7)) 59 = (12, 40)
  rw [rS_wN_ne (by rw [mhn_5 hg]; decide), mhs_5 hg]
set_option maxRecDepth 20000 in
theorem mha_6 {g z : AH} (H : AG g g z) : AG g (mh6 g) (mh6 z) := AG_wR (by decide) (AG_wI (by decide) rfl (AG_wI (by decide) rfl (AG_wI (by decide) rfl (AG_wI (by decide) rfl (AG_wI (by decide) rfl (AG_wI (by decide) rfl (AG_wI (by decide) rfl (AG_wN (mha_5 H)))))))))
def mh7 (g : AH) : AH := wR (wN TU (mh6 g) (100, 160)) 59 7 67
theorem mhn_7 {g : AH} (hg : g.2.2.2.2 = 0) : nC TU (mh7 g) = 67 := by
  show nC TU (wN TU (mh6 g) (100, 160)) = 67
  rw [nC_wN, mhn_6 hg]
theorem mhs_7 {g : AH} (hg : g.2.2.2.2 = 0) : rS TU (mh7 g) 59 = (12, 40) := by
  show rS TU (wN TU (mh6 g) (100, 160)) 59 = (12, 40)
  rw [rS_wN_ne (by rw [mhn_6 hg]; decide), mhs_6 hg]
set_option maxRecDepth 20000 in
theorem mha_7 {g z : AH} (H : AG g g z) : AG g (mh7 g) (mh7 z) := AG_wR (by decide) (AG_wN (mha_6 H))
def mh8 (g : AH) : AH := wR (wN TU (mh7 g) (100, 1200)) 59 9 68
theorem mhn_8 {g : AH} (hg : g.2.2.2.2 = 0) : nC TU (mh8 g) = 68 := by
  show nC TU (wN TU (mh7 g) (100, 1200)) = 68
  rw [nC_wN, mhn_7 hg]
theorem mhs_8 {g : AH} (hg : g.2.2.2.2 = 0) : rS TU (mh8 g) 59 = (12, 40) := by
  show rS TU (wN TU (mh7 g) (100, 1200)) 59 = (12, 40)
  rw [rS_wN_ne (by rw [mhn_7 hg]; decide), mhs_7 hg]
set_option maxRecDepth 20000 in
theorem mha_8 {g z : AH} (H : AG g g z) : AG g (mh8 g) (mh8 z) := AG_wR (by decide) (AG_wN (mha_7 H))
def mh9 (g : AH) : AH := wR (wN TU (mh8 g) (100, 24)) 59 10 69
theorem mhn_9 {g : AH} (hg : g.2.2.2.2 = 0) : nC TU (mh9 g) = 69 := by
  show nC TU (wN TU (mh8 g) (100, 24)) = 69
  rw [nC_wN, mhn_8 hg]
theorem mhs_9 {g : AH} (hg : g.2.2.2.2 = 0) : rS TU (mh9 g) 59 = (12, 40) := by
  show rS TU (wN TU (mh8 g) (100, 24)) 59 = (12, 40)
  rw [rS_wN_ne (by rw [mhn_8 hg]; decide), mhs_8 hg]
set_option maxRecDepth 20000 in
theorem mha_9 {g z : AH} (H : AG g g z) : AG g (mh9 g) (mh9 z) := AG_wR (by decide) (AG_wN (mha_8 H))
def mh10 (g : AH) : AH := wR (wN TU (mh9 g) (100, 21)) 59 16 70
theorem mhn_10 {g : AH} (hg : g.2.2.2.2 = 0) : nC TU (mh10 g) = 70 := by
  show nC TU (wN TU (mh9 g) (100, 21)) = 70
  rw [nC_wN, mhn_9 hg]
theorem mhs_10 {g : AH} (hg : g.2.2.2.2 = 0) : rS TU (mh10 g) 59 = (12, 40) := by
  show rS TU (wN TU (mh9 g) (100, 21)) 59 = (12, 40)
  rw [rS_wN_ne (by rw [mhn_9 hg]; decide), mhs_9 hg]
set_option maxRecDepth 20000 in
theorem mha_10 {g z : AH} (H : AG g g z) : AG g (mh10 g) (mh10 z) := AG_wR (by decide) (AG_wN (mha_9 H))
def mh11 (g : AH) : AH := wR (wI (wI (wI (wI (wN TU (mh10 g) (100, 4)) 70 0 (-1)) 70 1 (-1)) 70 2 (-1)) 70 3 (-1)) 59 17 71
theorem mhn_11 {g : AH} (hg : g.2.2.2.2 = 0) : nC TU (mh11 g) = 71 := by
  show nC TU (wN TU (mh10 g) (100, 4)) = 71
  rw [nC_wN, mhn_10 hg]
theorem mhs_11 {g : AH} (hg : g.2.2.2.2 = 0) : rS TU (mh11 g) 59 = (12, 40) := by
  show rS TU (wN TU (mh10 g) (100, 4)) 59 = (12, 40)
  rw [rS_wN_ne (by rw [mhn_10 hg]; decide), mhs_10 hg]
set_option maxRecDepth 20000 in
theorem mha_11 {g z : AH} (H : AG g g z) : AG g (mh11 g) (mh11 z) := AG_wR (by decide) (AG_wI (by decide) rfl (AG_wI (by decide) rfl (AG_wI (by decide) rfl (AG_wI (by decide) rfl (AG_wN (mha_10 H))))))
def mh12 (g : AH) : AH := wR (wN TU (mh11 g) (100, 4)) 59 18 72
theorem mhn_12 {g : AH} (hg : g.2.2.2.2 = 0) : nC TU (mh12 g) = 72 := by
  show nC TU (wN TU (mh11 g) (100, 4)) = 72
  rw [nC_wN, mhn_11 hg]
theorem mhs_12 {g : AH} (hg : g.2.2.2.2 = 0) : rS TU (mh12 g) 59 = (12, 40) := by
  show rS TU (wN TU (mh11 g) (100, 4)) 59 = (12, 40)
  rw [rS_wN_ne (by rw [mhn_11 hg]; decide), mhs_11 hg]
set_option maxRecDepth 20000 in
theorem mha_12 {g z : AH} (H : AG g g z) : AG g (mh12 g) (mh12 z) := AG_wR (by decide) (AG_wN (mha_11 H))
def mh13 (g : AH) : AH := wR (wN TU (mh12 g) (100, 160)) 59 19 73
theorem mhn_13 {g : AH} (hg : g.2.2.2.2 = 0) : nC TU (mh13 g) = 73 := by
  show nC TU (wN TU (mh12 g) (100, 160)) = 73
  rw [nC_wN, mhn_12 hg]
theorem mhs_13 {g : AH} (hg : g.2.2.2.2 = 0) : rS TU (mh13 g) 59 = (12, 40) := by
  show rS TU (wN TU (mh12 g) (100, 160)) 59 = (12, 40)
  rw [rS_wN_ne (by rw [mhn_12 hg]; decide), mhs_12 hg]
set_option maxRecDepth 20000 in
theorem mha_13 {g z : AH} (H : AG g g z) : AG g (mh13 g) (mh13 z) := AG_wR (by decide) (AG_wN (mha_12 H))
def mh14 (g : AH) : AH := wR (wI (wI (wI (wI (wI (wI (wI (wI (wI (wI (wI (wI (wI (wI (wI (wI (wI (wI (wI (wI (wI (wI (wI (wI (wI (wI (wI (wI (wI (wI (wI (wI (wI (wI (wI (wI (wI (wI (wI (wI (wI (wI (wI (wI (wI (wI (wI (wI (wI (wI (wI (wI (wI (wI (wI (wI (wI (wI (wN TU (mh13 g) (100, 58)) 73 0 119) 73 1 101) 73 2 105) 73 3 103) 73 4 104) 73 5 115) 73 6 32) 73 7 116) 73 8 111) 73 9 108) 73 10 100) 73 11 32) 73 12 43) 73 13 32) 73 14 112) 73 15 101) 73 16 111) 73 17 112) 73 18 108) 73 19 101) 73 20 32) 73 21 42) 73 22 32) 73 23 53) 73 24 32) 73 25 59) 73 26 32) 73 27 104) 73 28 111) 73 29 108) 73 30 100) 73 31 115) 73 32 32) 73 33 50) 73 34 32) 73 35 59) 73 36 32) 73 37 104) 73 38 105) 73 39 116) 73 40 115) 73 41 32) 73 42 115) 73 43 112) 73 44 101) 73 45 101) 73 46 100) 73 47 32) 73 48 42) 73 49 32) 73 50 112) 73 51 101) 73 52 111) 73 53 112) 73 54 108) 73 55 101) 73 56 32) 73 57 59) 59 20 74
theorem mhn_14 {g : AH} (hg : g.2.2.2.2 = 0) : nC TU (mh14 g) = 74 := by
  show nC TU (wN TU (mh13 g) (100, 58)) = 74
  rw [nC_wN, mhn_13 hg]
theorem mhs_14 {g : AH} (hg : g.2.2.2.2 = 0) : rS TU (mh14 g) 59 = (12, 40) := by
  show rS TU (wN TU (mh13 g) (100, 58)) 59 = (12, 40)
  rw [rS_wN_ne (by rw [mhn_13 hg]; decide), mhs_13 hg]
set_option maxRecDepth 20000 in
theorem mha_14 {g z : AH} (H : AG g g z) : AG g (mh14 g) (mh14 z) := AG_wR (by decide) (AG_wI (by decide) rfl (AG_wI (by decide) rfl (AG_wI (by decide) rfl (AG_wI (by decide) rfl (AG_wI (by decide) rfl (AG_wI (by decide) rfl (AG_wI (by decide) rfl (AG_wI (by decide) rfl (AG_wI (by decide) rfl (AG_wI (by decide) rfl (AG_wI (by decide) rfl (AG_wI (by decide) rfl (AG_wI (by decide) rfl (AG_wI (by decide) rfl (AG_wI (by decide) rfl (AG_wI (by decide) rfl (AG_wI (by decide) rfl (AG_wI (by decide) rfl (AG_wI (by decide) rfl (AG_wI (by decide) rfl (AG_wI (by decide) rfl (AG_wI (by decide) rfl (AG_wI (by decide) rfl (AG_wI (by decide) rfl (AG_wI (by decide) rfl (AG_wI (by decide) rfl (AG_wI (by decide) rfl (AG_wI (by decide) rfl (AG_wI (by decide) rfl (AG_wI (by decide) rfl (AG_wI (by decide) rfl (AG_wI (by decide) rfl (AG_wI (by decide) rfl (AG_wI (by decide) rfl (AG_wI (by decide) rfl (AG_wI (by decide) rfl (AG_wI (by decide) rfl (AG_wI (by decide) rfl (AG_wI (by decide) rfl (AG_wI (by decide) rfl (AG_wI (by decide) rfl (AG_wI (by decide) rfl (AG_wI (by decide) rfl (AG_wI (by decide) rfl (AG_wI (by decide) rfl (AG_wI (by decide) rfl (AG_wI (by decide) rfl (AG_wI (by decide) rfl (AG_wI (by decide) rfl (AG_wI (by decide) rfl (AG_wI (by decide) rfl (AG_wI (by decide) rfl (AG_wI (by decide) rfl (AG_wI (by decide) rfl (AG_wI (by decide) rfl (AG_wI (by decide) rfl (AG_wI (by decide) rfl (AG_wI (by decide) rfl (AG_wN (mha_13 H))))))))))))))))))))))))))))))))))))))))))))))))))))))))))))
def mh15 (g : AH) : AH := wR (wI (wI (wI (wI (wI (wI (wI (wI (wI (wI (wI (wI (wI (wI (wI (wI (wI (wI (wI (wI (wI (wI (wI (wI (wI (wI (wI (wI (wI (wI (wI (wI (wI (wI (wI (wI (wI (wI (wI (wI (wI (wI (wI (wI (wI (wI (wI (wI (wI (wI (wI (wI (wI (wI (wI (wI (wI (wI (wI (wI (wI (wI (wI (wI (wI (wI (wI (wI (wI (wI (wI (wI (wI (wI (wI (wI (wI (wI (wI (wI (wI (wI (wI (wI (wI (wI (wI (wI (wI (wI (wI (wI (wI (wI (wI (wI (wN TU (mh14 g) (100, 96)) 74 0 119) 74 1 101) 74 2 105) 74 3 103) 74 4 104) 74 5 115) 74 6 32) 74 7 32) 74 8 104) 74 9 111) 74 10 108) 74 11 100) 74 12 115) 74 13 32) 74 14 32) 74 15 32) 74 16 104) 74 17 105) 74 18 116) 74 19 115) 74 20 32) 74 21 32) 74 22 32) 74 23 32) 74 24 116) 74 25 111) 74 26 108) 74 27 100) 74 28 32) 74 29 32) 74 30 32) 74 31 32) 74 32 112) 74 33 101) 74 34 111) 74 35 112) 74 36 108) 74 37 101) 74 38 32) 74 39 32) 74 40 109) 74 41 111) 74 42 114) 74 43 101) 74 44 32) 74 45 32) 74 46 32) 74 47 32) 74 48 104) 74 49 105) 74 50 103) 74 51 104) 74 52 32) 74 53 32) 74 54 32) 74 55 32) 74 56 109) 74 57 105) 74 58 110) 74 59 117) 74 60 116) 74 61 101) 74 62 32) 74 63 32) 74 64 115) 74 65 112) 74 66 101) 74 67 101) 74 68 100) 74 69 32) 74 70 32) 74 71 32) 74 72 111) 74 73 114) 74 74 32) 74 75 32) 74 76 32) 74 77 32) 74 78 32) 74 79 32) 74 80 97) 74 81 110) 74 82 100) 74 83 32) 74 84 32) 74 85 32) 74 86 32) 74 87 32) 74 88 110) 74 89 111) 74 90 116) 74 91 32) 74 92 32) 74 93 32) 74 94 32) 74 95 32) 59 25 75
theorem mhn_15 {g : AH} (hg : g.2.2.2.2 = 0) : nC TU (mh15 g) = 75 := by
  show nC TU (wN TU (mh14 g) (100, 96)) = 75
  rw [nC_wN, mhn_14 hg]
theorem mhs_15 {g : AH} (hg : g.2.2.2.2 = 0) : rS TU (mh15 g) 59 = (12, 40) := by
  show rS TU (wN TU (mh14 g) (100, 96)) 59 = (12, 40)
  rw [rS_wN_ne (by rw [mhn_14 hg]; decide), mhs_14 hg]
set_option maxRecDepth 20000 in
theorem mha_15 {g z : AH} (H : AG g g z) : AG g (mh15 g) (mh15 z) := AG_wR (by decide) (AG_wI (by decide) rfl (AG_wI (by decide) rfl (AG_wI (by decide) rfl (AG_wI (by decide) rfl (AG_wI (by decide) rfl (AG_wI (by decide) rfl (AG_wI (by decide) rfl (AG_wI (by decide) rfl (AG_wI (by decide) rfl (AG_wI (by decide) rfl (AG_wI (by decide) rfl (AG_wI (by decide) rfl (AG_wI (by decide) rfl (AG_wI (by decide) rfl (AG_wI (by decide) rfl (AG_wI (by decide) rfl (AG_wI (by decide) rfl (AG_wI (by decide) rfl (AG_wI (by decide) rfl (AG_wI (by decide) rfl (AG_wI (by decide) rfl (AG_wI (by decide) rfl (AG_wI (by decide) rfl (AG_wI (by decide) rfl (AG_wI (by decide) rfl (AG_wI (by decide) rfl (AG_wI (by decide) rfl (AG_wI (by decide) rfl (AG_wI (by decide) rfl (AG_wI (by decide) rfl (AG_wI (by decide) rfl (AG_wI (by decide) rfl (AG_wI (by decide) rfl (AG_wI (by decide) rfl (AG_wI (by decide) rfl (AG_wI (by decide) rfl (AG_wI (by decide) rfl (AG_wI (by decide) rfl (AG_wI (by decide) rfl (AG_wI (by decide) rfl (AG_wI (by decide) rfl (AG_wI (by decide) rfl (AG_wI (by decide) rfl (AG_wI (by decide) rfl (AG_wI (by decide) rfl (AG_wI (by decide) rfl (AG_wI (by decide) rfl (AG_wI (by decide) rfl (AG_wI (by decide) rfl (AG_wI (by decide) rfl (AG_wI (by decide) rfl (AG_wI (by decide) rfl (AG_wI (by decide) rfl (AG_wI (by decide) rfl (AG_wI (by decide) rfl (AG_wI (by decide) rfl (AG_wI (by decide) rfl (AG_wI (by decide) rfl (AG_wI (by decide) rfl (AG_wI (by decide) rfl (AG_wI (by decide) rfl (AG_wI (by decide) rfl (AG_wI (by decide) rfl (AG_wI (by decide) rfl (AG_wI (by decide) rfl (AG_wI (by decide) rfl (AG_wI (by decide) rfl (AG_wI (by decide) rfl (AG_wI (by decide) rfl (AG_wI (by decide) rfl (AG_wI (by decide) rfl (AG_wI (by decide) rfl (AG_wI (by decide) rfl (AG_wI (by decide) rfl (AG_wI (by decide) rfl (AG_wI (by decide) rfl (AG_wI (by decide) rfl (AG_wI (by decide) rfl (AG_wI (by decide) rfl (AG_wI (by decide) rfl (AG_wI (by decide) rfl (AG_wI (by decide) rfl (AG_wI (by decide) rfl (AG_wI (by decide) rfl (AG_wI (by decide) rfl (AG_wI (by decide) rfl (AG_wI (by decide) rfl (AG_wI (by decide) rfl (AG_wI (by decide) rfl (AG_wI (by decide) rfl (AG_wI (by decide) rfl (AG_wI (by decide) rfl (AG_wI (by decide) rfl (AG_wI (by decide) rfl (AG_wI (by decide) rfl (AG_wI (by decide) rfl (AG_wN (mha_14 H))))))))))))))))))))))))))))))))))))))))))))))))))))))))))))))))))))))))))))))))))))))))))))))))))
def mh16 (g : AH) : AH := wR (wN TU (mh15 g) (100, 200)) 59 26 76
theorem mhn_16 {g : AH} (hg : g.2.2.2.2 = 0) : nC TU (mh16 g) = 76 := by
  show nC TU (wN TU (mh15 g) (100, 200)) = 76
  rw [nC_wN, mhn_15 hg]
theorem mhs_16 {g : AH} (hg : g.2.2.2.2 = 0) : rS TU (mh16 g) 59 = (12, 40) := by
  show rS TU (wN TU (mh15 g) (100, 200)) 59 = (12, 40)
  rw [rS_wN_ne (by rw [mhn_15 hg]; decide), mhs_15 hg]
set_option maxRecDepth 20000 in
theorem mha_16 {g z : AH} (H : AG g g z) : AG g (mh16 g) (mh16 z) := AG_wR (by decide) (AG_wN (mha_15 H))
def mh17 (g : AH) : AH := wR (wN TU (mh16 g) (100, 200)) 59 30 77
theorem mhn_17 {g : AH} (hg : g.2.2.2.2 = 0) : nC TU (mh17 g) = 77 := by
  show nC TU (wN TU (mh16 g) (100, 200)) = 77
  rw [nC_wN, mhn_16 hg]
theorem mhs_17 {g : AH} (hg : g.2.2.2.2 = 0) : rS TU (mh17 g) 59 = (12, 40) := by
  show rS TU (wN TU (mh16 g) (100, 200)) 59 = (12, 40)
  rw [rS_wN_ne (by rw [mhn_16 hg]; decide), mhs_16 hg]
set_option maxRecDepth 20000 in
theorem mha_17 {g z : AH} (H : AG g g z) : AG g (mh17 g) (mh17 z) := AG_wR (by decide) (AG_wN (mha_16 H))
def mh18 (g : AH) : AH := wR (wN TU (mh17 g) (100, 6)) 59 31 78
theorem mhn_18 {g : AH} (hg : g.2.2.2.2 = 0) : nC TU (mh18 g) = 78 := by
  show nC TU (wN TU (mh17 g) (100, 6)) = 78
  rw [nC_wN, mhn_17 hg]
theorem mhs_18 {g : AH} (hg : g.2.2.2.2 = 0) : rS TU (mh18 g) 59 = (12, 40) := by
  show rS TU (wN TU (mh17 g) (100, 6)) 59 = (12, 40)
  rw [rS_wN_ne (by rw [mhn_17 hg]; decide), mhs_17 hg]
set_option maxRecDepth 20000 in
theorem mha_18 {g z : AH} (H : AG g g z) : AG g (mh18 g) (mh18 z) := AG_wR (by decide) (AG_wN (mha_17 H))
def mh19 (g : AH) : AH := wR (wN TU (mh18 g) (100, 7)) 59 32 79
theorem mhn_19 {g : AH} (hg : g.2.2.2.2 = 0) : nC TU (mh19 g) = 79 := by
  show nC TU (wN TU (mh18 g) (100, 7)) = 79
  rw [nC_wN, mhn_18 hg]
theorem mhs_19 {g : AH} (hg : g.2.2.2.2 = 0) : rS TU (mh19 g) 59 = (12, 40) := by
  show rS TU (wN TU (mh18 g) (100, 7)) 59 = (12, 40)
  rw [rS_wN_ne (by rw [mhn_18 hg]; decide), mhs_18 hg]
set_option maxRecDepth 20000 in
theorem mha_19 {g z : AH} (H : AG g g z) : AG g (mh19 g) (mh19 z) := AG_wR (by decide) (AG_wN (mha_18 H))
def mh20 (g : AH) : AH := wR (wN TU (mh19 g) (100, 7)) 59 33 80
theorem mhn_20 {g : AH} (hg : g.2.2.2.2 = 0) : nC TU (mh20 g) = 80 := by
  show nC TU (wN TU (mh19 g) (100, 7)) = 80
  rw [nC_wN, mhn_19 hg]
theorem mhs_20 {g : AH} (hg : g.2.2.2.2 = 0) : rS TU (mh20 g) 59 = (12, 40) := by
  show rS TU (wN TU (mh19 g) (100, 7)) 59 = (12, 40)
  rw [rS_wN_ne (by rw [mhn_19 hg]; decide), mhs_19 hg]
set_option maxRecDepth 20000 in
theorem mha_20 {g z : AH} (H : AG g g z) : AG g (mh20 g) (mh20 z) := AG_wR (by decide) (AG_wN (mha_19 H))
def mh21 (g : AH) : AH := wR (wN TU (mh20 g) (100, 7)) 59 34 81
theorem mhn_21 {g : AH} (hg : g.2.2.2.2 = 0) : nC TU (mh21 g) = 81 := by
  show nC TU (wN TU (mh20 g) (100, 7)) = 81
  rw [nC_wN, mhn_20 hg]
theorem mhs_21 {g : AH} (hg : g.2.2.2.2 = 0) : rS TU (mh21 g) 59 = (12, 40) := by
  show rS TU (wN TU (mh20 g) (100, 7)) 59 = (12, 40)
  rw [rS_wN_ne (by rw [mhn_20 hg]; decide), mhs_20 hg]
set_option maxRecDepth 20000 in
theorem mha_21 {g z : AH} (H : AG g g z) : AG g (mh21 g) (mh21 z) := AG_wR (by decide) (AG_wN (mha_20 H))
def mh22 (g : AH) : AH := wR (wN TU (mh21 g) (100, 7)) 59 35 82
theorem mhn_22 {g : AH} (hg : g.2.2.2.2 = 0) : nC TU (mh22 g) = 82 := by
  show nC TU (wN TU (mh21 g) (100, 7)) = 82
  rw [nC_wN, mhn_21 hg]
theorem mhs_22 {g : AH} (hg : g.2.2.2.2 = 0) : rS TU (mh22 g) 59 = (12, 40) := by
  show rS TU (wN TU (mh21 g) (100, 7)) 59 = (12, 40)
  rw [rS_wN_ne (by rw [mhn_21 hg]; decide), mhs_21 hg]
set_option maxRecDepth 20000 in
theorem mha_22 {g z : AH} (H : AG g g z) : AG g (mh22 g) (mh22 z) := AG_wR (by decide) (AG_wN (mha_21 H))
def mh23 (g : AH) : AH := wR (wN TU (mh22 g) (100, 7)) 59 36 83
theorem mhn_23 {g : AH} (hg : g.2.2.2.2 = 0) : nC TU (mh23 g) = 83 := by
  show nC TU (wN TU (mh22 g) (100, 7)) = 83
  rw [nC_wN, mhn_22 hg]
theorem mhs_23 {g : AH} (hg : g.2.2.2.2 = 0) : rS TU (mh23 g) 59 = (12, 40) := by
  show rS TU (wN TU (mh22 g) (100, 7)) 59 = (12, 40)
  rw [rS_wN_ne (by rw [mhn_22 hg]; decide), mhs_22 hg]
set_option maxRecDepth 20000 in
theorem mha_23 {g z : AH} (H : AG g g z) : AG g (mh23 g) (mh23 z) := AG_wR (by decide) (AG_wN (mha_22 H))
def mh24 (g : AH) : AH := wR (wN TU (mh23 g) (100, 7)) 59 39 84
theorem mhn_24 {g : AH} (hg : g.2.2.2.2 = 0) : nC TU (mh24 g) = 84 := by
  show nC TU (wN TU (mh23 g) (100, 7)) = 84
  rw [nC_wN, mhn_23 hg]
theorem mhs_24 {g : AH} (hg : g.2.2.2.2 = 0) : rS TU (mh24 g) 59 = (12, 40) := by
  show rS TU (wN TU (mh23 g) (100, 7)) 59 = (12, 40)
  rw [rS_wN_ne (by rw [mhn_23 hg]; decide), mhs_23 hg]
set_option maxRecDepth 20000 in
theorem mha_24 {g z : AH} (H : AG g g z) : AG g (mh24 g) (mh24 z) := AG_wR (by decide) (AG_wN (mha_23 H))
def mTs (g : AH) : Nat → AH
  | 0 => mh24 g
  | k + 1 => wI (mTs g k) 66 (nI k) ((mTs g k).1 73 (nI k))
def mTz (g : AH) : AH := wI (mTs g 58) 59 8 58
theorem mTs_n {g : AH} (hg : g.2.2.2.2 = 0) : ∀ k, nC TU (mTs g k) = 84 := by
  intro k
  induction k with
  | zero => exact mhn_24 hg
  | succ k ih => exact ih
theorem mTs_a {g z : AH} (H : AG g g z) : ∀ k, AG g (mTs g k) (mTs z k) := by
  intro k
  induction k with
  | zero => exact mha_24 H
  | succ k ih => exact AG_wI (by decide) (by rw [(ih.2.2 73 (by decide)).1]) ih
theorem mTz_a {g z : AH} (H : AG g g z) : AG g (mTz g) (mTz z) := AG_wI (by decide) rfl (mTs_a H 58)
/-- a closed heap of 59 cells -/
def zU : AH := (fun _ _ => 0, fun _ _ => 0, fun _ _ => 0, fun _ => (0, 0), 0)
set_option maxRecDepth 20000 in
theorem mo_init_0 {G : GG} {d : Nat} {Q : QQ} {g : AH} (hg : g.2.2.2.2 = 0) (K : Att G TU m_MO_init (d + 60) 1156 [some (.ref 59), none] [] (mh24 g) 0 0 Q) : Att G TU m_MO_init (d + 60) 0 [some (.ref 59), none] [] (mh0 g) 24 2217 Q := by
  refine A_aload_n d_MO_init_0 rfl ?_
  refine A_objI d_MO_init_1 (tG 835 (by decide +kernel) (by decide +kernel)) (tG 27 (by decide +kernel) (by decide +kernel)) (tG 28 (by decide +kernel) (by decide +kernel)) (by decide) ?_
  refine A_aload_n d_MO_init_4 rfl ?_
  refine A_bipush 7 (by decide) d_MO_init_5 ?_
  refine A_newa (bc := 23) (bs := 2210) (N := 7) d_MO_init_7 (by decide) (by decide) (tG 68 (by decide +kernel) (by decide +kernel)) (frN_TU _) ?_
  rw [mhn_0 hg]
  have e3_0 : nC TU (wN TU (mh0 g) (100, 7)) = 61 := by rw [nC_wN, mhn_0 hg]
  have e1_0 : vA TU (wN TU (mh0 g) (100, 7)) 60 := vA_U e3_0 (by decide)
  have e2_0 : rS TU (wN TU (mh0 g) (100, 7)) 60 = (100, 7) := by have z := rS_wN (T := TU) (h := mh0 g) (s := (100, 7)) (frN_TU _).1; rw [mhn_0 hg] at z; exact z
  have e4_0 : (rS TU (wN TU (mh0 g) (100, 7)) 59).1 = 12 := by rw [rS_wN_ne (by rw [mhn_0 hg]; decide), mhs_0 hg]
  refine A_putR (k := 1) (b := 60) d_MO_init_9 (fo_MO_7_12 rfl) (Or.inl ft_12_1) (fun _ => rfl) rfl (vA_U (n := 61) e3_0 (by decide)) e4_0 (TU_1 (by decide)) (fun _ => rfl) (fun _ => rfl) ?_
  change Att G TU m_MO_init (d + 60) 12 _ [] (mh1 g) _ _ _
  refine A_aload_n d_MO_init_12 rfl ?_
  refine A_bipush 7 (by decide) d_MO_init_13 ?_
  refine A_newa (bc := 22) (bs := 2203) (N := 7) d_MO_init_15 (by decide) (by decide) (tG 68 (by decide +kernel) (by decide +kernel)) (frN_TU _) ?_
  rw [mhn_1 hg]
  have e3_1 : nC TU (wN TU (mh1 g) (100, 7)) = 62 := by rw [nC_wN, mhn_1 hg]
  have e1_1 : vA TU (wN TU (mh1 g) (100, 7)) 61 := vA_U e3_1 (by decide)
  have e2_1 : rS TU (wN TU (mh1 g) (100, 7)) 61 = (100, 7) := by have z := rS_wN (T := TU) (h := mh1 g) (s := (100, 7)) (frN_TU _).1; rw [mhn_1 hg] at z; exact z
  have e4_1 : (rS TU (wN TU (mh1 g) (100, 7)) 59).1 = 12 := by rw [rS_wN_ne (by rw [mhn_1 hg]; decide), mhs_1 hg]
  refine A_putR (k := 2) (b := 61) d_MO_init_17 (fo_MO_13_12 rfl) (Or.inl ft_12_2) (fun _ => rfl) rfl (vA_U (n := 62) e3_1 (by decide)) e4_1 (TU_1 (by decide)) (fun _ => rfl) (fun _ => rfl) ?_
  change Att G TU m_MO_init (d + 60) 20 _ [] (mh2 g) _ _ _
  refine A_aload_n d_MO_init_20 rfl ?_
  refine A_bipush 7 (by decide) d_MO_init_21 ?_
  refine A_newa (bc := 21) (bs := 2196) (N := 7) d_MO_init_23 (by decide) (by decide) (tG 68 (by decide +kernel) (by decide +kernel)) (frN_TU _) ?_
  rw [mhn_2 hg]
  have e3_2 : nC TU (wN TU (mh2 g) (100, 7)) = 63 := by rw [nC_wN, mhn_2 hg]
  have e1_2 : vA TU (wN TU (mh2 g) (100, 7)) 62 := vA_U e3_2 (by decide)
  have e2_2 : rS TU (wN TU (mh2 g) (100, 7)) 62 = (100, 7) := by have z := rS_wN (T := TU) (h := mh2 g) (s := (100, 7)) (frN_TU _).1; rw [mhn_2 hg] at z; exact z
  have e4_2 : (rS TU (wN TU (mh2 g) (100, 7)) 59).1 = 12 := by rw [rS_wN_ne (by rw [mhn_2 hg]; decide), mhs_2 hg]
  refine A_putR (k := 3) (b := 62) d_MO_init_25 (fo_MO_16_12 rfl) (Or.inl ft_12_3) (fun _ => rfl) rfl (vA_U (n := 63) e3_2 (by decide)) e4_2 (TU_1 (by decide)) (fun _ => rfl) (fun _ => rfl) ?_
  change Att G TU m_MO_init (d + 60) 28 _ [] (mh3 g) _ _ _
  refine A_aload_n d_MO_init_28 rfl ?_
  refine A_bipush 7 (by decide) d_MO_init_29 ?_
  refine A_newa (bc := 20) (bs := 2189) (N := 7) d_MO_init_31 (by decide) (by decide) (tG 68 (by decide +kernel) (by decide +kernel)) (frN_TU _) ?_
  rw [mhn_3 hg]
  have e3_3 : nC TU (wN TU (mh3 g) (100, 7)) = 64 := by rw [nC_wN, mhn_3 hg]
  have e1_3 : vA TU (wN TU (mh3 g) (100, 7)) 63 := vA_U e3_3 (by decide)
  have e2_3 : rS TU (wN TU (mh3 g) (100, 7)) 63 = (100, 7) := by have z := rS_wN (T := TU) (h := mh3 g) (s := (100, 7)) (frN_TU _).1; rw [mhn_3 hg] at z; exact z
  have e4_3 : (rS TU (wN TU (mh3 g) (100, 7)) 59).1 = 12 := by rw [rS_wN_ne (by rw [mhn_3 hg]; decide), mhs_3 hg]
  refine A_putR (k := 4) (b := 63) d_MO_init_33 (fo_MO_19_12 rfl) (Or.inl ft_12_4) (fun _ => rfl) rfl (vA_U (n := 64) e3_3 (by decide)) e4_3 (TU_1 (by decide)) (fun _ => rfl) (fun _ => rfl) ?_
  change Att G TU m_MO_init (d + 60) 36 _ [] (mh4 g) _ _ _
  refine A_aload_n d_MO_init_36 rfl ?_
  refine A_bipush 7 (by decide) d_MO_init_37 ?_
  refine A_newa (bc := 19) (bs := 2182) (N := 7) d_MO_init_39 (by decide) (by decide) (tG 68 (by decide +kernel) (by decide +kernel)) (frN_TU _) ?_
  rw [mhn_4 hg]
  have e3_4 : nC TU (wN TU (mh4 g) (100, 7)) = 65 := by rw [nC_wN, mhn_4 hg]
  have e1_4 : vA TU (wN TU (mh4 g) (100, 7)) 64 := vA_U e3_4 (by decide)
  have e2_4 : rS TU (wN TU (mh4 g) (100, 7)) 64 = (100, 7) := by have z := rS_wN (T := TU) (h := mh4 g) (s := (100, 7)) (frN_TU _).1; rw [mhn_4 hg] at z; exact z
  have e4_4 : (rS TU (wN TU (mh4 g) (100, 7)) 59).1 = 12 := by rw [rS_wN_ne (by rw [mhn_4 hg]; decide), mhs_4 hg]
  refine A_putR (k := 5) (b := 64) d_MO_init_41 (fo_MO_22_12 rfl) (Or.inl ft_12_5) (fun _ => rfl) rfl (vA_U (n := 65) e3_4 (by decide)) e4_4 (TU_1 (by decide)) (fun _ => rfl) (fun _ => rfl) ?_
  change Att G TU m_MO_init (d + 60) 44 _ [] (mh5 g) _ _ _
  refine A_aload_n d_MO_init_44 rfl ?_
  refine A_bipush 7 (by decide) d_MO_init_45 ?_
  refine A_newa (bc := 18) (bs := 2175) (N := 7) d_MO_init_47 (by decide) (by decide) (tG 68 (by decide +kernel) (by decide +kernel)) (frN_TU _) ?_
  rw [mhn_5 hg]
  have e3_5 : nC TU (wN TU (mh5 g) (100, 7)) = 66 := by rw [nC_wN, mhn_5 hg]
  have e1_5 : vA TU (wN TU (mh5 g) (100, 7)) 65 := vA_U e3_5 (by decide)
  have e2_5 : rS TU (wN TU (mh5 g) (100, 7)) 65 = (100, 7) := by have z := rS_wN (T := TU) (h := mh5 g) (s := (100, 7)) (frN_TU _).1; rw [mhn_5 hg] at z; exact z
  have e4_5 : (rS TU (wN TU (mh5 g) (100, 7)) 59).1 = 12 := by rw [rS_wN_ne (by rw [mhn_5 hg]; decide), mhs_5 hg]
  refine A_dup rfl d_MO_init_49 ?_
  refine A_iconst 0 (by decide) d_MO_init_50 ?_
  refine A_iconst (-1) (by decide) d_MO_init_51 ?_
  refine A_iast d_MO_init_52 (n := 7) e1_5 e2_5 (by decide) ?_
  refine A_dup rfl d_MO_init_53 ?_
  refine A_iconst 1 (by decide) d_MO_init_54 ?_
  refine A_iconst (-1) (by decide) d_MO_init_55 ?_
  refine A_iast d_MO_init_56 (n := 7) e1_5 e2_5 (by decide) ?_
  refine A_dup rfl d_MO_init_57 ?_
  refine A_iconst 2 (by decide) d_MO_init_58 ?_
  refine A_iconst (-1) (by decide) d_MO_init_59 ?_
  refine A_iast d_MO_init_60 (n := 7) e1_5 e2_5 (by decide) ?_
  refine A_dup rfl d_MO_init_61 ?_
  refine A_iconst 3 (by decide) d_MO_init_62 ?_
  refine A_iconst (-1) (by decide) d_MO_init_63 ?_
  refine A_iast d_MO_init_64 (n := 7) e1_5 e2_5 (by decide) ?_
  refine A_dup rfl d_MO_init_65 ?_
  refine A_iconst 4 (by decide) d_MO_init_66 ?_
  refine A_iconst (-1) (by decide) d_MO_init_67 ?_
  refine A_iast d_MO_init_68 (n := 7) e1_5 e2_5 (by decide) ?_
  refine A_dup rfl d_MO_init_69 ?_
  refine A_iconst 5 (by decide) d_MO_init_70 ?_
  refine A_iconst (-1) (by decide) d_MO_init_71 ?_
  refine A_iast d_MO_init_72 (n := 7) e1_5 e2_5 (by decide) ?_
  refine A_dup rfl d_MO_init_73 ?_
  refine A_bipush 6 (by decide) d_MO_init_74 ?_
  refine A_iconst (-1) (by decide) d_MO_init_76 ?_
  refine A_iast d_MO_init_77 (n := 7) e1_5 e2_5 (by decide) ?_
  refine A_putR (k := 6) (b := 65) d_MO_init_78 (fo_MO_25_12 rfl) (Or.inl ft_12_6) (fun _ => rfl) rfl (vA_U (n := 66) e3_5 (by decide)) e4_5 (TU_1 (by decide)) (fun _ => rfl) (fun _ => rfl) ?_
  change Att G TU m_MO_init (d + 60) 81 _ [] (mh6 g) _ _ _
  refine A_aload_n d_MO_init_81 rfl ?_
  refine A_sipush 160 (by decide) d_MO_init_82 ?_
  refine A_newa (bc := 17) (bs := 2015) (N := 160) d_MO_init_85 (by decide) (by decide) (tG 68 (by decide +kernel) (by decide +kernel)) (frN_TU _) ?_
  rw [mhn_6 hg]
  have e3_6 : nC TU (wN TU (mh6 g) (100, 160)) = 67 := by rw [nC_wN, mhn_6 hg]
  have e1_6 : vA TU (wN TU (mh6 g) (100, 160)) 66 := vA_U e3_6 (by decide)
  have e2_6 : rS TU (wN TU (mh6 g) (100, 160)) 66 = (100, 160) := by have z := rS_wN (T := TU) (h := mh6 g) (s := (100, 160)) (frN_TU _).1; rw [mhn_6 hg] at z; exact z
  have e4_6 : (rS TU (wN TU (mh6 g) (100, 160)) 59).1 = 12 := by rw [rS_wN_ne (by rw [mhn_6 hg]; decide), mhs_6 hg]
  refine A_putR (k := 7) (b := 66) d_MO_init_87 (fo_MO_28_12 rfl) (Or.inl ft_12_7) (fun _ => rfl) rfl (vA_U (n := 67) e3_6 (by decide)) e4_6 (TU_1 (by decide)) (fun _ => rfl) (fun _ => rfl) ?_
  change Att G TU m_MO_init (d + 60) 90 _ [] (mh7 g) _ _ _
  refine A_aload_n d_MO_init_90 rfl ?_
  refine A_sipush 1200 (by decide) d_MO_init_91 ?_
  refine A_newa (bc := 16) (bs := 815) (N := 1200) d_MO_init_94 (by decide) (by decide) (tG 68 (by decide +kernel) (by decide +kernel)) (frN_TU _) ?_
  rw [mhn_7 hg]
  have e3_7 : nC TU (wN TU (mh7 g) (100, 1200)) = 68 := by rw [nC_wN, mhn_7 hg]
  have e1_7 : vA TU (wN TU (mh7 g) (100, 1200)) 67 := vA_U e3_7 (by decide)
  have e2_7 : rS TU (wN TU (mh7 g) (100, 1200)) 67 = (100, 1200) := by have z := rS_wN (T := TU) (h := mh7 g) (s := (100, 1200)) (frN_TU _).1; rw [mhn_7 hg] at z; exact z
  have e4_7 : (rS TU (wN TU (mh7 g) (100, 1200)) 59).1 = 12 := by rw [rS_wN_ne (by rw [mhn_7 hg]; decide), mhs_7 hg]
  refine A_putR (k := 9) (b := 67) d_MO_init_96 (fo_MO_31_12 rfl) (Or.inl ft_12_9) (fun _ => rfl) rfl (vA_U (n := 68) e3_7 (by decide)) e4_7 (TU_1 (by decide)) (fun _ => rfl) (fun _ => rfl) ?_
  change Att G TU m_MO_init (d + 60) 99 _ [] (mh8 g) _ _ _
  refine A_aload_n d_MO_init_99 rfl ?_
  refine A_bipush 24 (by decide) d_MO_init_100 ?_
  refine A_newa (bc := 15) (bs := 791) (N := 24) d_MO_init_102 (by decide) (by decide) (tG 68 (by decide +kernel) (by decide +kernel)) (frN_TU _) ?_
  rw [mhn_8 hg]
  have e3_8 : nC TU (wN TU (mh8 g) (100, 24)) = 69 := by rw [nC_wN, mhn_8 hg]
  have e1_8 : vA TU (wN TU (mh8 g) (100, 24)) 68 := vA_U e3_8 (by decide)
  have e2_8 : rS TU (wN TU (mh8 g) (100, 24)) 68 = (100, 24) := by have z := rS_wN (T := TU) (h := mh8 g) (s := (100, 24)) (frN_TU _).1; rw [mhn_8 hg] at z; exact z
  have e4_8 : (rS TU (wN TU (mh8 g) (100, 24)) 59).1 = 12 := by rw [rS_wN_ne (by rw [mhn_8 hg]; decide), mhs_8 hg]
  refine A_putR (k := 10) (b := 68) d_MO_init_104 (fo_MO_34_12 rfl) (Or.inl ft_12_10) (fun _ => rfl) rfl (vA_U (n := 69) e3_8 (by decide)) e4_8 (TU_1 (by decide)) (fun _ => rfl) (fun _ => rfl) ?_
  change Att G TU m_MO_init (d + 60) 107 _ [] (mh9 g) _ _ _
  refine A_aload_n d_MO_init_107 rfl ?_
  refine A_bipush 21 (by decide) d_MO_init_108 ?_
  refine A_newa (bc := 14) (bs := 770) (N := 21) d_MO_init_110 (by decide) (by decide) (tG 68 (by decide +kernel) (by decide +kernel)) (frN_TU _) ?_
  rw [mhn_9 hg]
  have e3_9 : nC TU (wN TU (mh9 g) (100, 21)) = 70 := by rw [nC_wN, mhn_9 hg]
  have e1_9 : vA TU (wN TU (mh9 g) (100, 21)) 69 := vA_U e3_9 (by decide)
  have e2_9 : rS TU (wN TU (mh9 g) (100, 21)) 69 = (100, 21) := by have z := rS_wN (T := TU) (h := mh9 g) (s := (100, 21)) (frN_TU _).1; rw [mhn_9 hg] at z; exact z
  have e4_9 : (rS TU (wN TU (mh9 g) (100, 21)) 59).1 = 12 := by rw [rS_wN_ne (by rw [mhn_9 hg]; decide), mhs_9 hg]
  refine A_putR (k := 16) (b := 69) d_MO_init_112 (fo_MO_37_12 rfl) (Or.inl ft_12_16) (fun _ => rfl) rfl (vA_U (n := 70) e3_9 (by decide)) e4_9 (TU_1 (by decide)) (fun _ => rfl) (fun _ => rfl) ?_
  change Att G TU m_MO_init (d + 60) 115 _ [] (mh10 g) _ _ _
  refine A_aload_n d_MO_init_115 rfl ?_
  refine A_iconst 4 (by decide) d_MO_init_116 ?_
  refine A_newa (bc := 13) (bs := 766) (N := 4) d_MO_init_117 (by decide) (by decide) (tG 68 (by decide +kernel) (by decide +kernel)) (frN_TU _) ?_
  rw [mhn_10 hg]
  have e3_10 : nC TU (wN TU (mh10 g) (100, 4)) = 71 := by rw [nC_wN, mhn_10 hg]
  have e1_10 : vA TU (wN TU (mh10 g) (100, 4)) 70 := vA_U e3_10 (by decide)
  have e2_10 : rS TU (wN TU (mh10 g) (100, 4)) 70 = (100, 4) := by have z := rS_wN (T := TU) (h := mh10 g) (s := (100, 4)) (frN_TU _).1; rw [mhn_10 hg] at z; exact z
  have e4_10 : (rS TU (wN TU (mh10 g) (100, 4)) 59).1 = 12 := by rw [rS_wN_ne (by rw [mhn_10 hg]; decide), mhs_10 hg]
  refine A_dup rfl d_MO_init_119 ?_
  refine A_iconst 0 (by decide) d_MO_init_120 ?_
  refine A_iconst (-1) (by decide) d_MO_init_121 ?_
  refine A_iast d_MO_init_122 (n := 4) e1_10 e2_10 (by decide) ?_
  refine A_dup rfl d_MO_init_123 ?_
  refine A_iconst 1 (by decide) d_MO_init_124 ?_
  refine A_iconst (-1) (by decide) d_MO_init_125 ?_
  refine A_iast d_MO_init_126 (n := 4) e1_10 e2_10 (by decide) ?_
  refine A_dup rfl d_MO_init_127 ?_
  refine A_iconst 2 (by decide) d_MO_init_128 ?_
  refine A_iconst (-1) (by decide) d_MO_init_129 ?_
  refine A_iast d_MO_init_130 (n := 4) e1_10 e2_10 (by decide) ?_
  refine A_dup rfl d_MO_init_131 ?_
  refine A_iconst 3 (by decide) d_MO_init_132 ?_
  refine A_iconst (-1) (by decide) d_MO_init_133 ?_
  refine A_iast d_MO_init_134 (n := 4) e1_10 e2_10 (by decide) ?_
  refine A_putR (k := 17) (b := 70) d_MO_init_135 (fo_MO_40_12 rfl) (Or.inl ft_12_17) (fun _ => rfl) rfl (vA_U (n := 71) e3_10 (by decide)) e4_10 (TU_1 (by decide)) (fun _ => rfl) (fun _ => rfl) ?_
  change Att G TU m_MO_init (d + 60) 138 _ [] (mh11 g) _ _ _
  refine A_aload_n d_MO_init_138 rfl ?_
  refine A_iconst 4 (by decide) d_MO_init_139 ?_
  refine A_newa (bc := 12) (bs := 762) (N := 4) d_MO_init_140 (by decide) (by decide) (tG 68 (by decide +kernel) (by decide +kernel)) (frN_TU _) ?_
  rw [mhn_11 hg]
  have e3_11 : nC TU (wN TU (mh11 g) (100, 4)) = 72 := by rw [nC_wN, mhn_11 hg]
  have e1_11 : vA TU (wN TU (mh11 g) (100, 4)) 71 := vA_U e3_11 (by decide)
  have e2_11 : rS TU (wN TU (mh11 g) (100, 4)) 71 = (100, 4) := by have z := rS_wN (T := TU) (h := mh11 g) (s := (100, 4)) (frN_TU _).1; rw [mhn_11 hg] at z; exact z
  have e4_11 : (rS TU (wN TU (mh11 g) (100, 4)) 59).1 = 12 := by rw [rS_wN_ne (by rw [mhn_11 hg]; decide), mhs_11 hg]
  refine A_putR (k := 18) (b := 71) d_MO_init_142 (fo_MO_43_12 rfl) (Or.inl ft_12_18) (fun _ => rfl) rfl (vA_U (n := 72) e3_11 (by decide)) e4_11 (TU_1 (by decide)) (fun _ => rfl) (fun _ => rfl) ?_
  change Att G TU m_MO_init (d + 60) 145 _ [] (mh12 g) _ _ _
  refine A_aload_n d_MO_init_145 rfl ?_
  refine A_sipush 160 (by decide) d_MO_init_146 ?_
  refine A_newa (bc := 11) (bs := 602) (N := 160) d_MO_init_149 (by decide) (by decide) (tG 68 (by decide +kernel) (by decide +kernel)) (frN_TU _) ?_
  rw [mhn_12 hg]
  have e3_12 : nC TU (wN TU (mh12 g) (100, 160)) = 73 := by rw [nC_wN, mhn_12 hg]
  have e1_12 : vA TU (wN TU (mh12 g) (100, 160)) 72 := vA_U e3_12 (by decide)
  have e2_12 : rS TU (wN TU (mh12 g) (100, 160)) 72 = (100, 160) := by have z := rS_wN (T := TU) (h := mh12 g) (s := (100, 160)) (frN_TU _).1; rw [mhn_12 hg] at z; exact z
  have e4_12 : (rS TU (wN TU (mh12 g) (100, 160)) 59).1 = 12 := by rw [rS_wN_ne (by rw [mhn_12 hg]; decide), mhs_12 hg]
  refine A_putR (k := 19) (b := 72) d_MO_init_151 (fo_MO_46_12 rfl) (Or.inl ft_12_19) (fun _ => rfl) rfl (vA_U (n := 73) e3_12 (by decide)) e4_12 (TU_1 (by decide)) (fun _ => rfl) (fun _ => rfl) ?_
  change Att G TU m_MO_init (d + 60) 154 _ [] (mh13 g) _ _ _
  refine A_aload_n d_MO_init_154 rfl ?_
  refine A_bipush 58 (by decide) d_MO_init_155 ?_
  refine A_newa (bc := 10) (bs := 544) (N := 58) d_MO_init_157 (by decide) (by decide) (tG 68 (by decide +kernel) (by decide +kernel)) (frN_TU _) ?_
  rw [mhn_13 hg]
  have e3_13 : nC TU (wN TU (mh13 g) (100, 58)) = 74 := by rw [nC_wN, mhn_13 hg]
  have e1_13 : vA TU (wN TU (mh13 g) (100, 58)) 73 := vA_U e3_13 (by decide)
  have e2_13 : rS TU (wN TU (mh13 g) (100, 58)) 73 = (100, 58) := by have z := rS_wN (T := TU) (h := mh13 g) (s := (100, 58)) (frN_TU _).1; rw [mhn_13 hg] at z; exact z
  have e4_13 : (rS TU (wN TU (mh13 g) (100, 58)) 59).1 = 12 := by rw [rS_wN_ne (by rw [mhn_13 hg]; decide), mhs_13 hg]
  refine A_dup rfl d_MO_init_159 ?_
  refine A_iconst 0 (by decide) d_MO_init_160 ?_
  refine A_bipush 119 (by decide) d_MO_init_161 ?_
  refine A_iast d_MO_init_163 (n := 58) e1_13 e2_13 (by decide) ?_
  refine A_dup rfl d_MO_init_164 ?_
  refine A_iconst 1 (by decide) d_MO_init_165 ?_
  refine A_bipush 101 (by decide) d_MO_init_166 ?_
  refine A_iast d_MO_init_168 (n := 58) e1_13 e2_13 (by decide) ?_
  refine A_dup rfl d_MO_init_169 ?_
  refine A_iconst 2 (by decide) d_MO_init_170 ?_
  refine A_bipush 105 (by decide) d_MO_init_171 ?_
  refine A_iast d_MO_init_173 (n := 58) e1_13 e2_13 (by decide) ?_
  refine A_dup rfl d_MO_init_174 ?_
  refine A_iconst 3 (by decide) d_MO_init_175 ?_
  refine A_bipush 103 (by decide) d_MO_init_176 ?_
  refine A_iast d_MO_init_178 (n := 58) e1_13 e2_13 (by decide) ?_
  refine A_dup rfl d_MO_init_179 ?_
  refine A_iconst 4 (by decide) d_MO_init_180 ?_
  refine A_bipush 104 (by decide) d_MO_init_181 ?_
  refine A_iast d_MO_init_183 (n := 58) e1_13 e2_13 (by decide) ?_
  refine A_dup rfl d_MO_init_184 ?_
  refine A_iconst 5 (by decide) d_MO_init_185 ?_
  refine A_bipush 115 (by decide) d_MO_init_186 ?_
  refine A_iast d_MO_init_188 (n := 58) e1_13 e2_13 (by decide) ?_
  refine A_dup rfl d_MO_init_189 ?_
  refine A_bipush 6 (by decide) d_MO_init_190 ?_
  refine A_bipush 32 (by decide) d_MO_init_192 ?_
  refine A_iast d_MO_init_194 (n := 58) e1_13 e2_13 (by decide) ?_
  refine A_dup rfl d_MO_init_195 ?_
  refine A_bipush 7 (by decide) d_MO_init_196 ?_
  refine A_bipush 116 (by decide) d_MO_init_198 ?_
  refine A_iast d_MO_init_200 (n := 58) e1_13 e2_13 (by decide) ?_
  refine A_dup rfl d_MO_init_201 ?_
  refine A_bipush 8 (by decide) d_MO_init_202 ?_
  refine A_bipush 111 (by decide) d_MO_init_204 ?_
  refine A_iast d_MO_init_206 (n := 58) e1_13 e2_13 (by decide) ?_
  refine A_dup rfl d_MO_init_207 ?_
  refine A_bipush 9 (by decide) d_MO_init_208 ?_
  refine A_bipush 108 (by decide) d_MO_init_210 ?_
  refine A_iast d_MO_init_212 (n := 58) e1_13 e2_13 (by decide) ?_
  refine A_dup rfl d_MO_init_213 ?_
  refine A_bipush 10 (by decide) d_MO_init_214 ?_
  refine A_bipush 100 (by decide) d_MO_init_216 ?_
  refine A_iast d_MO_init_218 (n := 58) e1_13 e2_13 (by decide) ?_
  refine A_dup rfl d_MO_init_219 ?_
  refine A_bipush 11 (by decide) d_MO_init_220 ?_
  refine A_bipush 32 (by decide) d_MO_init_222 ?_
  refine A_iast d_MO_init_224 (n := 58) e1_13 e2_13 (by decide) ?_
  refine A_dup rfl d_MO_init_225 ?_
  refine A_bipush 12 (by decide) d_MO_init_226 ?_
  refine A_bipush 43 (by decide) d_MO_init_228 ?_
  refine A_iast d_MO_init_230 (n := 58) e1_13 e2_13 (by decide) ?_
  refine A_dup rfl d_MO_init_231 ?_
  refine A_bipush 13 (by decide) d_MO_init_232 ?_
  refine A_bipush 32 (by decide) d_MO_init_234 ?_
  refine A_iast d_MO_init_236 (n := 58) e1_13 e2_13 (by decide) ?_
  refine A_dup rfl d_MO_init_237 ?_
  refine A_bipush 14 (by decide) d_MO_init_238 ?_
  refine A_bipush 112 (by decide) d_MO_init_240 ?_
  refine A_iast d_MO_init_242 (n := 58) e1_13 e2_13 (by decide) ?_
  refine A_dup rfl d_MO_init_243 ?_
  refine A_bipush 15 (by decide) d_MO_init_244 ?_
  refine A_bipush 101 (by decide) d_MO_init_246 ?_
  refine A_iast d_MO_init_248 (n := 58) e1_13 e2_13 (by decide) ?_
  refine A_dup rfl d_MO_init_249 ?_
  refine A_bipush 16 (by decide) d_MO_init_250 ?_
  refine A_bipush 111 (by decide) d_MO_init_252 ?_
  refine A_iast d_MO_init_254 (n := 58) e1_13 e2_13 (by decide) ?_
  refine A_dup rfl d_MO_init_255 ?_
  refine A_bipush 17 (by decide) d_MO_init_256 ?_
  refine A_bipush 112 (by decide) d_MO_init_258 ?_
  refine A_iast d_MO_init_260 (n := 58) e1_13 e2_13 (by decide) ?_
  refine A_dup rfl d_MO_init_261 ?_
  refine A_bipush 18 (by decide) d_MO_init_262 ?_
  refine A_bipush 108 (by decide) d_MO_init_264 ?_
  refine A_iast d_MO_init_266 (n := 58) e1_13 e2_13 (by decide) ?_
  refine A_dup rfl d_MO_init_267 ?_
  refine A_bipush 19 (by decide) d_MO_init_268 ?_
  refine A_bipush 101 (by decide) d_MO_init_270 ?_
  refine A_iast d_MO_init_272 (n := 58) e1_13 e2_13 (by decide) ?_
  refine A_dup rfl d_MO_init_273 ?_
  refine A_bipush 20 (by decide) d_MO_init_274 ?_
  refine A_bipush 32 (by decide) d_MO_init_276 ?_
  refine A_iast d_MO_init_278 (n := 58) e1_13 e2_13 (by decide) ?_
  refine A_dup rfl d_MO_init_279 ?_
  refine A_bipush 21 (by decide) d_MO_init_280 ?_
  refine A_bipush 42 (by decide) d_MO_init_282 ?_
  refine A_iast d_MO_init_284 (n := 58) e1_13 e2_13 (by decide) ?_
  refine A_dup rfl d_MO_init_285 ?_
  refine A_bipush 22 (by decide) d_MO_init_286 ?_
  refine A_bipush 32 (by decide) d_MO_init_288 ?_
  refine A_iast d_MO_init_290 (n := 58) e1_13 e2_13 (by decide) ?_
  refine A_dup rfl d_MO_init_291 ?_
  refine A_bipush 23 (by decide) d_MO_init_292 ?_
  refine A_bipush 53 (by decide) d_MO_init_294 ?_
  refine A_iast d_MO_init_296 (n := 58) e1_13 e2_13 (by decide) ?_
  refine A_dup rfl d_MO_init_297 ?_
  refine A_bipush 24 (by decide) d_MO_init_298 ?_
  refine A_bipush 32 (by decide) d_MO_init_300 ?_
  refine A_iast d_MO_init_302 (n := 58) e1_13 e2_13 (by decide) ?_
  refine A_dup rfl d_MO_init_303 ?_
  refine A_bipush 25 (by decide) d_MO_init_304 ?_
  refine A_bipush 59 (by decide) d_MO_init_306 ?_
  refine A_iast d_MO_init_308 (n := 58) e1_13 e2_13 (by decide) ?_
  refine A_dup rfl d_MO_init_309 ?_
  refine A_bipush 26 (by decide) d_MO_init_310 ?_
  refine A_bipush 32 (by decide) d_MO_init_312 ?_
  refine A_iast d_MO_init_314 (n := 58) e1_13 e2_13 (by decide) ?_
  refine A_dup rfl d_MO_init_315 ?_
  refine A_bipush 27 (by decide) d_MO_init_316 ?_
  refine A_bipush 104 (by decide) d_MO_init_318 ?_
  refine A_iast d_MO_init_320 (n := 58) e1_13 e2_13 (by decide) ?_
  refine A_dup rfl d_MO_init_321 ?_
  refine A_bipush 28 (by decide) d_MO_init_322 ?_
  refine A_bipush 111 (by decide) d_MO_init_324 ?_
  refine A_iast d_MO_init_326 (n := 58) e1_13 e2_13 (by decide) ?_
  refine A_dup rfl d_MO_init_327 ?_
  refine A_bipush 29 (by decide) d_MO_init_328 ?_
  refine A_bipush 108 (by decide) d_MO_init_330 ?_
  refine A_iast d_MO_init_332 (n := 58) e1_13 e2_13 (by decide) ?_
  refine A_dup rfl d_MO_init_333 ?_
  refine A_bipush 30 (by decide) d_MO_init_334 ?_
  refine A_bipush 100 (by decide) d_MO_init_336 ?_
  refine A_iast d_MO_init_338 (n := 58) e1_13 e2_13 (by decide) ?_
  refine A_dup rfl d_MO_init_339 ?_
  refine A_bipush 31 (by decide) d_MO_init_340 ?_
  refine A_bipush 115 (by decide) d_MO_init_342 ?_
  refine A_iast d_MO_init_344 (n := 58) e1_13 e2_13 (by decide) ?_
  refine A_dup rfl d_MO_init_345 ?_
  refine A_bipush 32 (by decide) d_MO_init_346 ?_
  refine A_bipush 32 (by decide) d_MO_init_348 ?_
  refine A_iast d_MO_init_350 (n := 58) e1_13 e2_13 (by decide) ?_
  refine A_dup rfl d_MO_init_351 ?_
  refine A_bipush 33 (by decide) d_MO_init_352 ?_
  refine A_bipush 50 (by decide) d_MO_init_354 ?_
  refine A_iast d_MO_init_356 (n := 58) e1_13 e2_13 (by decide) ?_
  refine A_dup rfl d_MO_init_357 ?_
  refine A_bipush 34 (by decide) d_MO_init_358 ?_
  refine A_bipush 32 (by decide) d_MO_init_360 ?_
  refine A_iast d_MO_init_362 (n := 58) e1_13 e2_13 (by decide) ?_
  refine A_dup rfl d_MO_init_363 ?_
  refine A_bipush 35 (by decide) d_MO_init_364 ?_
  refine A_bipush 59 (by decide) d_MO_init_366 ?_
  refine A_iast d_MO_init_368 (n := 58) e1_13 e2_13 (by decide) ?_
  refine A_dup rfl d_MO_init_369 ?_
  refine A_bipush 36 (by decide) d_MO_init_370 ?_
  refine A_bipush 32 (by decide) d_MO_init_372 ?_
  refine A_iast d_MO_init_374 (n := 58) e1_13 e2_13 (by decide) ?_
  refine A_dup rfl d_MO_init_375 ?_
  refine A_bipush 37 (by decide) d_MO_init_376 ?_
  refine A_bipush 104 (by decide) d_MO_init_378 ?_
  refine A_iast d_MO_init_380 (n := 58) e1_13 e2_13 (by decide) ?_
  refine A_dup rfl d_MO_init_381 ?_
  refine A_bipush 38 (by decide) d_MO_init_382 ?_
  refine A_bipush 105 (by decide) d_MO_init_384 ?_
  refine A_iast d_MO_init_386 (n := 58) e1_13 e2_13 (by decide) ?_
  refine A_dup rfl d_MO_init_387 ?_
  refine A_bipush 39 (by decide) d_MO_init_388 ?_
  refine A_bipush 116 (by decide) d_MO_init_390 ?_
  refine A_iast d_MO_init_392 (n := 58) e1_13 e2_13 (by decide) ?_
  refine A_dup rfl d_MO_init_393 ?_
  refine A_bipush 40 (by decide) d_MO_init_394 ?_
  refine A_bipush 115 (by decide) d_MO_init_396 ?_
  refine A_iast d_MO_init_398 (n := 58) e1_13 e2_13 (by decide) ?_
  refine A_dup rfl d_MO_init_399 ?_
  refine A_bipush 41 (by decide) d_MO_init_400 ?_
  refine A_bipush 32 (by decide) d_MO_init_402 ?_
  refine A_iast d_MO_init_404 (n := 58) e1_13 e2_13 (by decide) ?_
  refine A_dup rfl d_MO_init_405 ?_
  refine A_bipush 42 (by decide) d_MO_init_406 ?_
  refine A_bipush 115 (by decide) d_MO_init_408 ?_
  refine A_iast d_MO_init_410 (n := 58) e1_13 e2_13 (by decide) ?_
  refine A_dup rfl d_MO_init_411 ?_
  refine A_bipush 43 (by decide) d_MO_init_412 ?_
  refine A_bipush 112 (by decide) d_MO_init_414 ?_
  refine A_iast d_MO_init_416 (n := 58) e1_13 e2_13 (by decide) ?_
  refine A_dup rfl d_MO_init_417 ?_
  refine A_bipush 44 (by decide) d_MO_init_418 ?_
  refine A_bipush 101 (by decide) d_MO_init_420 ?_
  refine A_iast d_MO_init_422 (n := 58) e1_13 e2_13 (by decide) ?_
  refine A_dup rfl d_MO_init_423 ?_
  refine A_bipush 45 (by decide) d_MO_init_424 ?_
  refine A_bipush 101 (by decide) d_MO_init_426 ?_
  refine A_iast d_MO_init_428 (n := 58) e1_13 e2_13 (by decide) ?_
  refine A_dup rfl d_MO_init_429 ?_
  refine A_bipush 46 (by decide) d_MO_init_430 ?_
  refine A_bipush 100 (by decide) d_MO_init_432 ?_
  refine A_iast d_MO_init_434 (n := 58) e1_13 e2_13 (by decide) ?_
  refine A_dup rfl d_MO_init_435 ?_
  refine A_bipush 47 (by decide) d_MO_init_436 ?_
  refine A_bipush 32 (by decide) d_MO_init_438 ?_
  refine A_iast d_MO_init_440 (n := 58) e1_13 e2_13 (by decide) ?_
  refine A_dup rfl d_MO_init_441 ?_
  refine A_bipush 48 (by decide) d_MO_init_442 ?_
  refine A_bipush 42 (by decide) d_MO_init_444 ?_
  refine A_iast d_MO_init_446 (n := 58) e1_13 e2_13 (by decide) ?_
  refine A_dup rfl d_MO_init_447 ?_
  refine A_bipush 49 (by decide) d_MO_init_448 ?_
  refine A_bipush 32 (by decide) d_MO_init_450 ?_
  refine A_iast d_MO_init_452 (n := 58) e1_13 e2_13 (by decide) ?_
  refine A_dup rfl d_MO_init_453 ?_
  refine A_bipush 50 (by decide) d_MO_init_454 ?_
  refine A_bipush 112 (by decide) d_MO_init_456 ?_
  refine A_iast d_MO_init_458 (n := 58) e1_13 e2_13 (by decide) ?_
  refine A_dup rfl d_MO_init_459 ?_
  refine A_bipush 51 (by decide) d_MO_init_460 ?_
  refine A_bipush 101 (by decide) d_MO_init_462 ?_
  refine A_iast d_MO_init_464 (n := 58) e1_13 e2_13 (by decide) ?_
  refine A_dup rfl d_MO_init_465 ?_
  refine A_bipush 52 (by decide) d_MO_init_466 ?_
  refine A_bipush 111 (by decide) d_MO_init_468 ?_
  refine A_iast d_MO_init_470 (n := 58) e1_13 e2_13 (by decide) ?_
  refine A_dup rfl d_MO_init_471 ?_
  refine A_bipush 53 (by decide) d_MO_init_472 ?_
  refine A_bipush 112 (by decide) d_MO_init_474 ?_
  refine A_iast d_MO_init_476 (n := 58) e1_13 e2_13 (by decide) ?_
  refine A_dup rfl d_MO_init_477 ?_
  refine A_bipush 54 (by decide) d_MO_init_478 ?_
  refine A_bipush 108 (by decide) d_MO_init_480 ?_
  refine A_iast d_MO_init_482 (n := 58) e1_13 e2_13 (by decide) ?_
  refine A_dup rfl d_MO_init_483 ?_
  refine A_bipush 55 (by decide) d_MO_init_484 ?_
  refine A_bipush 101 (by decide) d_MO_init_486 ?_
  refine A_iast d_MO_init_488 (n := 58) e1_13 e2_13 (by decide) ?_
  refine A_dup rfl d_MO_init_489 ?_
  refine A_bipush 56 (by decide) d_MO_init_490 ?_
  refine A_bipush 32 (by decide) d_MO_init_492 ?_
  refine A_iast d_MO_init_494 (n := 58) e1_13 e2_13 (by decide) ?_
  refine A_dup rfl d_MO_init_495 ?_
  refine A_bipush 57 (by decide) d_MO_init_496 ?_
  refine A_bipush 59 (by decide) d_MO_init_498 ?_
  refine A_iast d_MO_init_500 (n := 58) e1_13 e2_13 (by decide) ?_
  refine A_putR (k := 20) (b := 73) d_MO_init_501 (fo_MO_49_12 rfl) (Or.inl ft_12_20) (fun _ => rfl) rfl (vA_U (n := 74) e3_13 (by decide)) e4_13 (TU_1 (by decide)) (fun _ => rfl) (fun _ => rfl) ?_
  change Att G TU m_MO_init (d + 60) 504 _ [] (mh14 g) _ _ _
  refine A_aload_n d_MO_init_504 rfl ?_
  refine A_bipush 96 (by decide) d_MO_init_505 ?_
  refine A_newa (bc := 9) (bs := 448) (N := 96) d_MO_init_507 (by decide) (by decide) (tG 68 (by decide +kernel) (by decide +kernel)) (frN_TU _) ?_
  rw [mhn_14 hg]
  have e3_14 : nC TU (wN TU (mh14 g) (100, 96)) = 75 := by rw [nC_wN, mhn_14 hg]
  have e1_14 : vA TU (wN TU (mh14 g) (100, 96)) 74 := vA_U e3_14 (by decide)
  have e2_14 : rS TU (wN TU (mh14 g) (100, 96)) 74 = (100, 96) := by have z := rS_wN (T := TU) (h := mh14 g) (s := (100, 96)) (frN_TU _).1; rw [mhn_14 hg] at z; exact z
  have e4_14 : (rS TU (wN TU (mh14 g) (100, 96)) 59).1 = 12 := by rw [rS_wN_ne (by rw [mhn_14 hg]; decide), mhs_14 hg]
  refine A_dup rfl d_MO_init_509 ?_
  refine A_iconst 0 (by decide) d_MO_init_510 ?_
  refine A_bipush 119 (by decide) d_MO_init_511 ?_
  refine A_iast d_MO_init_513 (n := 96) e1_14 e2_14 (by decide) ?_
  refine A_dup rfl d_MO_init_514 ?_
  refine A_iconst 1 (by decide) d_MO_init_515 ?_
  refine A_bipush 101 (by decide) d_MO_init_516 ?_
  refine A_iast d_MO_init_518 (n := 96) e1_14 e2_14 (by decide) ?_
  refine A_dup rfl d_MO_init_519 ?_
  refine A_iconst 2 (by decide) d_MO_init_520 ?_
  refine A_bipush 105 (by decide) d_MO_init_521 ?_
  refine A_iast d_MO_init_523 (n := 96) e1_14 e2_14 (by decide) ?_
  refine A_dup rfl d_MO_init_524 ?_
  refine A_iconst 3 (by decide) d_MO_init_525 ?_
  refine A_bipush 103 (by decide) d_MO_init_526 ?_
  refine A_iast d_MO_init_528 (n := 96) e1_14 e2_14 (by decide) ?_
  refine A_dup rfl d_MO_init_529 ?_
  refine A_iconst 4 (by decide) d_MO_init_530 ?_
  refine A_bipush 104 (by decide) d_MO_init_531 ?_
  refine A_iast d_MO_init_533 (n := 96) e1_14 e2_14 (by decide) ?_
  refine A_dup rfl d_MO_init_534 ?_
  refine A_iconst 5 (by decide) d_MO_init_535 ?_
  refine A_bipush 115 (by decide) d_MO_init_536 ?_
  refine A_iast d_MO_init_538 (n := 96) e1_14 e2_14 (by decide) ?_
  refine A_dup rfl d_MO_init_539 ?_
  refine A_bipush 6 (by decide) d_MO_init_540 ?_
  refine A_bipush 32 (by decide) d_MO_init_542 ?_
  refine A_iast d_MO_init_544 (n := 96) e1_14 e2_14 (by decide) ?_
  refine A_dup rfl d_MO_init_545 ?_
  refine A_bipush 7 (by decide) d_MO_init_546 ?_
  refine A_bipush 32 (by decide) d_MO_init_548 ?_
  refine A_iast d_MO_init_550 (n := 96) e1_14 e2_14 (by decide) ?_
  refine A_dup rfl d_MO_init_551 ?_
  refine A_bipush 8 (by decide) d_MO_init_552 ?_
  refine A_bipush 104 (by decide) d_MO_init_554 ?_
  refine A_iast d_MO_init_556 (n := 96) e1_14 e2_14 (by decide) ?_
  refine A_dup rfl d_MO_init_557 ?_
  refine A_bipush 9 (by decide) d_MO_init_558 ?_
  refine A_bipush 111 (by decide) d_MO_init_560 ?_
  refine A_iast d_MO_init_562 (n := 96) e1_14 e2_14 (by decide) ?_
  refine A_dup rfl d_MO_init_563 ?_
  refine A_bipush 10 (by decide) d_MO_init_564 ?_
  refine A_bipush 108 (by decide) d_MO_init_566 ?_
  refine A_iast d_MO_init_568 (n := 96) e1_14 e2_14 (by decide) ?_
  refine A_dup rfl d_MO_init_569 ?_
  refine A_bipush 11 (by decide) d_MO_init_570 ?_
  refine A_bipush 100 (by decide) d_MO_init_572 ?_
  refine A_iast d_MO_init_574 (n := 96) e1_14 e2_14 (by decide) ?_
  refine A_dup rfl d_MO_init_575 ?_
  refine A_bipush 12 (by decide) d_MO_init_576 ?_
  refine A_bipush 115 (by decide) d_MO_init_578 ?_
  refine A_iast d_MO_init_580 (n := 96) e1_14 e2_14 (by decide) ?_
  refine A_dup rfl d_MO_init_581 ?_
  refine A_bipush 13 (by decide) d_MO_init_582 ?_
  refine A_bipush 32 (by decide) d_MO_init_584 ?_
  refine A_iast d_MO_init_586 (n := 96) e1_14 e2_14 (by decide) ?_
  refine A_dup rfl d_MO_init_587 ?_
  refine A_bipush 14 (by decide) d_MO_init_588 ?_
  refine A_bipush 32 (by decide) d_MO_init_590 ?_
  refine A_iast d_MO_init_592 (n := 96) e1_14 e2_14 (by decide) ?_
  refine A_dup rfl d_MO_init_593 ?_
  refine A_bipush 15 (by decide) d_MO_init_594 ?_
  refine A_bipush 32 (by decide) d_MO_init_596 ?_
  refine A_iast d_MO_init_598 (n := 96) e1_14 e2_14 (by decide) ?_
  refine A_dup rfl d_MO_init_599 ?_
  refine A_bipush 16 (by decide) d_MO_init_600 ?_
  refine A_bipush 104 (by decide) d_MO_init_602 ?_
  refine A_iast d_MO_init_604 (n := 96) e1_14 e2_14 (by decide) ?_
  refine A_dup rfl d_MO_init_605 ?_
  refine A_bipush 17 (by decide) d_MO_init_606 ?_
  refine A_bipush 105 (by decide) d_MO_init_608 ?_
  refine A_iast d_MO_init_610 (n := 96) e1_14 e2_14 (by decide) ?_
  refine A_dup rfl d_MO_init_611 ?_
  refine A_bipush 18 (by decide) d_MO_init_612 ?_
  refine A_bipush 116 (by decide) d_MO_init_614 ?_
  refine A_iast d_MO_init_616 (n := 96) e1_14 e2_14 (by decide) ?_
  refine A_dup rfl d_MO_init_617 ?_
  refine A_bipush 19 (by decide) d_MO_init_618 ?_
  refine A_bipush 115 (by decide) d_MO_init_620 ?_
  refine A_iast d_MO_init_622 (n := 96) e1_14 e2_14 (by decide) ?_
  refine A_dup rfl d_MO_init_623 ?_
  refine A_bipush 20 (by decide) d_MO_init_624 ?_
  refine A_bipush 32 (by decide) d_MO_init_626 ?_
  refine A_iast d_MO_init_628 (n := 96) e1_14 e2_14 (by decide) ?_
  refine A_dup rfl d_MO_init_629 ?_
  refine A_bipush 21 (by decide) d_MO_init_630 ?_
  refine A_bipush 32 (by decide) d_MO_init_632 ?_
  refine A_iast d_MO_init_634 (n := 96) e1_14 e2_14 (by decide) ?_
  refine A_dup rfl d_MO_init_635 ?_
  refine A_bipush 22 (by decide) d_MO_init_636 ?_
  refine A_bipush 32 (by decide) d_MO_init_638 ?_
  refine A_iast d_MO_init_640 (n := 96) e1_14 e2_14 (by decide) ?_
  refine A_dup rfl d_MO_init_641 ?_
  refine A_bipush 23 (by decide) d_MO_init_642 ?_
  refine A_bipush 32 (by decide) d_MO_init_644 ?_
  refine A_iast d_MO_init_646 (n := 96) e1_14 e2_14 (by decide) ?_
  refine A_dup rfl d_MO_init_647 ?_
  refine A_bipush 24 (by decide) d_MO_init_648 ?_
  refine A_bipush 116 (by decide) d_MO_init_650 ?_
  refine A_iast d_MO_init_652 (n := 96) e1_14 e2_14 (by decide) ?_
  refine A_dup rfl d_MO_init_653 ?_
  refine A_bipush 25 (by decide) d_MO_init_654 ?_
  refine A_bipush 111 (by decide) d_MO_init_656 ?_
  refine A_iast d_MO_init_658 (n := 96) e1_14 e2_14 (by decide) ?_
  refine A_dup rfl d_MO_init_659 ?_
  refine A_bipush 26 (by decide) d_MO_init_660 ?_
  refine A_bipush 108 (by decide) d_MO_init_662 ?_
  refine A_iast d_MO_init_664 (n := 96) e1_14 e2_14 (by decide) ?_
  refine A_dup rfl d_MO_init_665 ?_
  refine A_bipush 27 (by decide) d_MO_init_666 ?_
  refine A_bipush 100 (by decide) d_MO_init_668 ?_
  refine A_iast d_MO_init_670 (n := 96) e1_14 e2_14 (by decide) ?_
  refine A_dup rfl d_MO_init_671 ?_
  refine A_bipush 28 (by decide) d_MO_init_672 ?_
  refine A_bipush 32 (by decide) d_MO_init_674 ?_
  refine A_iast d_MO_init_676 (n := 96) e1_14 e2_14 (by decide) ?_
  refine A_dup rfl d_MO_init_677 ?_
  refine A_bipush 29 (by decide) d_MO_init_678 ?_
  refine A_bipush 32 (by decide) d_MO_init_680 ?_
  refine A_iast d_MO_init_682 (n := 96) e1_14 e2_14 (by decide) ?_
  refine A_dup rfl d_MO_init_683 ?_
  refine A_bipush 30 (by decide) d_MO_init_684 ?_
  refine A_bipush 32 (by decide) d_MO_init_686 ?_
  refine A_iast d_MO_init_688 (n := 96) e1_14 e2_14 (by decide) ?_
  refine A_dup rfl d_MO_init_689 ?_
  refine A_bipush 31 (by decide) d_MO_init_690 ?_
  refine A_bipush 32 (by decide) d_MO_init_692 ?_
  refine A_iast d_MO_init_694 (n := 96) e1_14 e2_14 (by decide) ?_
  refine A_dup rfl d_MO_init_695 ?_
  refine A_bipush 32 (by decide) d_MO_init_696 ?_
  refine A_bipush 112 (by decide) d_MO_init_698 ?_
  refine A_iast d_MO_init_700 (n := 96) e1_14 e2_14 (by decide) ?_
  refine A_dup rfl d_MO_init_701 ?_
  refine A_bipush 33 (by decide) d_MO_init_702 ?_
  refine A_bipush 101 (by decide) d_MO_init_704 ?_
  refine A_iast d_MO_init_706 (n := 96) e1_14 e2_14 (by decide) ?_
  refine A_dup rfl d_MO_init_707 ?_
  refine A_bipush 34 (by decide) d_MO_init_708 ?_
  refine A_bipush 111 (by decide) d_MO_init_710 ?_
  refine A_iast d_MO_init_712 (n := 96) e1_14 e2_14 (by decide) ?_
  refine A_dup rfl d_MO_init_713 ?_
  refine A_bipush 35 (by decide) d_MO_init_714 ?_
  refine A_bipush 112 (by decide) d_MO_init_716 ?_
  refine A_iast d_MO_init_718 (n := 96) e1_14 e2_14 (by decide) ?_
  refine A_dup rfl d_MO_init_719 ?_
  refine A_bipush 36 (by decide) d_MO_init_720 ?_
  refine A_bipush 108 (by decide) d_MO_init_722 ?_
  refine A_iast d_MO_init_724 (n := 96) e1_14 e2_14 (by decide) ?_
  refine A_dup rfl d_MO_init_725 ?_
  refine A_bipush 37 (by decide) d_MO_init_726 ?_
  refine A_bipush 101 (by decide) d_MO_init_728 ?_
  refine A_iast d_MO_init_730 (n := 96) e1_14 e2_14 (by decide) ?_
  refine A_dup rfl d_MO_init_731 ?_
  refine A_bipush 38 (by decide) d_MO_init_732 ?_
  refine A_bipush 32 (by decide) d_MO_init_734 ?_
  refine A_iast d_MO_init_736 (n := 96) e1_14 e2_14 (by decide) ?_
  refine A_dup rfl d_MO_init_737 ?_
  refine A_bipush 39 (by decide) d_MO_init_738 ?_
  refine A_bipush 32 (by decide) d_MO_init_740 ?_
  refine A_iast d_MO_init_742 (n := 96) e1_14 e2_14 (by decide) ?_
  refine A_dup rfl d_MO_init_743 ?_
  refine A_bipush 40 (by decide) d_MO_init_744 ?_
  refine A_bipush 109 (by decide) d_MO_init_746 ?_
  refine A_iast d_MO_init_748 (n := 96) e1_14 e2_14 (by decide) ?_
  refine A_dup rfl d_MO_init_749 ?_
  refine A_bipush 41 (by decide) d_MO_init_750 ?_
  refine A_bipush 111 (by decide) d_MO_init_752 ?_
  refine A_iast d_MO_init_754 (n := 96) e1_14 e2_14 (by decide) ?_
  refine A_dup rfl d_MO_init_755 ?_
  refine A_bipush 42 (by decide) d_MO_init_756 ?_
  refine A_bipush 114 (by decide) d_MO_init_758 ?_
  refine A_iast d_MO_init_760 (n := 96) e1_14 e2_14 (by decide) ?_
  refine A_dup rfl d_MO_init_761 ?_
  refine A_bipush 43 (by decide) d_MO_init_762 ?_
  refine A_bipush 101 (by decide) d_MO_init_764 ?_
  refine A_iast d_MO_init_766 (n := 96) e1_14 e2_14 (by decide) ?_
  refine A_dup rfl d_MO_init_767 ?_
  refine A_bipush 44 (by decide) d_MO_init_768 ?_
  refine A_bipush 32 (by decide) d_MO_init_770 ?_
  refine A_iast d_MO_init_772 (n := 96) e1_14 e2_14 (by decide) ?_
  refine A_dup rfl d_MO_init_773 ?_
  refine A_bipush 45 (by decide) d_MO_init_774 ?_
  refine A_bipush 32 (by decide) d_MO_init_776 ?_
  refine A_iast d_MO_init_778 (n := 96) e1_14 e2_14 (by decide) ?_
  refine A_dup rfl d_MO_init_779 ?_
  refine A_bipush 46 (by decide) d_MO_init_780 ?_
  refine A_bipush 32 (by decide) d_MO_init_782 ?_
  refine A_iast d_MO_init_784 (n := 96) e1_14 e2_14 (by decide) ?_
  refine A_dup rfl d_MO_init_785 ?_
  refine A_bipush 47 (by decide) d_MO_init_786 ?_
  refine A_bipush 32 (by decide) d_MO_init_788 ?_
  refine A_iast d_MO_init_790 (n := 96) e1_14 e2_14 (by decide) ?_
  refine A_dup rfl d_MO_init_791 ?_
  refine A_bipush 48 (by decide) d_MO_init_792 ?_
  refine A_bipush 104 (by decide) d_MO_init_794 ?_
  refine A_iast d_MO_init_796 (n := 96) e1_14 e2_14 (by decide) ?_
  refine A_dup rfl d_MO_init_797 ?_
  refine A_bipush 49 (by decide) d_MO_init_798 ?_
  refine A_bipush 105 (by decide) d_MO_init_800 ?_
  refine A_iast d_MO_init_802 (n := 96) e1_14 e2_14 (by decide) ?_
  refine A_dup rfl d_MO_init_803 ?_
  refine A_bipush 50 (by decide) d_MO_init_804 ?_
  refine A_bipush 103 (by decide) d_MO_init_806 ?_
  refine A_iast d_MO_init_808 (n := 96) e1_14 e2_14 (by decide) ?_
  refine A_dup rfl d_MO_init_809 ?_
  refine A_bipush 51 (by decide) d_MO_init_810 ?_
  refine A_bipush 104 (by decide) d_MO_init_812 ?_
  refine A_iast d_MO_init_814 (n := 96) e1_14 e2_14 (by decide) ?_
  refine A_dup rfl d_MO_init_815 ?_
  refine A_bipush 52 (by decide) d_MO_init_816 ?_
  refine A_bipush 32 (by decide) d_MO_init_818 ?_
  refine A_iast d_MO_init_820 (n := 96) e1_14 e2_14 (by decide) ?_
  refine A_dup rfl d_MO_init_821 ?_
  refine A_bipush 53 (by decide) d_MO_init_822 ?_
  refine A_bipush 32 (by decide) d_MO_init_824 ?_
  refine A_iast d_MO_init_826 (n := 96) e1_14 e2_14 (by decide) ?_
  refine A_dup rfl d_MO_init_827 ?_
  refine A_bipush 54 (by decide) d_MO_init_828 ?_
  refine A_bipush 32 (by decide) d_MO_init_830 ?_
  refine A_iast d_MO_init_832 (n := 96) e1_14 e2_14 (by decide) ?_
  refine A_dup rfl d_MO_init_833 ?_
  refine A_bipush 55 (by decide) d_MO_init_834 ?_
  refine A_bipush 32 (by decide) d_MO_init_836 ?_
  refine A_iast d_MO_init_838 (n := 96) e1_14 e2_14 (by decide) ?_
  refine A_dup rfl d_MO_init_839 ?_
  refine A_bipush 56 (by decide) d_MO_init_840 ?_
  refine A_bipush 109 (by decide) d_MO_init_842 ?_
  refine A_iast d_MO_init_844 (n := 96) e1_14 e2_14 (by decide) ?_
  refine A_dup rfl d_MO_init_845 ?_
  refine A_bipush 57 (by decide) d_MO_init_846 ?_
  refine A_bipush 105 (by decide) d_MO_init_848 ?_
  refine A_iast d_MO_init_850 (n := 96) e1_14 e2_14 (by decide) ?_
  refine A_dup rfl d_MO_init_851 ?_
  refine A_bipush 58 (by decide) d_MO_init_852 ?_
  refine A_bipush 110 (by decide) d_MO_init_854 ?_
  refine A_iast d_MO_init_856 (n := 96) e1_14 e2_14 (by decide) ?_
  refine A_dup rfl d_MO_init_857 ?_
  refine A_bipush 59 (by decide) d_MO_init_858 ?_
  refine A_bipush 117 (by decide) d_MO_init_860 ?_
  refine A_iast d_MO_init_862 (n := 96) e1_14 e2_14 (by decide) ?_
  refine A_dup rfl d_MO_init_863 ?_
  refine A_bipush 60 (by decide) d_MO_init_864 ?_
  refine A_bipush 116 (by decide) d_MO_init_866 ?_
  refine A_iast d_MO_init_868 (n := 96) e1_14 e2_14 (by decide) ?_
  refine A_dup rfl d_MO_init_869 ?_
  refine A_bipush 61 (by decide) d_MO_init_870 ?_
  refine A_bipush 101 (by decide) d_MO_init_872 ?_
  refine A_iast d_MO_init_874 (n := 96) e1_14 e2_14 (by decide) ?_
  refine A_dup rfl d_MO_init_875 ?_
  refine A_bipush 62 (by decide) d_MO_init_876 ?_
  refine A_bipush 32 (by decide) d_MO_init_878 ?_
  refine A_iast d_MO_init_880 (n := 96) e1_14 e2_14 (by decide) ?_
  refine A_dup rfl d_MO_init_881 ?_
  refine A_bipush 63 (by decide) d_MO_init_882 ?_
  refine A_bipush 32 (by decide) d_MO_init_884 ?_
  refine A_iast d_MO_init_886 (n := 96) e1_14 e2_14 (by decide) ?_
  refine A_dup rfl d_MO_init_887 ?_
  refine A_bipush 64 (by decide) d_MO_init_888 ?_
  refine A_bipush 115 (by decide) d_MO_init_890 ?_
  refine A_iast d_MO_init_892 (n := 96) e1_14 e2_14 (by decide) ?_
  refine A_dup rfl d_MO_init_893 ?_
  refine A_bipush 65 (by decide) d_MO_init_894 ?_
  refine A_bipush 112 (by decide) d_MO_init_896 ?_
  refine A_iast d_MO_init_898 (n := 96) e1_14 e2_14 (by decide) ?_
  refine A_dup rfl d_MO_init_899 ?_
  refine A_bipush 66 (by decide) d_MO_init_900 ?_
  refine A_bipush 101 (by decide) d_MO_init_902 ?_
  refine A_iast d_MO_init_904 (n := 96) e1_14 e2_14 (by decide) ?_
  refine A_dup rfl d_MO_init_905 ?_
  refine A_bipush 67 (by decide) d_MO_init_906 ?_
  refine A_bipush 101 (by decide) d_MO_init_908 ?_
  refine A_iast d_MO_init_910 (n := 96) e1_14 e2_14 (by decide) ?_
  refine A_dup rfl d_MO_init_911 ?_
  refine A_bipush 68 (by decide) d_MO_init_912 ?_
  refine A_bipush 100 (by decide) d_MO_init_914 ?_
  refine A_iast d_MO_init_916 (n := 96) e1_14 e2_14 (by decide) ?_
  refine A_dup rfl d_MO_init_917 ?_
  refine A_bipush 69 (by decide) d_MO_init_918 ?_
  refine A_bipush 32 (by decide) d_MO_init_920 ?_
  refine A_iast d_MO_init_922 (n := 96) e1_14 e2_14 (by decide) ?_
  refine A_dup rfl d_MO_init_923 ?_
  refine A_bipush 70 (by decide) d_MO_init_924 ?_
  refine A_bipush 32 (by decide) d_MO_init_926 ?_
  refine A_iast d_MO_init_928 (n := 96) e1_14 e2_14 (by decide) ?_
  refine A_dup rfl d_MO_init_929 ?_
  refine A_bipush 71 (by decide) d_MO_init_930 ?_
  refine A_bipush 32 (by decide) d_MO_init_932 ?_
  refine A_iast d_MO_init_934 (n := 96) e1_14 e2_14 (by decide) ?_
  refine A_dup rfl d_MO_init_935 ?_
  refine A_bipush 72 (by decide) d_MO_init_936 ?_
  refine A_bipush 111 (by decide) d_MO_init_938 ?_
  refine A_iast d_MO_init_940 (n := 96) e1_14 e2_14 (by decide) ?_
  refine A_dup rfl d_MO_init_941 ?_
  refine A_bipush 73 (by decide) d_MO_init_942 ?_
  refine A_bipush 114 (by decide) d_MO_init_944 ?_
  refine A_iast d_MO_init_946 (n := 96) e1_14 e2_14 (by decide) ?_
  refine A_dup rfl d_MO_init_947 ?_
  refine A_bipush 74 (by decide) d_MO_init_948 ?_
  refine A_bipush 32 (by decide) d_MO_init_950 ?_
  refine A_iast d_MO_init_952 (n := 96) e1_14 e2_14 (by decide) ?_
  refine A_dup rfl d_MO_init_953 ?_
  refine A_bipush 75 (by decide) d_MO_init_954 ?_
  refine A_bipush 32 (by decide) d_MO_init_956 ?_
  refine A_iast d_MO_init_958 (n := 96) e1_14 e2_14 (by decide) ?_
  refine A_dup rfl d_MO_init_959 ?_
  refine A_bipush 76 (by decide) d_MO_init_960 ?_
  refine A_bipush 32 (by decide) d_MO_init_962 ?_
  refine A_iast d_MO_init_964 (n := 96) e1_14 e2_14 (by decide) ?_
  refine A_dup rfl d_MO_init_965 ?_
  refine A_bipush 77 (by decide) d_MO_init_966 ?_
  refine A_bipush 32 (by decide) d_MO_init_968 ?_
  refine A_iast d_MO_init_970 (n := 96) e1_14 e2_14 (by decide) ?_
  refine A_dup rfl d_MO_init_971 ?_
  refine A_bipush 78 (by decide) d_MO_init_972 ?_
  refine A_bipush 32 (by decide) d_MO_init_974 ?_
  refine A_iast d_MO_init_976 (n := 96) e1_14 e2_14 (by decide) ?_
  refine A_dup rfl d_MO_init_977 ?_
  refine A_bipush 79 (by decide) d_MO_init_978 ?_
  refine A_bipush 32 (by decide) d_MO_init_980 ?_
  refine A_iast d_MO_init_982 (n := 96) e1_14 e2_14 (by decide) ?_
  refine A_dup rfl d_MO_init_983 ?_
  refine A_bipush 80 (by decide) d_MO_init_984 ?_
  refine A_bipush 97 (by decide) d_MO_init_986 ?_
  refine A_iast d_MO_init_988 (n := 96) e1_14 e2_14 (by decide) ?_
  refine A_dup rfl d_MO_init_989 ?_
  refine A_bipush 81 (by decide) d_MO_init_990 ?_
  refine A_bipush 110 (by decide) d_MO_init_992 ?_
  refine A_iast d_MO_init_994 (n := 96) e1_14 e2_14 (by decide) ?_
  refine A_dup rfl d_MO_init_995 ?_
  refine A_bipush 82 (by decide) d_MO_init_996 ?_
  refine A_bipush 100 (by decide) d_MO_init_998 ?_
  refine A_iast d_MO_init_1000 (n := 96) e1_14 e2_14 (by decide) ?_
  refine A_dup rfl d_MO_init_1001 ?_
  refine A_bipush 83 (by decide) d_MO_init_1002 ?_
  refine A_bipush 32 (by decide) d_MO_init_1004 ?_
  refine A_iast d_MO_init_1006 (n := 96) e1_14 e2_14 (by decide) ?_
  refine A_dup rfl d_MO_init_1007 ?_
  refine A_bipush 84 (by decide) d_MO_init_1008 ?_
  refine A_bipush 32 (by decide) d_MO_init_1010 ?_
  refine A_iast d_MO_init_1012 (n := 96) e1_14 e2_14 (by decide) ?_
  refine A_dup rfl d_MO_init_1013 ?_
  refine A_bipush 85 (by decide) d_MO_init_1014 ?_
  refine A_bipush 32 (by decide) d_MO_init_1016 ?_
  refine A_iast d_MO_init_1018 (n := 96) e1_14 e2_14 (by decide) ?_
  refine A_dup rfl d_MO_init_1019 ?_
  refine A_bipush 86 (by decide) d_MO_init_1020 ?_
  refine A_bipush 32 (by decide) d_MO_init_1022 ?_
  refine A_iast d_MO_init_1024 (n := 96) e1_14 e2_14 (by decide) ?_
  refine A_dup rfl d_MO_init_1025 ?_
  refine A_bipush 87 (by decide) d_MO_init_1026 ?_
  refine A_bipush 32 (by decide) d_MO_init_1028 ?_
  refine A_iast d_MO_init_1030 (n := 96) e1_14 e2_14 (by decide) ?_
  refine A_dup rfl d_MO_init_1031 ?_
  refine A_bipush 88 (by decide) d_MO_init_1032 ?_
  refine A_bipush 110 (by decide) d_MO_init_1034 ?_
  refine A_iast d_MO_init_1036 (n := 96) e1_14 e2_14 (by decide) ?_
  refine A_dup rfl d_MO_init_1037 ?_
  refine A_bipush 89 (by decide) d_MO_init_1038 ?_
  refine A_bipush 111 (by decide) d_MO_init_1040 ?_
  refine A_iast d_MO_init_1042 (n := 96) e1_14 e2_14 (by decide) ?_
  refine A_dup rfl d_MO_init_1043 ?_
  refine A_bipush 90 (by decide) d_MO_init_1044 ?_
  refine A_bipush 116 (by decide) d_MO_init_1046 ?_
  refine A_iast d_MO_init_1048 (n := 96) e1_14 e2_14 (by decide) ?_
  refine A_dup rfl d_MO_init_1049 ?_
  refine A_bipush 91 (by decide) d_MO_init_1050 ?_
  refine A_bipush 32 (by decide) d_MO_init_1052 ?_
  refine A_iast d_MO_init_1054 (n := 96) e1_14 e2_14 (by decide) ?_
  refine A_dup rfl d_MO_init_1055 ?_
  refine A_bipush 92 (by decide) d_MO_init_1056 ?_
  refine A_bipush 32 (by decide) d_MO_init_1058 ?_
  refine A_iast d_MO_init_1060 (n := 96) e1_14 e2_14 (by decide) ?_
  refine A_dup rfl d_MO_init_1061 ?_
  refine A_bipush 93 (by decide) d_MO_init_1062 ?_
  refine A_bipush 32 (by decide) d_MO_init_1064 ?_
  refine A_iast d_MO_init_1066 (n := 96) e1_14 e2_14 (by decide) ?_
  refine A_dup rfl d_MO_init_1067 ?_
  refine A_bipush 94 (by decide) d_MO_init_1068 ?_
  refine A_bipush 32 (by decide) d_MO_init_1070 ?_
  refine A_iast d_MO_init_1072 (n := 96) e1_14 e2_14 (by decide) ?_
  refine A_dup rfl d_MO_init_1073 ?_
  refine A_bipush 95 (by decide) d_MO_init_1074 ?_
  refine A_bipush 32 (by decide) d_MO_init_1076 ?_
  refine A_iast d_MO_init_1078 (n := 96) e1_14 e2_14 (by decide) ?_
  refine A_putR (k := 25) (b := 74) d_MO_init_1079 (fo_MO_52_12 rfl) (Or.inl ft_12_25) (fun _ => rfl) rfl (vA_U (n := 75) e3_14 (by decide)) e4_14 (TU_1 (by decide)) (fun _ => rfl) (fun _ => rfl) ?_
  change Att G TU m_MO_init (d + 60) 1082 _ [] (mh15 g) _ _ _
  refine A_aload_n d_MO_init_1082 rfl ?_
  refine A_sipush 200 (by decide) d_MO_init_1083 ?_
  refine A_newa (bc := 8) (bs := 248) (N := 200) d_MO_init_1086 (by decide) (by decide) (tG 68 (by decide +kernel) (by decide +kernel)) (frN_TU _) ?_
  rw [mhn_15 hg]
  have e3_15 : nC TU (wN TU (mh15 g) (100, 200)) = 76 := by rw [nC_wN, mhn_15 hg]
  have e1_15 : vA TU (wN TU (mh15 g) (100, 200)) 75 := vA_U e3_15 (by decide)
  have e2_15 : rS TU (wN TU (mh15 g) (100, 200)) 75 = (100, 200) := by have z := rS_wN (T := TU) (h := mh15 g) (s := (100, 200)) (frN_TU _).1; rw [mhn_15 hg] at z; exact z
  have e4_15 : (rS TU (wN TU (mh15 g) (100, 200)) 59).1 = 12 := by rw [rS_wN_ne (by rw [mhn_15 hg]; decide), mhs_15 hg]
  refine A_putR (k := 26) (b := 75) d_MO_init_1088 (fo_MO_55_12 rfl) (Or.inl ft_12_26) (fun _ => rfl) rfl (vA_U (n := 76) e3_15 (by decide)) e4_15 (TU_1 (by decide)) (fun _ => rfl) (fun _ => rfl) ?_
  change Att G TU m_MO_init (d + 60) 1091 _ [] (mh16 g) _ _ _
  refine A_aload_n d_MO_init_1091 rfl ?_
  refine A_sipush 200 (by decide) d_MO_init_1092 ?_
  refine A_newa (bc := 7) (bs := 48) (N := 200) d_MO_init_1095 (by decide) (by decide) (tG 68 (by decide +kernel) (by decide +kernel)) (frN_TU _) ?_
  rw [mhn_16 hg]
  have e3_16 : nC TU (wN TU (mh16 g) (100, 200)) = 77 := by rw [nC_wN, mhn_16 hg]
  have e1_16 : vA TU (wN TU (mh16 g) (100, 200)) 76 := vA_U e3_16 (by decide)
  have e2_16 : rS TU (wN TU (mh16 g) (100, 200)) 76 = (100, 200) := by have z := rS_wN (T := TU) (h := mh16 g) (s := (100, 200)) (frN_TU _).1; rw [mhn_16 hg] at z; exact z
  have e4_16 : (rS TU (wN TU (mh16 g) (100, 200)) 59).1 = 12 := by rw [rS_wN_ne (by rw [mhn_16 hg]; decide), mhs_16 hg]
  refine A_putR (k := 30) (b := 76) d_MO_init_1097 (fo_MO_58_12 rfl) (Or.inl ft_12_30) (fun _ => rfl) rfl (vA_U (n := 77) e3_16 (by decide)) e4_16 (TU_1 (by decide)) (fun _ => rfl) (fun _ => rfl) ?_
  change Att G TU m_MO_init (d + 60) 1100 _ [] (mh17 g) _ _ _
  refine A_aload_n d_MO_init_1100 rfl ?_
  refine A_bipush 6 (by decide) d_MO_init_1101 ?_
  refine A_newa (bc := 6) (bs := 42) (N := 6) d_MO_init_1103 (by decide) (by decide) (tG 68 (by decide +kernel) (by decide +kernel)) (frN_TU _) ?_
  rw [mhn_17 hg]
  have e3_17 : nC TU (wN TU (mh17 g) (100, 6)) = 78 := by rw [nC_wN, mhn_17 hg]
  have e1_17 : vA TU (wN TU (mh17 g) (100, 6)) 77 := vA_U e3_17 (by decide)
  have e2_17 : rS TU (wN TU (mh17 g) (100, 6)) 77 = (100, 6) := by have z := rS_wN (T := TU) (h := mh17 g) (s := (100, 6)) (frN_TU _).1; rw [mhn_17 hg] at z; exact z
  have e4_17 : (rS TU (wN TU (mh17 g) (100, 6)) 59).1 = 12 := by rw [rS_wN_ne (by rw [mhn_17 hg]; decide), mhs_17 hg]
  refine A_putR (k := 31) (b := 77) d_MO_init_1105 (fo_MO_61_12 rfl) (Or.inl ft_12_31) (fun _ => rfl) rfl (vA_U (n := 78) e3_17 (by decide)) e4_17 (TU_1 (by decide)) (fun _ => rfl) (fun _ => rfl) ?_
  change Att G TU m_MO_init (d + 60) 1108 _ [] (mh18 g) _ _ _
  refine A_aload_n d_MO_init_1108 rfl ?_
  refine A_bipush 7 (by decide) d_MO_init_1109 ?_
  refine A_newa (bc := 5) (bs := 35) (N := 7) d_MO_init_1111 (by decide) (by decide) (tG 68 (by decide +kernel) (by decide +kernel)) (frN_TU _) ?_
  rw [mhn_18 hg]
  have e3_18 : nC TU (wN TU (mh18 g) (100, 7)) = 79 := by rw [nC_wN, mhn_18 hg]
  have e1_18 : vA TU (wN TU (mh18 g) (100, 7)) 78 := vA_U e3_18 (by decide)
  have e2_18 : rS TU (wN TU (mh18 g) (100, 7)) 78 = (100, 7) := by have z := rS_wN (T := TU) (h := mh18 g) (s := (100, 7)) (frN_TU _).1; rw [mhn_18 hg] at z; exact z
  have e4_18 : (rS TU (wN TU (mh18 g) (100, 7)) 59).1 = 12 := by rw [rS_wN_ne (by rw [mhn_18 hg]; decide), mhs_18 hg]
  refine A_putR (k := 32) (b := 78) d_MO_init_1113 (fo_MO_64_12 rfl) (Or.inl ft_12_32) (fun _ => rfl) rfl (vA_U (n := 79) e3_18 (by decide)) e4_18 (TU_1 (by decide)) (fun _ => rfl) (fun _ => rfl) ?_
  change Att G TU m_MO_init (d + 60) 1116 _ [] (mh19 g) _ _ _
  refine A_aload_n d_MO_init_1116 rfl ?_
  refine A_bipush 7 (by decide) d_MO_init_1117 ?_
  refine A_newa (bc := 4) (bs := 28) (N := 7) d_MO_init_1119 (by decide) (by decide) (tG 68 (by decide +kernel) (by decide +kernel)) (frN_TU _) ?_
  rw [mhn_19 hg]
  have e3_19 : nC TU (wN TU (mh19 g) (100, 7)) = 80 := by rw [nC_wN, mhn_19 hg]
  have e1_19 : vA TU (wN TU (mh19 g) (100, 7)) 79 := vA_U e3_19 (by decide)
  have e2_19 : rS TU (wN TU (mh19 g) (100, 7)) 79 = (100, 7) := by have z := rS_wN (T := TU) (h := mh19 g) (s := (100, 7)) (frN_TU _).1; rw [mhn_19 hg] at z; exact z
  have e4_19 : (rS TU (wN TU (mh19 g) (100, 7)) 59).1 = 12 := by rw [rS_wN_ne (by rw [mhn_19 hg]; decide), mhs_19 hg]
  refine A_putR (k := 33) (b := 79) d_MO_init_1121 (fo_MO_67_12 rfl) (Or.inl ft_12_33) (fun _ => rfl) rfl (vA_U (n := 80) e3_19 (by decide)) e4_19 (TU_1 (by decide)) (fun _ => rfl) (fun _ => rfl) ?_
  change Att G TU m_MO_init (d + 60) 1124 _ [] (mh20 g) _ _ _
  refine A_aload_n d_MO_init_1124 rfl ?_
  refine A_bipush 7 (by decide) d_MO_init_1125 ?_
  refine A_newa (bc := 3) (bs := 21) (N := 7) d_MO_init_1127 (by decide) (by decide) (tG 68 (by decide +kernel) (by decide +kernel)) (frN_TU _) ?_
  rw [mhn_20 hg]
  have e3_20 : nC TU (wN TU (mh20 g) (100, 7)) = 81 := by rw [nC_wN, mhn_20 hg]
  have e1_20 : vA TU (wN TU (mh20 g) (100, 7)) 80 := vA_U e3_20 (by decide)
  have e2_20 : rS TU (wN TU (mh20 g) (100, 7)) 80 = (100, 7) := by have z := rS_wN (T := TU) (h := mh20 g) (s := (100, 7)) (frN_TU _).1; rw [mhn_20 hg] at z; exact z
  have e4_20 : (rS TU (wN TU (mh20 g) (100, 7)) 59).1 = 12 := by rw [rS_wN_ne (by rw [mhn_20 hg]; decide), mhs_20 hg]
  refine A_putR (k := 34) (b := 80) d_MO_init_1129 (fo_MO_70_12 rfl) (Or.inl ft_12_34) (fun _ => rfl) rfl (vA_U (n := 81) e3_20 (by decide)) e4_20 (TU_1 (by decide)) (fun _ => rfl) (fun _ => rfl) ?_
  change Att G TU m_MO_init (d + 60) 1132 _ [] (mh21 g) _ _ _
  refine A_aload_n d_MO_init_1132 rfl ?_
  refine A_bipush 7 (by decide) d_MO_init_1133 ?_
  refine A_newa (bc := 2) (bs := 14) (N := 7) d_MO_init_1135 (by decide) (by decide) (tG 68 (by decide +kernel) (by decide +kernel)) (frN_TU _) ?_
  rw [mhn_21 hg]
  have e3_21 : nC TU (wN TU (mh21 g) (100, 7)) = 82 := by rw [nC_wN, mhn_21 hg]
  have e1_21 : vA TU (wN TU (mh21 g) (100, 7)) 81 := vA_U e3_21 (by decide)
  have e2_21 : rS TU (wN TU (mh21 g) (100, 7)) 81 = (100, 7) := by have z := rS_wN (T := TU) (h := mh21 g) (s := (100, 7)) (frN_TU _).1; rw [mhn_21 hg] at z; exact z
  have e4_21 : (rS TU (wN TU (mh21 g) (100, 7)) 59).1 = 12 := by rw [rS_wN_ne (by rw [mhn_21 hg]; decide), mhs_21 hg]
  refine A_putR (k := 35) (b := 81) d_MO_init_1137 (fo_MO_73_12 rfl) (Or.inl ft_12_35) (fun _ => rfl) rfl (vA_U (n := 82) e3_21 (by decide)) e4_21 (TU_1 (by decide)) (fun _ => rfl) (fun _ => rfl) ?_
  change Att G TU m_MO_init (d + 60) 1140 _ [] (mh22 g) _ _ _
  refine A_aload_n d_MO_init_1140 rfl ?_
  refine A_bipush 7 (by decide) d_MO_init_1141 ?_
  refine A_newa (bc := 1) (bs := 7) (N := 7) d_MO_init_1143 (by decide) (by decide) (tG 68 (by decide +kernel) (by decide +kernel)) (frN_TU _) ?_
  rw [mhn_22 hg]
  have e3_22 : nC TU (wN TU (mh22 g) (100, 7)) = 83 := by rw [nC_wN, mhn_22 hg]
  have e1_22 : vA TU (wN TU (mh22 g) (100, 7)) 82 := vA_U e3_22 (by decide)
  have e2_22 : rS TU (wN TU (mh22 g) (100, 7)) 82 = (100, 7) := by have z := rS_wN (T := TU) (h := mh22 g) (s := (100, 7)) (frN_TU _).1; rw [mhn_22 hg] at z; exact z
  have e4_22 : (rS TU (wN TU (mh22 g) (100, 7)) 59).1 = 12 := by rw [rS_wN_ne (by rw [mhn_22 hg]; decide), mhs_22 hg]
  refine A_putR (k := 36) (b := 82) d_MO_init_1145 (fo_MO_76_12 rfl) (Or.inl ft_12_36) (fun _ => rfl) rfl (vA_U (n := 83) e3_22 (by decide)) e4_22 (TU_1 (by decide)) (fun _ => rfl) (fun _ => rfl) ?_
  change Att G TU m_MO_init (d + 60) 1148 _ [] (mh23 g) _ _ _
  refine A_aload_n d_MO_init_1148 rfl ?_
  refine A_bipush 7 (by decide) d_MO_init_1149 ?_
  refine A_newa (bc := 0) (bs := 0) (N := 7) d_MO_init_1151 (by decide) (by decide) (tG 68 (by decide +kernel) (by decide +kernel)) (frN_TU _) ?_
  rw [mhn_23 hg]
  have e3_23 : nC TU (wN TU (mh23 g) (100, 7)) = 84 := by rw [nC_wN, mhn_23 hg]
  have e1_23 : vA TU (wN TU (mh23 g) (100, 7)) 83 := vA_U e3_23 (by decide)
  have e2_23 : rS TU (wN TU (mh23 g) (100, 7)) 83 = (100, 7) := by have z := rS_wN (T := TU) (h := mh23 g) (s := (100, 7)) (frN_TU _).1; rw [mhn_23 hg] at z; exact z
  have e4_23 : (rS TU (wN TU (mh23 g) (100, 7)) 59).1 = 12 := by rw [rS_wN_ne (by rw [mhn_23 hg]; decide), mhs_23 hg]
  refine A_putR (k := 39) (b := 83) d_MO_init_1153 (fo_MO_79_12 rfl) (Or.inl ft_12_39) (fun _ => rfl) rfl (vA_U (n := 84) e3_23 (by decide)) e4_23 (TU_1 (by decide)) (fun _ => rfl) (fun _ => rfl) ?_
  change Att G TU m_MO_init (d + 60) 1156 _ [] (mh24 g) _ _ _
  exact K
