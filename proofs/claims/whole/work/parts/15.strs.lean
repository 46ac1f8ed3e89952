/-! String constants: length, charAt, over the JDK methods bytes (printed by wip/gen/strs.py) -/
theorem d_Str_length_0 : decode prog_17_method_54_code 0 = .ok (.aload_n 0, 1) := by decide +kernel
theorem d_Str_length_1 : decode prog_17_method_54_code 1 = .ok (.getfield 9, 3) := by decide +kernel
theorem d_Str_length_4 : decode prog_17_method_54_code 4 = .ok (.arraylength, 1) := by decide +kernel
theorem d_Str_length_5 : decode prog_17_method_54_code 5 = .ok (.aload_n 0, 1) := by decide +kernel
theorem d_Str_length_6 : decode prog_17_method_54_code 6 = .ok (.invokevirtual 335, 3) := by decide +kernel
theorem d_Str_length_9 : decode prog_17_method_54_code 9 = .ok (.ishr, 1) := by decide +kernel
theorem d_Str_length_10 : decode prog_17_method_54_code 10 = .ok (.ireturn, 1) := by decide +kernel
theorem d_Str_coder_0 : decode prog_17_method_152_code 0 = .ok (.getstatic 38, 3) := by decide +kernel
theorem d_Str_coder_3 : decode prog_17_method_152_code 3 = .ok (.ifCond .eq 10, 3) := by decide +kernel
theorem d_Str_coder_6 : decode prog_17_method_152_code 6 = .ok (.aload_n 0, 1) := by decide +kernel
theorem d_Str_coder_7 : decode prog_17_method_152_code 7 = .ok (.getfield 15, 3) := by decide +kernel
theorem d_Str_coder_10 : decode prog_17_method_152_code 10 = .ok (.goto 4, 3) := by decide +kernel
theorem d_Str_coder_13 : decode prog_17_method_152_code 13 = .ok (.iconst 1, 1) := by decide +kernel
theorem d_Str_coder_14 : decode prog_17_method_152_code 14 = .ok (.ireturn, 1) := by decide +kernel
theorem d_Str_charAt_0 : decode prog_17_method_56_code 0 = .ok (.aload_n 0, 1) := by decide +kernel
theorem d_Str_charAt_1 : decode prog_17_method_56_code 1 = .ok (.invokevirtual 492, 3) := by decide +kernel
theorem d_Str_charAt_4 : decode prog_17_method_56_code 4 = .ok (.ifCond .eq 12, 3) := by decide +kernel
theorem d_Str_charAt_7 : decode prog_17_method_56_code 7 = .ok (.aload_n 0, 1) := by decide +kernel
theorem d_Str_charAt_8 : decode prog_17_method_56_code 8 = .ok (.getfield 9, 3) := by decide +kernel
theorem d_Str_charAt_11 : decode prog_17_method_56_code 11 = .ok (.iload_n 1, 1) := by decide +kernel
theorem d_Str_charAt_12 : decode prog_17_method_56_code 12 = .ok (.invokestatic 495, 3) := by decide +kernel
theorem d_Str_charAt_15 : decode prog_17_method_56_code 15 = .ok (.ireturn, 1) := by decide +kernel
theorem d_Str_isLatin1_0 : decode prog_17_method_154_code 0 = .ok (.getstatic 38, 3) := by decide +kernel
theorem d_Str_isLatin1_3 : decode prog_17_method_154_code 3 = .ok (.ifCond .eq 14, 3) := by decide +kernel
theorem d_Str_isLatin1_6 : decode prog_17_method_154_code 6 = .ok (.aload_n 0, 1) := by decide +kernel
theorem d_Str_isLatin1_7 : decode prog_17_method_154_code 7 = .ok (.getfield 15, 3) := by decide +kernel
theorem d_Str_isLatin1_10 : decode prog_17_method_154_code 10 = .ok (.ifCond .ne 7, 3) := by decide +kernel
theorem d_Str_isLatin1_13 : decode prog_17_method_154_code 13 = .ok (.iconst 1, 1) := by decide +kernel
theorem d_Str_isLatin1_14 : decode prog_17_method_154_code 14 = .ok (.goto 4, 3) := by decide +kernel
theorem d_Str_isLatin1_17 : decode prog_17_method_154_code 17 = .ok (.iconst 0, 1) := by decide +kernel
theorem d_Str_isLatin1_18 : decode prog_17_method_154_code 18 = .ok (.ireturn, 1) := by decide +kernel
theorem d_Lat_charAt_0 : decode prog_18_method_2_code 0 = .ok (.iload_n 1, 1) := by decide +kernel
theorem d_Lat_charAt_1 : decode prog_18_method_2_code 1 = .ok (.aload_n 0, 1) := by decide +kernel
theorem d_Lat_charAt_2 : decode prog_18_method_2_code 2 = .ok (.arraylength, 1) := by decide +kernel
theorem d_Lat_charAt_3 : decode prog_18_method_2_code 3 = .ok (.invokestatic 9, 3) := by decide +kernel
theorem d_Lat_charAt_6 : decode prog_18_method_2_code 6 = .ok (.aload_n 0, 1) := by decide +kernel
theorem d_Lat_charAt_7 : decode prog_18_method_2_code 7 = .ok (.iload_n 1, 1) := by decide +kernel
theorem d_Lat_charAt_8 : decode prog_18_method_2_code 8 = .ok (.baload, 1) := by decide +kernel
theorem d_Lat_charAt_9 : decode prog_18_method_2_code 9 = .ok (.sipush 255, 3) := by decide +kernel
theorem d_Lat_charAt_12 : decode prog_18_method_2_code 12 = .ok (.iand, 1) := by decide +kernel
theorem d_Lat_charAt_13 : decode prog_18_method_2_code 13 = .ok (.i2c, 1) := by decide +kernel
theorem d_Lat_charAt_14 : decode prog_18_method_2_code 14 = .ok (.ireturn, 1) := by decide +kernel
theorem d_Str_checkIndex_0 : decode prog_17_method_155_code 0 = .ok (.iload_n 0, 1) := by decide +kernel
theorem d_Str_checkIndex_1 : decode prog_17_method_155_code 1 = .ok (.iload_n 1, 1) := by decide +kernel
theorem d_Str_checkIndex_2 : decode prog_17_method_155_code 2 = .ok (.getstatic 1053, 3) := by decide +kernel
theorem d_Str_checkIndex_5 : decode prog_17_method_155_code 5 = .ok (.invokestatic 1059, 3) := by decide +kernel
theorem d_Str_checkIndex_8 : decode prog_17_method_155_code 8 = .ok (.pop, 1) := by decide +kernel
theorem d_Str_checkIndex_9 : decode prog_17_method_155_code 9 = .ok (.return_, 1) := by decide +kernel
theorem d_Prec_checkIndex_0 : decode prog_21_method_11_code 0 = .ok (.iload_n 0, 1) := by decide +kernel
theorem d_Prec_checkIndex_1 : decode prog_21_method_11_code 1 = .ok (.ifCond .lt 8, 3) := by decide +kernel
theorem d_Prec_checkIndex_4 : decode prog_21_method_11_code 4 = .ok (.iload_n 0, 1) := by decide +kernel
theorem d_Prec_checkIndex_5 : decode prog_21_method_11_code 5 = .ok (.iload_n 1, 1) := by decide +kernel
theorem d_Prec_checkIndex_6 : decode prog_21_method_11_code 6 = .ok (.if_icmp .lt 10, 3) := by decide +kernel
theorem d_Prec_checkIndex_9 : decode prog_21_method_11_code 9 = .ok (.aload_n 2, 1) := by decide +kernel
theorem d_Prec_checkIndex_10 : decode prog_21_method_11_code 10 = .ok (.iload_n 0, 1) := by decide +kernel
theorem d_Prec_checkIndex_11 : decode prog_21_method_11_code 11 = .ok (.iload_n 1, 1) := by decide +kernel
theorem d_Prec_checkIndex_15 : decode prog_21_method_11_code 15 = .ok (.athrow, 1) := by decide +kernel
theorem d_Prec_checkIndex_16 : decode prog_21_method_11_code 16 = .ok (.iload_n 0, 1) := by decide +kernel
theorem d_Prec_checkIndex_17 : decode prog_21_method_11_code 17 = .ok (.ireturn, 1) := by decide +kernel
theorem ct_Str_335 {q : MM} (hq : q.1 = "java/lang/String") : CallTo q m_Str_coder (.invokevirtual 335) 1 (some (some "java/lang/String")) := ct_V (by rw [hq]; exact tG 207 (by decide +kernel) (by decide +kernel)) (tG 208 (by decide +kernel) (by decide +kernel)) (tG 209 (by decide +kernel) (by decide +kernel)) (tG 8 (by decide +kernel) (by decide +kernel)) (tG 210 (by decide +kernel) (by decide +kernel)) (by decide +kernel)
theorem ct_Str_492 {q : MM} (hq : q.1 = "java/lang/String") : CallTo q m_Str_isLatin1 (.invokevirtual 492) 1 (some (some "java/lang/String")) := ct_V (by rw [hq]; exact tG 217 (by decide +kernel) (by decide +kernel)) (tG 218 (by decide +kernel) (by decide +kernel)) (tG 219 (by decide +kernel) (by decide +kernel)) (tG 8 (by decide +kernel) (by decide +kernel)) (tG 220 (by decide +kernel) (by decide +kernel)) (by decide +kernel)
theorem ct_Str_495 {q : MM} (hq : q.1 = "java/lang/String") : CallTo q m_Lat_charAt (.invokestatic 495) 2 none := ct_So (by rw [hq]; exact tG 221 (by decide +kernel) (by decide +kernel)) (tG 222 (by decide +kernel) (by decide +kernel)) (tG 9 (by decide +kernel) (by decide +kernel)) (tG 223 (by decide +kernel) (by decide +kernel)) (by decide +kernel)
theorem ct_Lat_9 {q : MM} (hq : q.1 = "java/lang/StringLatin1") : CallTo q m_Str_checkIndex (.invokestatic 9) 2 none := ct_So (by rw [hq]; exact tG 224 (by decide +kernel) (by decide +kernel)) (tG 225 (by decide +kernel) (by decide +kernel)) (tG 8 (by decide +kernel) (by decide +kernel)) (tG 226 (by decide +kernel) (by decide +kernel)) (by decide +kernel)
theorem ct_Str_1059 {q : MM} (hq : q.1 = "java/lang/String") : CallTo q m_Prec_checkIndex (.invokestatic 1059) 3 none := ct_So (by rw [hq]; exact tG 229 (by decide +kernel) (by decide +kernel)) (tG 230 (by decide +kernel) (by decide +kernel)) (tG 10 (by decide +kernel) (by decide +kernel)) (tG 231 (by decide +kernel) (by decide +kernel)) (by decide +kernel)
def chS (i : Nat) (j : Int32) : Int32 := (strByt.getD i []).getD j.toNatClampNeg 0
theorem strB_ok : ∀ i, i < 13 → (strByt.getD i []).length = strLen.getD i 0 ∧ strLen.getD i 0 < 100 ∧ ∀ b ∈ strByt.getD i [], ((b &&& 255).toUInt32 % 65536).toInt32 = b ∧ narrow .char (.int b) = .int b := by decide +kernel
theorem chS_ok {i : Nat} {j : Int32} (hi : i < 13) (hj : inb j (strLen.getD i 0)) : ((chS i j &&& 255).toUInt32 % 65536).toInt32 = chS i j ∧ narrow .char (.int (chS i j)) = .int (chS i j) := by
  obtain ⟨h1, h2, h3⟩ := strB_ok i hi
  apply h3
  unfold chS
  have hlt : j.toNatClampNeg < (strByt.getD i []).length := by
    rw [h1]
    have := clampI hj.1
    have := hj.2
    omega
  generalize strByt.getD i [] = l at hlt ⊢
  rw [List.getD_eq_getElem?_getD, List.getElem?_eq_getElem hlt]
  exact List.getElem_mem hlt
def p_Str_length (Q : Int32 → AH → Prop) (a : Nat) (h : AH) : Prop := ∃ i, a = 1000000 + i ∧ i < 13 ∧ Q (Int32.ofNat (strLen.getD i 0)) h
def p_Str_charAt (Q : Int32 → AH → Prop) (a : Nat) (j : Int32) (h : AH) : Prop := ∃ i, a = 1000000 + i ∧ i < 13 ∧ inb j (strLen.getD i 0) ∧ Q (chS i j) h
section STRS
variable {G : GG} {T : TT} {d : Nat} {h : AH}
theorem w_Str_coder {Q : Int32 → AH → Prop} {i : Nat} (hi : i < 13) (H : Q 0 h) : WP G T m_Str_coder d [.ref (1000000 + i)] h 0 0 (iQ Q) := by
  refine WP.enter 0 (by decide) rfl rfl ?_
  refine A_gstC d_Str_coder_0 (tG 211 (by decide +kernel) (by decide +kernel)) ?_
  refine A_if_eq 13 d_Str_coder_3 (by decide) (fun z => absurd z (by decide)) (fun z => ?_)
  refine A_aload_n d_Str_coder_6 rfl ?_
  refine A_strC d_Str_coder_7 (tG 1290 (by decide +kernel) (by decide +kernel)) hi ?_
  refine A_goto 14 d_Str_coder_10 (by decide) ?_
  exact A_iret d_Str_coder_14 rfl rfl H
theorem w_Str_isLatin1 {Q : Int32 → AH → Prop} {i : Nat} (hi : i < 13) (H : Q 1 h) : WP G T m_Str_isLatin1 d [.ref (1000000 + i)] h 0 0 (iQ Q) := by
  refine WP.enter 0 (by decide) rfl rfl ?_
  refine A_gstC d_Str_isLatin1_0 (tG 211 (by decide +kernel) (by decide +kernel)) ?_
  refine A_if_eq 17 d_Str_isLatin1_3 (by decide) (fun z => absurd z (by decide)) (fun z => ?_)
  refine A_aload_n d_Str_isLatin1_6 rfl ?_
  refine A_strC d_Str_isLatin1_7 (tG 1290 (by decide +kernel) (by decide +kernel)) hi ?_
  refine A_if_ne 17 d_Str_isLatin1_10 (by decide) (fun z => absurd rfl z) (fun z => ?_)
  refine A_iconst 1 (by decide) d_Str_isLatin1_13 ?_
  refine A_goto 18 d_Str_isLatin1_14 (by decide) ?_
  exact A_iret d_Str_isLatin1_18 rfl rfl H
theorem ok_Str_length {Q : Int32 → AH → Prop} {a : Nat} (H : p_Str_length Q a h) : WP G T m_Str_length (d + 1) [.ref a] h 0 0 (iQ Q) := by
  obtain ⟨i, rfl, hi, H⟩ := H
  refine WP.enter 0 (by decide) rfl rfl ?_
  refine A_aload_n d_Str_length_0 rfl ?_
  refine A_strV d_Str_length_1 (tG 1289 (by decide +kernel) (by decide +kernel)) hi ?_
  refine A_strN d_Str_length_4 hi ?_
  refine A_aload_n d_Str_length_5 rfl ?_
  refine A_cI [.ref (1000000 + i)] [.int (Int32.ofNat (strLen.getD i 0))] (ct_Str_335 rfl) d_Str_length_6 rfl rfl (by decide) (Nat.le_of_ble_eq_true rfl) (rcA_s rfl hi) (w_Str_coder (Q := fun r h' => r = 0 ∧ h' = h) hi ⟨rfl, rfl⟩) (fun r h' z => ?_)
  obtain ⟨rfl, rfl⟩ := z
  refine A_ishr d_Str_length_9 ?_
  refine A_iret d_Str_length_10 rfl rfl ?_
  have e : Int32.ofNat (strLen.getD i 0) >>> ((0 : Int32) &&& 31) = Int32.ofNat (strLen.getD i 0) := by
    have : ∀ i, i < 13 → Int32.ofNat (strLen.getD i 0) >>> ((0 : Int32) &&& 31) = Int32.ofNat (strLen.getD i 0) := by decide +kernel
    exact this i hi
  rw [e]
  exact H
theorem w_Prec_checkIndex {Q : Int32 → AH → Prop} {j n : Int32} {w : Value} (hw : w = .null ∨ w = .ref (1000000 + 300)) (h0 : 0 ≤ j) (hn : j < n) (H : Q j h) : WP G T m_Prec_checkIndex d [.int j, .int n, w] h 0 0 (iQ Q) := by
  have e : lay0 [.int j, .int n, w] ++ List.replicate 0 none = [some (.int j), some (.int n), some w] := by
    rcases hw with rfl | rfl <;> rfl
  refine WP.enter 0 (by decide) rfl (by rcases hw with rfl | rfl <;> rfl) ?_
  rw [e]
  refine A_iload_n d_Prec_checkIndex_0 rfl ?_
  refine A_if_lt 9 d_Prec_checkIndex_1 (by decide) (fun z => absurd z (Int32.not_lt.mpr h0)) (fun z => ?_)
  refine A_iload_n d_Prec_checkIndex_4 rfl ?_
  refine A_iload_n d_Prec_checkIndex_5 rfl ?_
  refine A_icmp_lt 16 d_Prec_checkIndex_6 (by decide) (fun z => ?_) (fun z => absurd hn z)
  refine A_iload_n d_Prec_checkIndex_16 rfl ?_
  exact A_iret d_Prec_checkIndex_17 rfl rfl H
theorem w_Str_checkIndex {Q : AH → Prop} {j n : Int32} (h0 : 0 ≤ j) (hn : j < n) (H : Q h) : WP G T m_Str_checkIndex (d + 1) [.int j, .int n] h 0 0 (vQ Q) := by
  refine WP.enter 0 (by decide) rfl rfl ?_
  refine A_iload_n d_Str_checkIndex_0 rfl ?_
  refine A_iload_n d_Str_checkIndex_1 rfl ?_
  refine A_gstF d_Str_checkIndex_2 (tG 227 (by decide +kernel) (by decide +kernel)) (fun w hw => ?_)
  refine A_cI [.int j, .int n, w] [] (ct_Str_1059 rfl) d_Str_checkIndex_5 (by rcases hw with rfl | rfl <;> rfl) rfl (by decide) (Nat.le_of_ble_eq_true rfl) trivial (w_Prec_checkIndex (Q := fun r h' => h' = h) hw h0 hn rfl) (fun r h' z => ?_)
  subst z
  refine A_pop rfl d_Str_checkIndex_8 ?_
  exact A_ret d_Str_checkIndex_9 rfl H
theorem w_Lat_charAt {Q : Int32 → AH → Prop} {i : Nat} {j : Int32} (hi : i < 13) (hj : inb j (strLen.getD i 0)) (H : Q (chS i j) h) : WP G T m_Lat_charAt (d + 2) [.ref (1000000 + (100 + i)), .int j] h 0 0 (iQ Q) := by
  obtain ⟨h1, h2, -⟩ := strB_ok i hi
  have hlen : (Int32.ofNat (strLen.getD i 0)).toInt = (strLen.getD i 0 : Nat) := nI_toInt (by omega)
  refine WP.enter 0 (by decide) rfl rfl ?_
  refine A_iload_n d_Lat_charAt_0 rfl ?_
  refine A_aload_n d_Lat_charAt_1 rfl ?_
  refine A_strN d_Lat_charAt_2 hi ?_
  refine A_cV [.int j, .int (Int32.ofNat (strLen.getD i 0))] [] (ct_Lat_9 rfl) d_Lat_charAt_3 rfl rfl (by decide) (Nat.le_of_ble_eq_true rfl) trivial (w_Str_checkIndex (Q := fun h' => h' = h) (by rw [Int32.le_iff_toInt_le]; simpa using hj.1) (by rw [Int32.lt_iff_toInt_lt, hlen]; exact hj.2) rfl) (fun h' z => ?_)
  subst z
  refine A_aload_n d_Lat_charAt_6 rfl ?_
  refine A_iload_n d_Lat_charAt_7 rfl ?_
  refine A_strB d_Lat_charAt_8 hi hj ?_
  refine A_sipush 255 (by decide) d_Lat_charAt_9 ?_
  refine A_iand d_Lat_charAt_12 ?_
  refine A_i2c d_Lat_charAt_13 ?_
  have hc := chS_ok hi hj
  have e : (((strByt.getD i []).getD j.toNatClampNeg 0 &&& 255).toUInt32 % 65536).toInt32 = chS i j := hc.1
  rw [e]
  exact A_iret d_Lat_charAt_14 rfl hc.2 H
theorem ok_Str_charAt {Q : Int32 → AH → Prop} {a : Nat} {j : Int32} (H : p_Str_charAt Q a j h) : WP G T m_Str_charAt (d + 3) [.ref a, .int j] h 0 0 (iQ Q) := by
  obtain ⟨i, rfl, hi, hj, H⟩ := H
  refine WP.enter 0 (by decide) rfl rfl ?_
  refine A_aload_n d_Str_charAt_0 rfl ?_
  refine A_cI (d := d + 2) [.ref (1000000 + i)] [] (ct_Str_492 rfl) d_Str_charAt_1 rfl rfl (by decide) (Nat.le_of_ble_eq_true rfl) (rcA_s rfl hi) (w_Str_isLatin1 (Q := fun r h' => r = 1 ∧ h' = h) hi ⟨rfl, rfl⟩) (fun r h' z => ?_)
  obtain ⟨rfl, rfl⟩ := z
  refine A_if_eq 16 d_Str_charAt_4 (by decide) (fun z => absurd z (by decide)) (fun z => ?_)
  refine A_aload_n d_Str_charAt_7 rfl ?_
  refine A_strV d_Str_charAt_8 (tG 1289 (by decide +kernel) (by decide +kernel)) hi ?_
  refine A_iload_n d_Str_charAt_11 rfl ?_
  refine A_cI (d := d + 2) [.ref (1000000 + (100 + i)), .int j] [] (ct_Str_495 rfl) d_Str_charAt_12 rfl rfl (by decide) (Nat.le_of_ble_eq_true rfl) trivial (w_Lat_charAt (Q := fun r h'' => r = chS i j ∧ h'' = h') hi hj ⟨rfl, rfl⟩) (fun r h'' z => ?_)
  obtain ⟨rfl, rfl⟩ := z
  exact A_iret d_Str_charAt_15 rfl (chS_ok hi hj).2 H
end STRS
