/-! the houses: what each kind answers; String constants (printed by wip/gen/house.py) -/
theorem d_House_weighsBy_0 : decode prog_6_method_2_code 0 = .ok (.iload_n 1, 1) := by decide +kernel
theorem d_House_weighsBy_1 : decode prog_6_method_2_code 1 = .ok (.ireturn, 1) := by decide +kernel
theorem d_House_holdsBy_0 : decode prog_6_method_3_code 0 = .ok (.iload_n 1, 1) := by decide +kernel
theorem d_House_holdsBy_1 : decode prog_6_method_3_code 1 = .ok (.ireturn, 1) := by decide +kernel
theorem d_House_isFree_0 : decode prog_6_method_4_code 0 = .ok (.iconst 1, 1) := by decide +kernel
theorem d_House_isFree_1 : decode prog_6_method_4_code 1 = .ok (.ireturn, 1) := by decide +kernel
theorem d_House_isOf_0 : decode prog_6_method_5_code 0 = .ok (.iload_n 1, 1) := by decide +kernel
theorem d_House_isOf_1 : decode prog_6_method_5_code 1 = .ok (.tableswitch 66 0 5 #[39, 41, 46, 51, 56, 61], 39) := by decide +kernel
theorem d_House_isOf_40 : decode prog_6_method_5_code 40 = .ok (.iconst 1, 1) := by decide +kernel
theorem d_House_isOf_41 : decode prog_6_method_5_code 41 = .ok (.ireturn, 1) := by decide +kernel
theorem d_House_isOf_42 : decode prog_6_method_5_code 42 = .ok (.aload_n 0, 1) := by decide +kernel
theorem d_House_isOf_43 : decode prog_6_method_5_code 43 = .ok (.instanceof 19, 3) := by decide +kernel
theorem d_House_isOf_46 : decode prog_6_method_5_code 46 = .ok (.ireturn, 1) := by decide +kernel
theorem d_House_isOf_47 : decode prog_6_method_5_code 47 = .ok (.aload_n 0, 1) := by decide +kernel
theorem d_House_isOf_48 : decode prog_6_method_5_code 48 = .ok (.instanceof 21, 3) := by decide +kernel
theorem d_House_isOf_51 : decode prog_6_method_5_code 51 = .ok (.ireturn, 1) := by decide +kernel
theorem d_House_isOf_52 : decode prog_6_method_5_code 52 = .ok (.aload_n 0, 1) := by decide +kernel
theorem d_House_isOf_53 : decode prog_6_method_5_code 53 = .ok (.instanceof 23, 3) := by decide +kernel
theorem d_House_isOf_56 : decode prog_6_method_5_code 56 = .ok (.ireturn, 1) := by decide +kernel
theorem d_House_isOf_57 : decode prog_6_method_5_code 57 = .ok (.aload_n 0, 1) := by decide +kernel
theorem d_House_isOf_58 : decode prog_6_method_5_code 58 = .ok (.instanceof 25, 3) := by decide +kernel
theorem d_House_isOf_61 : decode prog_6_method_5_code 61 = .ok (.ireturn, 1) := by decide +kernel
theorem d_House_isOf_62 : decode prog_6_method_5_code 62 = .ok (.aload_n 0, 1) := by decide +kernel
theorem d_House_isOf_63 : decode prog_6_method_5_code 63 = .ok (.instanceof 27, 3) := by decide +kernel
theorem d_House_isOf_66 : decode prog_6_method_5_code 66 = .ok (.ireturn, 1) := by decide +kernel
theorem d_House_isOf_67 : decode prog_6_method_5_code 67 = .ok (.iconst 0, 1) := by decide +kernel
theorem d_House_isOf_68 : decode prog_6_method_5_code 68 = .ok (.ireturn, 1) := by decide +kernel
theorem d_Heavy_weighsBy_0 : decode prog_5_method_2_code 0 = .ok (.aload_n 0, 1) := by decide +kernel
theorem d_Heavy_weighsBy_1 : decode prog_5_method_2_code 1 = .ok (.iload_n 1, 1) := by decide +kernel
theorem d_Heavy_weighsBy_2 : decode prog_5_method_2_code 2 = .ok (.iload_n 2, 1) := by decide +kernel
theorem d_Heavy_weighsBy_3 : decode prog_5_method_2_code 3 = .ok (.invokespecial 7, 3) := by decide +kernel
theorem d_Heavy_weighsBy_6 : decode prog_5_method_2_code 6 = .ok (.iconst 3, 1) := by decide +kernel
theorem d_Heavy_weighsBy_7 : decode prog_5_method_2_code 7 = .ok (.aload_n 0, 1) := by decide +kernel
theorem d_Heavy_weighsBy_8 : decode prog_5_method_2_code 8 = .ok (.getfield 11, 3) := by decide +kernel
theorem d_Heavy_weighsBy_11 : decode prog_5_method_2_code 11 = .ok (.imul, 1) := by decide +kernel
theorem d_Heavy_weighsBy_12 : decode prog_5_method_2_code 12 = .ok (.iadd, 1) := by decide +kernel
theorem d_Heavy_weighsBy_13 : decode prog_5_method_2_code 13 = .ok (.ireturn, 1) := by decide +kernel
theorem d_Braked_holdsBy_0 : decode prog_3_method_2_code 0 = .ok (.aload_n 0, 1) := by decide +kernel
theorem d_Braked_holdsBy_1 : decode prog_3_method_2_code 1 = .ok (.iload_n 1, 1) := by decide +kernel
theorem d_Braked_holdsBy_2 : decode prog_3_method_2_code 2 = .ok (.invokespecial 7, 3) := by decide +kernel
theorem d_Braked_holdsBy_5 : decode prog_3_method_2_code 5 = .ok (.aload_n 0, 1) := by decide +kernel
theorem d_Braked_holdsBy_6 : decode prog_3_method_2_code 6 = .ok (.getfield 11, 3) := by decide +kernel
theorem d_Braked_holdsBy_9 : decode prog_3_method_2_code 9 = .ok (.iadd, 1) := by decide +kernel
theorem d_Braked_holdsBy_10 : decode prog_3_method_2_code 10 = .ok (.ireturn, 1) := by decide +kernel
theorem d_Aunt_weighsBy_0 : decode prog_2_method_2_code 0 = .ok (.aload_n 0, 1) := by decide +kernel
theorem d_Aunt_weighsBy_1 : decode prog_2_method_2_code 1 = .ok (.iload_n 1, 1) := by decide +kernel
theorem d_Aunt_weighsBy_2 : decode prog_2_method_2_code 2 = .ok (.iload_n 2, 1) := by decide +kernel
theorem d_Aunt_weighsBy_3 : decode prog_2_method_2_code 3 = .ok (.invokespecial 7, 3) := by decide +kernel
theorem d_Aunt_weighsBy_6 : decode prog_2_method_2_code 6 = .ok (.istore_n 3, 1) := by decide +kernel
theorem d_Aunt_weighsBy_7 : decode prog_2_method_2_code 7 = .ok (.iload_n 2, 1) := by decide +kernel
theorem d_Aunt_weighsBy_8 : decode prog_2_method_2_code 8 = .ok (.iconst 5, 1) := by decide +kernel
theorem d_Aunt_weighsBy_9 : decode prog_2_method_2_code 9 = .ok (.if_icmp .ge 9, 3) := by decide +kernel
theorem d_Aunt_weighsBy_12 : decode prog_2_method_2_code 12 = .ok (.iconst 2, 1) := by decide +kernel
theorem d_Aunt_weighsBy_13 : decode prog_2_method_2_code 13 = .ok (.iload_n 3, 1) := by decide +kernel
theorem d_Aunt_weighsBy_14 : decode prog_2_method_2_code 14 = .ok (.imul, 1) := by decide +kernel
theorem d_Aunt_weighsBy_15 : decode prog_2_method_2_code 15 = .ok (.goto 4, 3) := by decide +kernel
theorem d_Aunt_weighsBy_18 : decode prog_2_method_2_code 18 = .ok (.iload_n 3, 1) := by decide +kernel
theorem d_Aunt_weighsBy_19 : decode prog_2_method_2_code 19 = .ok (.ireturn, 1) := by decide +kernel
theorem d_Stuck_isFree_0 : decode prog_11_method_2_code 0 = .ok (.iload_n 1, 1) := by decide +kernel
theorem d_Stuck_isFree_1 : decode prog_11_method_2_code 1 = .ok (.aload_n 0, 1) := by decide +kernel
theorem d_Stuck_isFree_2 : decode prog_11_method_2_code 2 = .ok (.getfield 7, 3) := by decide +kernel
theorem d_Stuck_isFree_5 : decode prog_11_method_2_code 5 = .ok (.if_icmp .eq 7, 3) := by decide +kernel
theorem d_Stuck_isFree_8 : decode prog_11_method_2_code 8 = .ok (.iconst 1, 1) := by decide +kernel
theorem d_Stuck_isFree_9 : decode prog_11_method_2_code 9 = .ok (.goto 4, 3) := by decide +kernel
theorem d_Stuck_isFree_12 : decode prog_11_method_2_code 12 = .ok (.iconst 0, 1) := by decide +kernel
theorem d_Stuck_isFree_13 : decode prog_11_method_2_code 13 = .ok (.ireturn, 1) := by decide +kernel
theorem d_Late_weighsBy_0 : decode prog_7_method_2_code 0 = .ok (.aload_n 0, 1) := by decide +kernel
theorem d_Late_weighsBy_1 : decode prog_7_method_2_code 1 = .ok (.iload_n 1, 1) := by decide +kernel
theorem d_Late_weighsBy_2 : decode prog_7_method_2_code 2 = .ok (.iload_n 2, 1) := by decide +kernel
theorem d_Late_weighsBy_3 : decode prog_7_method_2_code 3 = .ok (.invokespecial 7, 3) := by decide +kernel
theorem d_Late_weighsBy_6 : decode prog_7_method_2_code 6 = .ok (.iload_n 2, 1) := by decide +kernel
theorem d_Late_weighsBy_7 : decode prog_7_method_2_code 7 = .ok (.iadd, 1) := by decide +kernel
theorem d_Late_weighsBy_8 : decode prog_7_method_2_code 8 = .ok (.ireturn, 1) := by decide +kernel
theorem d_Late_isFree_0 : decode prog_7_method_3_code 0 = .ok (.iload_n 2, 1) := by decide +kernel
theorem d_Late_isFree_1 : decode prog_7_method_3_code 1 = .ok (.aload_n 0, 1) := by decide +kernel
theorem d_Late_isFree_2 : decode prog_7_method_3_code 2 = .ok (.getfield 11, 3) := by decide +kernel
theorem d_Late_isFree_5 : decode prog_7_method_3_code 5 = .ok (.if_icmp .lt 7, 3) := by decide +kernel
theorem d_Late_isFree_8 : decode prog_7_method_3_code 8 = .ok (.iconst 1, 1) := by decide +kernel
theorem d_Late_isFree_9 : decode prog_7_method_3_code 9 = .ok (.goto 4, 3) := by decide +kernel
theorem d_Late_isFree_12 : decode prog_7_method_3_code 12 = .ok (.iconst 0, 1) := by decide +kernel
theorem d_Late_isFree_13 : decode prog_7_method_3_code 13 = .ok (.ireturn, 1) := by decide +kernel
def kW (c : Nat) (more said high : Int32) : Int32 := if c = 3 then said + 3 * more else if c = 0 then (if high < 5 then 2 * (said + 3 * more) else said + 3 * more) else if c = 5 then said + high else said
def kH (c : Nat) (more said : Int32) : Int32 := if c = 1 ∨ c = 9 then said + more else said
def kF (c : Nat) (more high minute : Int32) : Int32 := if c = 9 then (if high = more then 0 else 1) else if c = 5 then (if minute < more then 0 else 1) else 1
def kO (c : Nat) (asked : Int32) : Int32 := if asked = 0 then 1 else if asked = 1 then (if subB c 3 then 1 else 0) else if asked = 2 then (if subB c 1 then 1 else 0) else if asked = 3 then (if subB c 0 then 1 else 0) else if asked = 4 then (if subB c 9 then 1 else 0) else if asked = 5 then (if subB c 5 then 1 else 0) else 0
def pv_weighsBy (Q : Int32 → AH → Prop) (a : Nat) (said high : Int32) (h : AH) : Prop := famA T1 h a ∧ Q (kW (rS T1 h a).1 (h.1 a 2) said high) h
def pv_holdsBy (Q : Int32 → AH → Prop) (a : Nat) (said : Int32) (h : AH) : Prop := famA T1 h a ∧ Q (kH (rS T1 h a).1 (h.1 a 2) said) h
def pv_isFree (Q : Int32 → AH → Prop) (a : Nat) (high minute : Int32) (h : AH) : Prop := famA T1 h a ∧ Q (kF (rS T1 h a).1 (h.1 a 2) high minute) h
def pv_isOf (Q : Int32 → AH → Prop) (a : Nat) (asked : Int32) (h : AH) : Prop := famA T1 h a ∧ Q (kO (rS T1 h a).1 asked) h
theorem ctsu_Heavy_7_Heavy {q : MM} (hq : q.1 = R_Heavy) : CallTo q m_House_weighsBy (.invokespecial 7) 3 (some (some R_Heavy)) := ct_SU (k := 3) (r := (R_Heavy, F_Heavy, 3)) (by rw [hq]; exact tG 593 (by decide +kernel) (by decide +kernel)) (tG 586 (by decide +kernel) (by decide +kernel)) (by rw [hq]; exact tG 479 (by decide +kernel) (by decide +kernel)) (tG 584 (by decide +kernel) (by decide +kernel)) (tG 5 (by decide +kernel) (by decide +kernel)) (tG 601 (by decide +kernel) (by decide +kernel)) (by decide) (by decide +kernel) rfl
theorem ctsu_Heavy_7_Aunt {q : MM} (hq : q.1 = R_Heavy) : CallTo q m_House_weighsBy (.invokespecial 7) 3 (some (some R_Aunt)) := ct_SU (k := 0) (r := (R_Aunt, F_Aunt, 3)) (by rw [hq]; exact tG 593 (by decide +kernel) (by decide +kernel)) (tG 586 (by decide +kernel) (by decide +kernel)) (by rw [hq]; exact tG 479 (by decide +kernel) (by decide +kernel)) (tG 584 (by decide +kernel) (by decide +kernel)) (tG 5 (by decide +kernel) (by decide +kernel)) (tG 601 (by decide +kernel) (by decide +kernel)) (by decide) (by decide +kernel) rfl
theorem ctsu_Aunt_7_Aunt {q : MM} (hq : q.1 = R_Aunt) : CallTo q m_Heavy_weighsBy (.invokespecial 7) 3 (some (some R_Aunt)) := ct_SU (k := 0) (r := (R_Aunt, F_Aunt, 3)) (by rw [hq]; exact tG 590 (by decide +kernel) (by decide +kernel)) (tG 1281 (by decide +kernel) (by decide +kernel)) (by rw [hq]; exact tG 499 (by decide +kernel) (by decide +kernel)) (tG 591 (by decide +kernel) (by decide +kernel)) (tG 15 (by decide +kernel) (by decide +kernel)) (tG 592 (by decide +kernel) (by decide +kernel)) (by decide) (by decide +kernel) rfl
theorem ctsu_Late_7_Late {q : MM} (hq : q.1 = R_Late) : CallTo q m_House_weighsBy (.invokespecial 7) 3 (some (some R_Late)) := ct_SU (k := 5) (r := (R_Late, F_Late, 3)) (by rw [hq]; exact tG 599 (by decide +kernel) (by decide +kernel)) (tG 586 (by decide +kernel) (by decide +kernel)) (by rw [hq]; exact tG 519 (by decide +kernel) (by decide +kernel)) (tG 584 (by decide +kernel) (by decide +kernel)) (tG 5 (by decide +kernel) (by decide +kernel)) (tG 601 (by decide +kernel) (by decide +kernel)) (by decide) (by decide +kernel) rfl
theorem ctsu_Braked_7_Braked {q : MM} (hq : q.1 = R_Braked) : CallTo q m_House_holdsBy (.invokespecial 7) 2 (some (some R_Braked)) := ct_SU (k := 1) (r := (R_Braked, F_Braked, 3)) (by rw [hq]; exact tG 614 (by decide +kernel) (by decide +kernel)) (tG 609 (by decide +kernel) (by decide +kernel)) (by rw [hq]; exact tG 489 (by decide +kernel) (by decide +kernel)) (tG 607 (by decide +kernel) (by decide +kernel)) (tG 5 (by decide +kernel) (by decide +kernel)) (tG 618 (by decide +kernel) (by decide +kernel)) (by decide) (by decide +kernel) rfl
theorem ctsu_Braked_7_Stuck {q : MM} (hq : q.1 = R_Braked) : CallTo q m_House_holdsBy (.invokespecial 7) 2 (some (some R_Stuck)) := ct_SU (k := 9) (r := (R_Stuck, F_Stuck, 3)) (by rw [hq]; exact tG 614 (by decide +kernel) (by decide +kernel)) (tG 609 (by decide +kernel) (by decide +kernel)) (by rw [hq]; exact tG 489 (by decide +kernel) (by decide +kernel)) (tG 607 (by decide +kernel) (by decide +kernel)) (tG 5 (by decide +kernel) (by decide +kernel)) (tG 618 (by decide +kernel) (by decide +kernel)) (by decide) (by decide +kernel) rfl
theorem ctv_Dusk_81_House {q : MM} (hq : q.1 = R_Dusk) : CallTo q m_House_isFree (.invokevirtual 81) 3 (some (some R_House)) := ct_O (owner := "UpperFloors$House") (x := ⟨"UpperFloors$House", "isFree", "(II)Z"⟩) (b0 := prog_6_method_4_code) (m0 := 3) (r0 := (some .boolean)) (by rw [hq]; exact tG 564 (by decide +kernel) (by decide +kernel)) (tG 567 (by decide +kernel) (by decide +kernel)) (tG 565 (by decide +kernel) (by decide +kernel)) (tG 566 (by decide +kernel) (by decide +kernel)) (tG 565 (by decide +kernel) (by decide +kernel)) (tG 5 (by decide +kernel) (by decide +kernel)) (tG 577 (by decide +kernel) (by decide +kernel)) (tG 577 (by decide +kernel) (by decide +kernel)) (by decide +kernel)
theorem ctv_Dusk_81_Heavy {q : MM} (hq : q.1 = R_Dusk) : CallTo q m_House_isFree (.invokevirtual 81) 3 (some (some R_Heavy)) := ct_O (owner := "UpperFloors$House") (x := ⟨"UpperFloors$House", "isFree", "(II)Z"⟩) (b0 := prog_6_method_4_code) (m0 := 3) (r0 := (some .boolean)) (by rw [hq]; exact tG 564 (by decide +kernel) (by decide +kernel)) (tG 567 (by decide +kernel) (by decide +kernel)) (tG 565 (by decide +kernel) (by decide +kernel)) (tG 570 (by decide +kernel) (by decide +kernel)) (tG 565 (by decide +kernel) (by decide +kernel)) (tG 5 (by decide +kernel) (by decide +kernel)) (tG 577 (by decide +kernel) (by decide +kernel)) (tG 577 (by decide +kernel) (by decide +kernel)) (by decide +kernel)
theorem ctv_Dusk_81_Braked {q : MM} (hq : q.1 = R_Dusk) : CallTo q m_House_isFree (.invokevirtual 81) 3 (some (some R_Braked)) := ct_O (owner := "UpperFloors$House") (x := ⟨"UpperFloors$House", "isFree", "(II)Z"⟩) (b0 := prog_6_method_4_code) (m0 := 3) (r0 := (some .boolean)) (by rw [hq]; exact tG 564 (by decide +kernel) (by decide +kernel)) (tG 567 (by decide +kernel) (by decide +kernel)) (tG 565 (by decide +kernel) (by decide +kernel)) (tG 569 (by decide +kernel) (by decide +kernel)) (tG 565 (by decide +kernel) (by decide +kernel)) (tG 5 (by decide +kernel) (by decide +kernel)) (tG 577 (by decide +kernel) (by decide +kernel)) (tG 577 (by decide +kernel) (by decide +kernel)) (by decide +kernel)
theorem ctv_Dusk_81_Aunt {q : MM} (hq : q.1 = R_Dusk) : CallTo q m_House_isFree (.invokevirtual 81) 3 (some (some R_Aunt)) := ct_O (owner := "UpperFloors$House") (x := ⟨"UpperFloors$House", "isFree", "(II)Z"⟩) (b0 := prog_6_method_4_code) (m0 := 3) (r0 := (some .boolean)) (by rw [hq]; exact tG 564 (by decide +kernel) (by decide +kernel)) (tG 567 (by decide +kernel) (by decide +kernel)) (tG 565 (by decide +kernel) (by decide +kernel)) (tG 568 (by decide +kernel) (by decide +kernel)) (tG 565 (by decide +kernel) (by decide +kernel)) (tG 5 (by decide +kernel) (by decide +kernel)) (tG 577 (by decide +kernel) (by decide +kernel)) (tG 577 (by decide +kernel) (by decide +kernel)) (by decide +kernel)
theorem ctv_Dusk_81_Stuck {q : MM} (hq : q.1 = R_Dusk) : CallTo q m_Stuck_isFree (.invokevirtual 81) 3 (some (some R_Stuck)) := ct_O (owner := "UpperFloors$House") (x := ⟨"UpperFloors$House", "isFree", "(II)Z"⟩) (b0 := prog_6_method_4_code) (m0 := 3) (r0 := (some .boolean)) (by rw [hq]; exact tG 564 (by decide +kernel) (by decide +kernel)) (tG 567 (by decide +kernel) (by decide +kernel)) (tG 565 (by decide +kernel) (by decide +kernel)) (tG 574 (by decide +kernel) (by decide +kernel)) (tG 575 (by decide +kernel) (by decide +kernel)) (tG 18 (by decide +kernel) (by decide +kernel)) (tG 576 (by decide +kernel) (by decide +kernel)) (tG 577 (by decide +kernel) (by decide +kernel)) (by decide +kernel)
theorem ctv_Dusk_81_Late {q : MM} (hq : q.1 = R_Dusk) : CallTo q m_Late_isFree (.invokevirtual 81) 3 (some (some R_Late)) := ct_O (owner := "UpperFloors$House") (x := ⟨"UpperFloors$House", "isFree", "(II)Z"⟩) (b0 := prog_6_method_4_code) (m0 := 3) (r0 := (some .boolean)) (by rw [hq]; exact tG 564 (by decide +kernel) (by decide +kernel)) (tG 567 (by decide +kernel) (by decide +kernel)) (tG 565 (by decide +kernel) (by decide +kernel)) (tG 571 (by decide +kernel) (by decide +kernel)) (tG 572 (by decide +kernel) (by decide +kernel)) (tG 19 (by decide +kernel) (by decide +kernel)) (tG 573 (by decide +kernel) (by decide +kernel)) (tG 577 (by decide +kernel) (by decide +kernel)) (by decide +kernel)
theorem ctv_Dusk_109_House {q : MM} (hq : q.1 = R_Dusk) : CallTo q m_House_weighsBy (.invokevirtual 109) 3 (some (some R_House)) := ct_O (owner := "UpperFloors$House") (x := ⟨"UpperFloors$House", "weighsBy", "(II)I"⟩) (b0 := prog_6_method_2_code) (m0 := 3) (r0 := (some .int)) (by rw [hq]; exact tG 583 (by decide +kernel) (by decide +kernel)) (tG 586 (by decide +kernel) (by decide +kernel)) (tG 584 (by decide +kernel) (by decide +kernel)) (tG 585 (by decide +kernel) (by decide +kernel)) (tG 584 (by decide +kernel) (by decide +kernel)) (tG 5 (by decide +kernel) (by decide +kernel)) (tG 601 (by decide +kernel) (by decide +kernel)) (tG 601 (by decide +kernel) (by decide +kernel)) (by decide +kernel)
theorem ctv_Dusk_109_Heavy {q : MM} (hq : q.1 = R_Dusk) : CallTo q m_Heavy_weighsBy (.invokevirtual 109) 3 (some (some R_Heavy)) := ct_O (owner := "UpperFloors$House") (x := ⟨"UpperFloors$House", "weighsBy", "(II)I"⟩) (b0 := prog_6_method_2_code) (m0 := 3) (r0 := (some .int)) (by rw [hq]; exact tG 583 (by decide +kernel) (by decide +kernel)) (tG 586 (by decide +kernel) (by decide +kernel)) (tG 584 (by decide +kernel) (by decide +kernel)) (tG 595 (by decide +kernel) (by decide +kernel)) (tG 591 (by decide +kernel) (by decide +kernel)) (tG 15 (by decide +kernel) (by decide +kernel)) (tG 592 (by decide +kernel) (by decide +kernel)) (tG 601 (by decide +kernel) (by decide +kernel)) (by decide +kernel)
theorem ctv_Dusk_109_Braked {q : MM} (hq : q.1 = R_Dusk) : CallTo q m_House_weighsBy (.invokevirtual 109) 3 (some (some R_Braked)) := ct_O (owner := "UpperFloors$House") (x := ⟨"UpperFloors$House", "weighsBy", "(II)I"⟩) (b0 := prog_6_method_2_code) (m0 := 3) (r0 := (some .int)) (by rw [hq]; exact tG 583 (by decide +kernel) (by decide +kernel)) (tG 586 (by decide +kernel) (by decide +kernel)) (tG 584 (by decide +kernel) (by decide +kernel)) (tG 594 (by decide +kernel) (by decide +kernel)) (tG 584 (by decide +kernel) (by decide +kernel)) (tG 5 (by decide +kernel) (by decide +kernel)) (tG 601 (by decide +kernel) (by decide +kernel)) (tG 601 (by decide +kernel) (by decide +kernel)) (by decide +kernel)
theorem ctv_Dusk_109_Aunt {q : MM} (hq : q.1 = R_Dusk) : CallTo q m_Aunt_weighsBy (.invokevirtual 109) 3 (some (some R_Aunt)) := ct_O (owner := "UpperFloors$House") (x := ⟨"UpperFloors$House", "weighsBy", "(II)I"⟩) (b0 := prog_6_method_2_code) (m0 := 3) (r0 := (some .int)) (by rw [hq]; exact tG 583 (by decide +kernel) (by decide +kernel)) (tG 586 (by decide +kernel) (by decide +kernel)) (tG 584 (by decide +kernel) (by decide +kernel)) (tG 587 (by decide +kernel) (by decide +kernel)) (tG 588 (by decide +kernel) (by decide +kernel)) (tG 17 (by decide +kernel) (by decide +kernel)) (tG 589 (by decide +kernel) (by decide +kernel)) (tG 601 (by decide +kernel) (by decide +kernel)) (by decide +kernel)
theorem ctv_Dusk_109_Stuck {q : MM} (hq : q.1 = R_Dusk) : CallTo q m_House_weighsBy (.invokevirtual 109) 3 (some (some R_Stuck)) := ct_O (owner := "UpperFloors$House") (x := ⟨"UpperFloors$House", "weighsBy", "(II)I"⟩) (b0 := prog_6_method_2_code) (m0 := 3) (r0 := (some .int)) (by rw [hq]; exact tG 583 (by decide +kernel) (by decide +kernel)) (tG 586 (by decide +kernel) (by decide +kernel)) (tG 584 (by decide +kernel) (by decide +kernel)) (tG 600 (by decide +kernel) (by decide +kernel)) (tG 584 (by decide +kernel) (by decide +kernel)) (tG 5 (by decide +kernel) (by decide +kernel)) (tG 601 (by decide +kernel) (by decide +kernel)) (tG 601 (by decide +kernel) (by decide +kernel)) (by decide +kernel)
theorem ctv_Dusk_109_Late {q : MM} (hq : q.1 = R_Dusk) : CallTo q m_Late_weighsBy (.invokevirtual 109) 3 (some (some R_Late)) := ct_O (owner := "UpperFloors$House") (x := ⟨"UpperFloors$House", "weighsBy", "(II)I"⟩) (b0 := prog_6_method_2_code) (m0 := 3) (r0 := (some .int)) (by rw [hq]; exact tG 583 (by decide +kernel) (by decide +kernel)) (tG 586 (by decide +kernel) (by decide +kernel)) (tG 584 (by decide +kernel) (by decide +kernel)) (tG 596 (by decide +kernel) (by decide +kernel)) (tG 597 (by decide +kernel) (by decide +kernel)) (tG 19 (by decide +kernel) (by decide +kernel)) (tG 598 (by decide +kernel) (by decide +kernel)) (tG 601 (by decide +kernel) (by decide +kernel)) (by decide +kernel)
theorem ctv_Dusk_112_House {q : MM} (hq : q.1 = R_Dusk) : CallTo q m_House_holdsBy (.invokevirtual 112) 2 (some (some R_House)) := ct_O (owner := "UpperFloors$House") (x := ⟨"UpperFloors$House", "holdsBy", "(I)I"⟩) (b0 := prog_6_method_3_code) (m0 := 2) (r0 := (some .int)) (by rw [hq]; exact tG 606 (by decide +kernel) (by decide +kernel)) (tG 609 (by decide +kernel) (by decide +kernel)) (tG 607 (by decide +kernel) (by decide +kernel)) (tG 608 (by decide +kernel) (by decide +kernel)) (tG 607 (by decide +kernel) (by decide +kernel)) (tG 5 (by decide +kernel) (by decide +kernel)) (tG 618 (by decide +kernel) (by decide +kernel)) (tG 618 (by decide +kernel) (by decide +kernel)) (by decide +kernel)
theorem ctv_Dusk_112_Heavy {q : MM} (hq : q.1 = R_Dusk) : CallTo q m_House_holdsBy (.invokevirtual 112) 2 (some (some R_Heavy)) := ct_O (owner := "UpperFloors$House") (x := ⟨"UpperFloors$House", "holdsBy", "(I)I"⟩) (b0 := prog_6_method_3_code) (m0 := 2) (r0 := (some .int)) (by rw [hq]; exact tG 606 (by decide +kernel) (by decide +kernel)) (tG 609 (by decide +kernel) (by decide +kernel)) (tG 607 (by decide +kernel) (by decide +kernel)) (tG 615 (by decide +kernel) (by decide +kernel)) (tG 607 (by decide +kernel) (by decide +kernel)) (tG 5 (by decide +kernel) (by decide +kernel)) (tG 618 (by decide +kernel) (by decide +kernel)) (tG 618 (by decide +kernel) (by decide +kernel)) (by decide +kernel)
theorem ctv_Dusk_112_Braked {q : MM} (hq : q.1 = R_Dusk) : CallTo q m_Braked_holdsBy (.invokevirtual 112) 2 (some (some R_Braked)) := ct_O (owner := "UpperFloors$House") (x := ⟨"UpperFloors$House", "holdsBy", "(I)I"⟩) (b0 := prog_6_method_3_code) (m0 := 2) (r0 := (some .int)) (by rw [hq]; exact tG 606 (by decide +kernel) (by decide +kernel)) (tG 609 (by decide +kernel) (by decide +kernel)) (tG 607 (by decide +kernel) (by decide +kernel)) (tG 611 (by decide +kernel) (by decide +kernel)) (tG 612 (by decide +kernel) (by decide +kernel)) (tG 16 (by decide +kernel) (by decide +kernel)) (tG 613 (by decide +kernel) (by decide +kernel)) (tG 618 (by decide +kernel) (by decide +kernel)) (by decide +kernel)
theorem ctv_Dusk_112_Aunt {q : MM} (hq : q.1 = R_Dusk) : CallTo q m_House_holdsBy (.invokevirtual 112) 2 (some (some R_Aunt)) := ct_O (owner := "UpperFloors$House") (x := ⟨"UpperFloors$House", "holdsBy", "(I)I"⟩) (b0 := prog_6_method_3_code) (m0 := 2) (r0 := (some .int)) (by rw [hq]; exact tG 606 (by decide +kernel) (by decide +kernel)) (tG 609 (by decide +kernel) (by decide +kernel)) (tG 607 (by decide +kernel) (by decide +kernel)) (tG 610 (by decide +kernel) (by decide +kernel)) (tG 607 (by decide +kernel) (by decide +kernel)) (tG 5 (by decide +kernel) (by decide +kernel)) (tG 618 (by decide +kernel) (by decide +kernel)) (tG 618 (by decide +kernel) (by decide +kernel)) (by decide +kernel)
theorem ctv_Dusk_112_Stuck {q : MM} (hq : q.1 = R_Dusk) : CallTo q m_Braked_holdsBy (.invokevirtual 112) 2 (some (some R_Stuck)) := ct_O (owner := "UpperFloors$House") (x := ⟨"UpperFloors$House", "holdsBy", "(I)I"⟩) (b0 := prog_6_method_3_code) (m0 := 2) (r0 := (some .int)) (by rw [hq]; exact tG 606 (by decide +kernel) (by decide +kernel)) (tG 609 (by decide +kernel) (by decide +kernel)) (tG 607 (by decide +kernel) (by decide +kernel)) (tG 617 (by decide +kernel) (by decide +kernel)) (tG 612 (by decide +kernel) (by decide +kernel)) (tG 16 (by decide +kernel) (by decide +kernel)) (tG 613 (by decide +kernel) (by decide +kernel)) (tG 618 (by decide +kernel) (by decide +kernel)) (by decide +kernel)
theorem ctv_Dusk_112_Late {q : MM} (hq : q.1 = R_Dusk) : CallTo q m_House_holdsBy (.invokevirtual 112) 2 (some (some R_Late)) := ct_O (owner := "UpperFloors$House") (x := ⟨"UpperFloors$House", "holdsBy", "(I)I"⟩) (b0 := prog_6_method_3_code) (m0 := 2) (r0 := (some .int)) (by rw [hq]; exact tG 606 (by decide +kernel) (by decide +kernel)) (tG 609 (by decide +kernel) (by decide +kernel)) (tG 607 (by decide +kernel) (by decide +kernel)) (tG 616 (by decide +kernel) (by decide +kernel)) (tG 607 (by decide +kernel) (by decide +kernel)) (tG 5 (by decide +kernel) (by decide +kernel)) (tG 618 (by decide +kernel) (by decide +kernel)) (tG 618 (by decide +kernel) (by decide +kernel)) (by decide +kernel)
theorem ctv_UF_252_House {q : MM} (hq : q.1 = R_UF) : CallTo q m_House_isOf (.invokevirtual 252) 2 (some (some R_House)) := ct_O (owner := "UpperFloors$House") (x := ⟨"UpperFloors$House", "isOf", "(I)Z"⟩) (b0 := prog_6_method_5_code) (m0 := 2) (r0 := (some .boolean)) (by rw [hq]; exact tG 815 (by decide +kernel) (by decide +kernel)) (tG 818 (by decide +kernel) (by decide +kernel)) (tG 816 (by decide +kernel) (by decide +kernel)) (tG 817 (by decide +kernel) (by decide +kernel)) (tG 816 (by decide +kernel) (by decide +kernel)) (tG 5 (by decide +kernel) (by decide +kernel)) (tG 824 (by decide +kernel) (by decide +kernel)) (tG 824 (by decide +kernel) (by decide +kernel)) (by decide +kernel)
theorem ctv_UF_252_Heavy {q : MM} (hq : q.1 = R_UF) : CallTo q m_House_isOf (.invokevirtual 252) 2 (some (some R_Heavy)) := ct_O (owner := "UpperFloors$House") (x := ⟨"UpperFloors$House", "isOf", "(I)Z"⟩) (b0 := prog_6_method_5_code) (m0 := 2) (r0 := (some .boolean)) (by rw [hq]; exact tG 815 (by decide +kernel) (by decide +kernel)) (tG 818 (by decide +kernel) (by decide +kernel)) (tG 816 (by decide +kernel) (by decide +kernel)) (tG 821 (by decide +kernel) (by decide +kernel)) (tG 816 (by decide +kernel) (by decide +kernel)) (tG 5 (by decide +kernel) (by decide +kernel)) (tG 824 (by decide +kernel) (by decide +kernel)) (tG 824 (by decide +kernel) (by decide +kernel)) (by decide +kernel)
theorem ctv_UF_252_Braked {q : MM} (hq : q.1 = R_UF) : CallTo q m_House_isOf (.invokevirtual 252) 2 (some (some R_Braked)) := ct_O (owner := "UpperFloors$House") (x := ⟨"UpperFloors$House", "isOf", "(I)Z"⟩) (b0 := prog_6_method_5_code) (m0 := 2) (r0 := (some .boolean)) (by rw [hq]; exact tG 815 (by decide +kernel) (by decide +kernel)) (tG 818 (by decide +kernel) (by decide +kernel)) (tG 816 (by decide +kernel) (by decide +kernel)) (tG 820 (by decide +kernel) (by decide +kernel)) (tG 816 (by decide +kernel) (by decide +kernel)) (tG 5 (by decide +kernel) (by decide +kernel)) (tG 824 (by decide +kernel) (by decide +kernel)) (tG 824 (by decide +kernel) (by decide +kernel)) (by decide +kernel)
theorem ctv_UF_252_Aunt {q : MM} (hq : q.1 = R_UF) : CallTo q m_House_isOf (.invokevirtual 252) 2 (some (some R_Aunt)) := ct_O (owner := "UpperFloors$House") (x := ⟨"UpperFloors$House", "isOf", "(I)Z"⟩) (b0 := prog_6_method_5_code) (m0 := 2) (r0 := (some .boolean)) (by rw [hq]; exact tG 815 (by decide +kernel) (by decide +kernel)) (tG 818 (by decide +kernel) (by decide +kernel)) (tG 816 (by decide +kernel) (by decide +kernel)) (tG 819 (by decide +kernel) (by decide +kernel)) (tG 816 (by decide +kernel) (by decide +kernel)) (tG 5 (by decide +kernel) (by decide +kernel)) (tG 824 (by decide +kernel) (by decide +kernel)) (tG 824 (by decide +kernel) (by decide +kernel)) (by decide +kernel)
theorem ctv_UF_252_Stuck {q : MM} (hq : q.1 = R_UF) : CallTo q m_House_isOf (.invokevirtual 252) 2 (some (some R_Stuck)) := ct_O (owner := "UpperFloors$House") (x := ⟨"UpperFloors$House", "isOf", "(I)Z"⟩) (b0 := prog_6_method_5_code) (m0 := 2) (r0 := (some .boolean)) (by rw [hq]; exact tG 815 (by decide +kernel) (by decide +kernel)) (tG 818 (by decide +kernel) (by decide +kernel)) (tG 816 (by decide +kernel) (by decide +kernel)) (tG 823 (by decide +kernel) (by decide +kernel)) (tG 816 (by decide +kernel) (by decide +kernel)) (tG 5 (by decide +kernel) (by decide +kernel)) (tG 824 (by decide +kernel) (by decide +kernel)) (tG 824 (by decide +kernel) (by decide +kernel)) (by decide +kernel)
theorem ctv_UF_252_Late {q : MM} (hq : q.1 = R_UF) : CallTo q m_House_isOf (.invokevirtual 252) 2 (some (some R_Late)) := ct_O (owner := "UpperFloors$House") (x := ⟨"UpperFloors$House", "isOf", "(I)Z"⟩) (b0 := prog_6_method_5_code) (m0 := 2) (r0 := (some .boolean)) (by rw [hq]; exact tG 815 (by decide +kernel) (by decide +kernel)) (tG 818 (by decide +kernel) (by decide +kernel)) (tG 816 (by decide +kernel) (by decide +kernel)) (tG 822 (by decide +kernel) (by decide +kernel)) (tG 816 (by decide +kernel) (by decide +kernel)) (tG 5 (by decide +kernel) (by decide +kernel)) (tG 824 (by decide +kernel) (by decide +kernel)) (tG 824 (by decide +kernel) (by decide +kernel)) (by decide +kernel)
section HOUSE
variable {G : GG} {d : Nat} {h : AH} {Q : Int32 → AH → Prop} {a : Nat} {said high minute asked : Int32}
theorem w_House_weighsBy (H : Q said h) : WP G T1 m_House_weighsBy d [.ref a, .int said, .int high] h 0 0 (iQ Q) := by
  refine WP.enter 0 (by decide) rfl rfl ?_
  refine A_iload_n d_House_weighsBy_0 rfl ?_
  exact A_iret d_House_weighsBy_1 rfl rfl H
theorem w_House_holdsBy (H : Q said h) : WP G T1 m_House_holdsBy d [.ref a, .int said] h 0 0 (iQ Q) := by
  refine WP.enter 0 (by decide) rfl rfl ?_
  refine A_iload_n d_House_holdsBy_0 rfl ?_
  exact A_iret d_House_holdsBy_1 rfl rfl H
theorem w_House_isFree (H : Q 1 h) : WP G T1 m_House_isFree d [.ref a, .int high, .int minute] h 0 0 (iQ Q) := by
  refine WP.enter 0 (by decide) rfl rfl ?_
  refine A_iconst 1 (by decide) d_House_isFree_0 ?_
  exact A_iret d_House_isFree_1 rfl rfl H
theorem w_Stuck_isFree (ha : vA T1 h a) (hs : (rS T1 h a).1 = 9) (H : Q (kF 9 (h.1 a 2) high minute) h) : WP G T1 m_Stuck_isFree d [.ref a, .int high, .int minute] h 0 0 (iQ Q) := by
  refine WP.enter 0 (by decide) rfl rfl ?_
  refine A_iload_n d_Stuck_isFree_0 rfl ?_
  refine A_aload_n d_Stuck_isFree_1 rfl ?_
  refine A_get (v := .int (h.1 a 2)) d_Stuck_isFree_2 (fo_Stuck_7_9 rfl) ha hs rfl ?_
  refine A_icmp_eq 12 d_Stuck_isFree_5 (by decide) (fun z => ?_) (fun z => ?_)
  · refine A_iconst 0 (by decide) d_Stuck_isFree_12 ?_
    refine A_iret d_Stuck_isFree_13 rfl rfl ?_
    have e : kF 9 (h.1 a 2) high minute = 0 := by simp [kF, z]
    rw [e] at H
    exact H
  · refine A_iconst 1 (by decide) d_Stuck_isFree_8 ?_
    refine A_goto 13 d_Stuck_isFree_9 (by decide) ?_
    refine A_iret d_Stuck_isFree_13 rfl rfl ?_
    have e : kF 9 (h.1 a 2) high minute = 1 := by simp [kF, z]
    rw [e] at H
    exact H
theorem w_Late_isFree (ha : vA T1 h a) (hs : (rS T1 h a).1 = 5) (H : Q (kF 5 (h.1 a 2) high minute) h) : WP G T1 m_Late_isFree d [.ref a, .int high, .int minute] h 0 0 (iQ Q) := by
  refine WP.enter 0 (by decide) rfl rfl ?_
  refine A_iload_n d_Late_isFree_0 rfl ?_
  refine A_aload_n d_Late_isFree_1 rfl ?_
  refine A_get (v := .int (h.1 a 2)) d_Late_isFree_2 (fo_Late_11_5 rfl) ha hs rfl ?_
  refine A_icmp_lt 12 d_Late_isFree_5 (by decide) (fun z => ?_) (fun z => ?_)
  · refine A_iconst 0 (by decide) d_Late_isFree_12 ?_
    refine A_iret d_Late_isFree_13 rfl rfl ?_
    have e : kF 5 (h.1 a 2) high minute = 0 := by simp [kF, z]
    rw [e] at H
    exact H
  · refine A_iconst 1 (by decide) d_Late_isFree_8 ?_
    refine A_goto 13 d_Late_isFree_9 (by decide) ?_
    refine A_iret d_Late_isFree_13 rfl rfl ?_
    have e : kF 5 (h.1 a 2) high minute = 1 := by simp [kF, z]
    rw [e] at H
    exact H
theorem w_Heavy_weighsBy {c : Nat} {C : String} {F : u_T} (ct : CallTo m_Heavy_weighsBy m_House_weighsBy (.invokespecial 7) 3 (some (some C))) (hcl : clL[c]? = some (C, F, 3)) (hc : c < 100) (hf : FOK R_Heavy 11 c 2) (h0 : fty c 2 = 0) (ha : vA T1 h a) (hs : (rS T1 h a).1 = c) (H : Q (said + 3 * h.1 a 2) h) : WP G T1 m_Heavy_weighsBy (d + 1) [.ref a, .int said, .int high] h 0 0 (iQ Q) := by
  refine WP.enter 0 (by decide) rfl rfl ?_
  refine A_aload_n d_Heavy_weighsBy_0 rfl ?_
  refine A_iload_n d_Heavy_weighsBy_1 rfl ?_
  refine A_iload_n d_Heavy_weighsBy_2 rfl ?_
  refine A_cI [.ref a, .int said, .int high] [] ct d_Heavy_weighsBy_3 rfl rfl (by decide) (by decide) (rcA_o rfl ha hs hc hcl) (w_House_weighsBy (Q := fun r h' => r = said ∧ h' = h) ⟨rfl, rfl⟩) (fun r h' z => ?_)
  obtain ⟨rfl, rfl⟩ := z
  refine A_iconst 3 (by decide) d_Heavy_weighsBy_6 ?_
  refine A_aload_n d_Heavy_weighsBy_7 rfl ?_
  refine A_get (v := .int (h'.1 a 2)) d_Heavy_weighsBy_8 hf ha hs (by rw [h0]; rfl) ?_
  refine A_imul d_Heavy_weighsBy_11 ?_
  refine A_iadd d_Heavy_weighsBy_12 ?_
  exact A_iret d_Heavy_weighsBy_13 rfl rfl H
theorem w_Aunt_weighsBy (ha : vA T1 h a) (hs : (rS T1 h a).1 = 0) (H : Q (kW 0 (h.1 a 2) said high) h) : WP G T1 m_Aunt_weighsBy (d + 2) [.ref a, .int said, .int high] h 0 0 (iQ Q) := by
  refine WP.enter 1 (by decide) rfl rfl ?_
  refine A_aload_n d_Aunt_weighsBy_0 rfl ?_
  refine A_iload_n d_Aunt_weighsBy_1 rfl ?_
  refine A_iload_n d_Aunt_weighsBy_2 rfl ?_
  refine A_cI [.ref a, .int said, .int high] [] (ctsu_Aunt_7_Aunt rfl) d_Aunt_weighsBy_3 rfl rfl (by decide) (by decide) (rcA_o rfl ha hs (by decide) rfl) (w_Heavy_weighsBy (Q := fun r h' => r = said + 3 * h.1 a 2 ∧ h' = h) (ctsu_Heavy_7_Aunt rfl) rfl (by decide) (fo_Heavy_11_0 rfl) rfl ha hs ⟨rfl, rfl⟩) (fun r h' z => ?_)
  obtain ⟨er, eh⟩ := z
  subst eh
  refine A_istore_n [some (.ref a), some (.int said), some (.int high), some (.int r)] d_Aunt_weighsBy_6 (by decide) rfl rfl ?_
  refine A_iload_n d_Aunt_weighsBy_7 rfl ?_
  refine A_iconst 5 (by decide) d_Aunt_weighsBy_8 ?_
  refine A_icmp_ge 18 d_Aunt_weighsBy_9 (by decide) (fun z => ?_) (fun z => ?_)
  · refine A_iload_n d_Aunt_weighsBy_18 rfl ?_
    refine A_iret d_Aunt_weighsBy_19 rfl rfl ?_
    have e : kW 0 (h'.1 a 2) said high = r := by
      have : ¬ high < 5 := Int32.not_lt.mpr z
      simp [kW, this, er]
    rw [e] at H
    exact H
  · refine A_iconst 2 (by decide) d_Aunt_weighsBy_12 ?_
    refine A_iload_n d_Aunt_weighsBy_13 rfl ?_
    refine A_imul d_Aunt_weighsBy_14 ?_
    refine A_goto 19 d_Aunt_weighsBy_15 (by decide) ?_
    refine A_iret d_Aunt_weighsBy_19 rfl rfl ?_
    have e : kW 0 (h'.1 a 2) said high = 2 * r := by
      have : high < 5 := Int32.not_le.mp z
      simp [kW, this, er]
    rw [e] at H
    exact H
theorem w_Late_weighsBy (ha : vA T1 h a) (hs : (rS T1 h a).1 = 5) (H : Q (said + high) h) : WP G T1 m_Late_weighsBy (d + 1) [.ref a, .int said, .int high] h 0 0 (iQ Q) := by
  refine WP.enter 0 (by decide) rfl rfl ?_
  refine A_aload_n d_Late_weighsBy_0 rfl ?_
  refine A_iload_n d_Late_weighsBy_1 rfl ?_
  refine A_iload_n d_Late_weighsBy_2 rfl ?_
  refine A_cI [.ref a, .int said, .int high] [] (ctsu_Late_7_Late rfl) d_Late_weighsBy_3 rfl rfl (by decide) (by decide) (rcA_o rfl ha hs (by decide) rfl) (w_House_weighsBy (Q := fun r h' => r = said ∧ h' = h) ⟨rfl, rfl⟩) (fun r h' z => ?_)
  obtain ⟨rfl, rfl⟩ := z
  refine A_iload_n d_Late_weighsBy_6 rfl ?_
  refine A_iadd d_Late_weighsBy_7 ?_
  exact A_iret d_Late_weighsBy_8 rfl rfl H
theorem w_Braked_holdsBy {c : Nat} {C : String} {F : u_T} (ct : CallTo m_Braked_holdsBy m_House_holdsBy (.invokespecial 7) 2 (some (some C))) (hcl : clL[c]? = some (C, F, 3)) (hc : c < 100) (hf : FOK R_Braked 11 c 2) (h0 : fty c 2 = 0) (ha : vA T1 h a) (hs : (rS T1 h a).1 = c) (H : Q (said + h.1 a 2) h) : WP G T1 m_Braked_holdsBy (d + 1) [.ref a, .int said] h 0 0 (iQ Q) := by
  refine WP.enter 0 (by decide) rfl rfl ?_
  refine A_aload_n d_Braked_holdsBy_0 rfl ?_
  refine A_iload_n d_Braked_holdsBy_1 rfl ?_
  refine A_cI [.ref a, .int said] [] ct d_Braked_holdsBy_2 rfl rfl (by decide) (by decide) (rcA_o rfl ha hs hc hcl) (w_House_holdsBy (Q := fun r h' => r = said ∧ h' = h) ⟨rfl, rfl⟩) (fun r h' z => ?_)
  obtain ⟨rfl, rfl⟩ := z
  refine A_aload_n d_Braked_holdsBy_5 rfl ?_
  refine A_get (v := .int (h'.1 a 2)) d_Braked_holdsBy_6 hf ha hs (by rw [h0]; rfl) ?_
  refine A_iadd d_Braked_holdsBy_9 ?_
  exact A_iret d_Braked_holdsBy_10 rfl rfl H
theorem w_isOf {c : Nat} (hc : famP c) (ha : vA T1 h a) (hs : (rS T1 h a).1 = c) (H : Q (kO c asked) h) : WP G T1 m_House_isOf d [.ref a, .int asked] h 0 0 (iQ Q) := by
  have ok : ∀ t, (t = 3 ∨ t = 1 ∨ t = 0 ∨ t = 9 ∨ t = 5) → instOK c t := by
    intro t ht
    rcases hc with rfl | rfl | rfl | rfl | rfl | rfl <;> rcases ht with rfl | rfl | rfl | rfl | rfl <;> exact ⟨_, _, _, _, _, _, rfl, by decide, rfl, by decide +kernel⟩
  have nr : ∀ b : Bool, narrow .boolean (.int (if b then 1 else 0)) = .int (if b then 1 else 0) := by intro b; cases b <;> rfl
  refine WP.enter 0 (by decide) rfl rfl ?_
  refine A_iload_n d_House_isOf_0 rfl ?_
  by_cases z0 : asked = 0
  · refine A_tsI 40 d_House_isOf_1 (by rw [z0]; decide) (by rw [z0]; decide) (by rw [z0]; rfl) (by decide) ?_
    refine A_iconst 1 (by decide) d_House_isOf_40 ?_
    refine A_iret d_House_isOf_41 rfl rfl ?_
    rw [show kO c asked = 1 by simp [kO, z0]] at H
    exact H
  by_cases z1 : asked = 1
  · refine A_tsI 42 d_House_isOf_1 (by rw [z1]; decide) (by rw [z1]; decide) (by rw [z1]; rfl) (by decide) ?_
    refine A_aload_n d_House_isOf_42 rfl ?_
    refine A_inst (t := 3) d_House_isOf_43 rfl (tG 825 (by decide +kernel) (by decide +kernel)) ha hs (ok _ (by decide)) ?_
    refine A_iret d_House_isOf_46 rfl (nr _) ?_
    rw [show kO c asked = (if subB c 3 then 1 else 0) by simp [kO, z1]] at H
    exact H
  by_cases z2 : asked = 2
  · refine A_tsI 47 d_House_isOf_1 (by rw [z2]; decide) (by rw [z2]; decide) (by rw [z2]; rfl) (by decide) ?_
    refine A_aload_n d_House_isOf_47 rfl ?_
    refine A_inst (t := 1) d_House_isOf_48 rfl (tG 826 (by decide +kernel) (by decide +kernel)) ha hs (ok _ (by decide)) ?_
    refine A_iret d_House_isOf_51 rfl (nr _) ?_
    rw [show kO c asked = (if subB c 1 then 1 else 0) by simp [kO, z2]] at H
    exact H
  by_cases z3 : asked = 3
  · refine A_tsI 52 d_House_isOf_1 (by rw [z3]; decide) (by rw [z3]; decide) (by rw [z3]; rfl) (by decide) ?_
    refine A_aload_n d_House_isOf_52 rfl ?_
    refine A_inst (t := 0) d_House_isOf_53 rfl (tG 827 (by decide +kernel) (by decide +kernel)) ha hs (ok _ (by decide)) ?_
    refine A_iret d_House_isOf_56 rfl (nr _) ?_
    rw [show kO c asked = (if subB c 0 then 1 else 0) by simp [kO, z3]] at H
    exact H
  by_cases z4 : asked = 4
  · refine A_tsI 57 d_House_isOf_1 (by rw [z4]; decide) (by rw [z4]; decide) (by rw [z4]; rfl) (by decide) ?_
    refine A_aload_n d_House_isOf_57 rfl ?_
    refine A_inst (t := 9) d_House_isOf_58 rfl (tG 828 (by decide +kernel) (by decide +kernel)) ha hs (ok _ (by decide)) ?_
    refine A_iret d_House_isOf_61 rfl (nr _) ?_
    rw [show kO c asked = (if subB c 9 then 1 else 0) by simp [kO, z4]] at H
    exact H
  by_cases z5 : asked = 5
  · refine A_tsI 62 d_House_isOf_1 (by rw [z5]; decide) (by rw [z5]; decide) (by rw [z5]; rfl) (by decide) ?_
    refine A_aload_n d_House_isOf_62 rfl ?_
    refine A_inst (t := 5) d_House_isOf_63 rfl (tG 829 (by decide +kernel) (by decide +kernel)) ha hs (ok _ (by decide)) ?_
    refine A_iret d_House_isOf_66 rfl (nr _) ?_
    rw [show kO c asked = (if subB c 5 then 1 else 0) by simp [kO, z5]] at H
    exact H
  refine A_tsO 67 d_House_isOf_1 (by have t0 := lv_neT z0 (a := 0) (by decide); have t1 := lv_neT z1 (a := 1) (by decide); have t2 := lv_neT z2 (a := 2) (by decide); have t3 := lv_neT z3 (a := 3) (by decide); have t4 := lv_neT z4 (a := 4) (by decide); have t5 := lv_neT z5 (a := 5) (by decide); omega) (by decide) ?_
  refine A_iconst 0 (by decide) d_House_isOf_67 ?_
  refine A_iret d_House_isOf_68 rfl rfl ?_
  rw [show kO c asked = 0 by simp [kO, z0, z1, z2, z3, z4, z5]] at H
  exact H
end HOUSE
theorem A_pv_isFree {G : GG} {q : MM} {d pc : Nat} {L : LL} {rest : List Value} {h : AH} {bc bs : Nat} {Q : QQ} {Qc : Int32 → AH → Prop} {a : Nat} {high minute : Int32} (hd : decode q.2.2.1 pc = .ok (.invokevirtual 81, 3)) (H : pv_isFree Qc a high minute h) (kk : ∀ r h', Qc r h' → Att G T1 q (d + 3) (pc + 3) L (.int r :: rest) h' bc bs Q) (hq : q.1 = R_Dusk := by rfl) (hsum : (rest.map fun v => v.category).sum ≤ 8 := by exact Nat.le_of_ble_eq_true rfl) : Att G T1 q (d + 3) pc L (.int minute :: .int high :: .ref a :: rest) h bc bs Q := by
  obtain ⟨⟨ha, hc⟩, H⟩ := H
  rcases hc with e | e | e | e | e | e
  · rw [e] at H
    exact A_cI (d := d + 2) [.ref a, .int high, .int minute] rest (ctv_Dusk_81_Aunt hq) hd rfl rfl (by decide) hsum (rcA_o rfl ha e (by decide) rfl) (w_House_isFree (d := d + 2) (by simpa [kW, kH, kF] using H)) kk
  · rw [e] at H
    exact A_cI (d := d + 2) [.ref a, .int high, .int minute] rest (ctv_Dusk_81_Braked hq) hd rfl rfl (by decide) hsum (rcA_o rfl ha e (by decide) rfl) (w_House_isFree (d := d + 2) (by simpa [kW, kH, kF] using H)) kk
  · rw [e] at H
    exact A_cI (d := d + 2) [.ref a, .int high, .int minute] rest (ctv_Dusk_81_Heavy hq) hd rfl rfl (by decide) hsum (rcA_o rfl ha e (by decide) rfl) (w_House_isFree (d := d + 2) (by simpa [kW, kH, kF] using H)) kk
  · rw [e] at H
    exact A_cI (d := d + 2) [.ref a, .int high, .int minute] rest (ctv_Dusk_81_House hq) hd rfl rfl (by decide) hsum (rcA_o rfl ha e (by decide) rfl) (w_House_isFree (d := d + 2) (by simpa [kW, kH, kF] using H)) kk
  · rw [e] at H
    exact A_cI (d := d + 2) [.ref a, .int high, .int minute] rest (ctv_Dusk_81_Late hq) hd rfl rfl (by decide) hsum (rcA_o rfl ha e (by decide) rfl) (w_Late_isFree (d := d + 2) ha e H) kk
  · rw [e] at H
    exact A_cI (d := d + 2) [.ref a, .int high, .int minute] rest (ctv_Dusk_81_Stuck hq) hd rfl rfl (by decide) hsum (rcA_o rfl ha e (by decide) rfl) (w_Stuck_isFree (d := d + 2) ha e H) kk
theorem A_pv_weighsBy {G : GG} {q : MM} {d pc : Nat} {L : LL} {rest : List Value} {h : AH} {bc bs : Nat} {Q : QQ} {Qc : Int32 → AH → Prop} {a : Nat} {said high : Int32} (hd : decode q.2.2.1 pc = .ok (.invokevirtual 109, 3)) (H : pv_weighsBy Qc a said high h) (kk : ∀ r h', Qc r h' → Att G T1 q (d + 3) (pc + 3) L (.int r :: rest) h' bc bs Q) (hq : q.1 = R_Dusk := by rfl) (hsum : (rest.map fun v => v.category).sum ≤ 8 := by exact Nat.le_of_ble_eq_true rfl) : Att G T1 q (d + 3) pc L (.int high :: .int said :: .ref a :: rest) h bc bs Q := by
  obtain ⟨⟨ha, hc⟩, H⟩ := H
  rcases hc with e | e | e | e | e | e
  · rw [e] at H
    exact A_cI (d := d + 2) [.ref a, .int said, .int high] rest (ctv_Dusk_109_Aunt hq) hd rfl rfl (by decide) hsum (rcA_o rfl ha e (by decide) rfl) (w_Aunt_weighsBy (d := d) ha e H) kk
  · rw [e] at H
    exact A_cI (d := d + 2) [.ref a, .int said, .int high] rest (ctv_Dusk_109_Braked hq) hd rfl rfl (by decide) hsum (rcA_o rfl ha e (by decide) rfl) (w_House_weighsBy (d := d + 2) (by simpa [kW, kH, kF] using H)) kk
  · rw [e] at H
    exact A_cI (d := d + 2) [.ref a, .int said, .int high] rest (ctv_Dusk_109_Heavy hq) hd rfl rfl (by decide) hsum (rcA_o rfl ha e (by decide) rfl) (w_Heavy_weighsBy (d := d + 1) (ctsu_Heavy_7_Heavy rfl) rfl (by decide) (fo_Heavy_11_3 rfl) rfl ha e (by simpa [kW] using H)) kk
  · rw [e] at H
    exact A_cI (d := d + 2) [.ref a, .int said, .int high] rest (ctv_Dusk_109_House hq) hd rfl rfl (by decide) hsum (rcA_o rfl ha e (by decide) rfl) (w_House_weighsBy (d := d + 2) (by simpa [kW, kH, kF] using H)) kk
  · rw [e] at H
    exact A_cI (d := d + 2) [.ref a, .int said, .int high] rest (ctv_Dusk_109_Late hq) hd rfl rfl (by decide) hsum (rcA_o rfl ha e (by decide) rfl) (w_Late_weighsBy (d := d + 1) ha e (by simpa [kW] using H)) kk
  · rw [e] at H
    exact A_cI (d := d + 2) [.ref a, .int said, .int high] rest (ctv_Dusk_109_Stuck hq) hd rfl rfl (by decide) hsum (rcA_o rfl ha e (by decide) rfl) (w_House_weighsBy (d := d + 2) (by simpa [kW, kH, kF] using H)) kk
theorem A_pv_holdsBy {G : GG} {q : MM} {d pc : Nat} {L : LL} {rest : List Value} {h : AH} {bc bs : Nat} {Q : QQ} {Qc : Int32 → AH → Prop} {a : Nat} {said : Int32} (hd : decode q.2.2.1 pc = .ok (.invokevirtual 112, 3)) (H : pv_holdsBy Qc a said h) (kk : ∀ r h', Qc r h' → Att G T1 q (d + 3) (pc + 3) L (.int r :: rest) h' bc bs Q) (hq : q.1 = R_Dusk := by rfl) (hsum : (rest.map fun v => v.category).sum ≤ 8 := by exact Nat.le_of_ble_eq_true rfl) : Att G T1 q (d + 3) pc L (.int said :: .ref a :: rest) h bc bs Q := by
  obtain ⟨⟨ha, hc⟩, H⟩ := H
  rcases hc with e | e | e | e | e | e
  · rw [e] at H
    exact A_cI (d := d + 2) [.ref a, .int said] rest (ctv_Dusk_112_Aunt hq) hd rfl rfl (by decide) hsum (rcA_o rfl ha e (by decide) rfl) (w_House_holdsBy (d := d + 2) (by simpa [kW, kH, kF] using H)) kk
  · rw [e] at H
    exact A_cI (d := d + 2) [.ref a, .int said] rest (ctv_Dusk_112_Braked hq) hd rfl rfl (by decide) hsum (rcA_o rfl ha e (by decide) rfl) (w_Braked_holdsBy (d := d + 1) (ctsu_Braked_7_Braked rfl) rfl (by decide) (fo_Braked_11_1 rfl) rfl ha e (by simpa [kH] using H)) kk
  · rw [e] at H
    exact A_cI (d := d + 2) [.ref a, .int said] rest (ctv_Dusk_112_Heavy hq) hd rfl rfl (by decide) hsum (rcA_o rfl ha e (by decide) rfl) (w_House_holdsBy (d := d + 2) (by simpa [kW, kH, kF] using H)) kk
  · rw [e] at H
    exact A_cI (d := d + 2) [.ref a, .int said] rest (ctv_Dusk_112_House hq) hd rfl rfl (by decide) hsum (rcA_o rfl ha e (by decide) rfl) (w_House_holdsBy (d := d + 2) (by simpa [kW, kH, kF] using H)) kk
  · rw [e] at H
    exact A_cI (d := d + 2) [.ref a, .int said] rest (ctv_Dusk_112_Late hq) hd rfl rfl (by decide) hsum (rcA_o rfl ha e (by decide) rfl) (w_House_holdsBy (d := d + 2) (by simpa [kW, kH, kF] using H)) kk
  · rw [e] at H
    exact A_cI (d := d + 2) [.ref a, .int said] rest (ctv_Dusk_112_Stuck hq) hd rfl rfl (by decide) hsum (rcA_o rfl ha e (by decide) rfl) (w_Braked_holdsBy (d := d + 1) (ctsu_Braked_7_Stuck rfl) rfl (by decide) (fo_Braked_11_9 rfl) rfl ha e (by simpa [kH] using H)) kk
theorem A_pv_isOf {G : GG} {q : MM} {d pc : Nat} {L : LL} {rest : List Value} {h : AH} {bc bs : Nat} {Q : QQ} {Qc : Int32 → AH → Prop} {a : Nat} {asked : Int32} (hd : decode q.2.2.1 pc = .ok (.invokevirtual 252, 3)) (H : pv_isOf Qc a asked h) (kk : ∀ r h', Qc r h' → Att G T1 q (d + 3) (pc + 3) L (.int r :: rest) h' bc bs Q) (hq : q.1 = R_UF := by rfl) (hsum : (rest.map fun v => v.category).sum ≤ 8 := by exact Nat.le_of_ble_eq_true rfl) : Att G T1 q (d + 3) pc L (.int asked :: .ref a :: rest) h bc bs Q := by
  obtain ⟨⟨ha, hc⟩, H⟩ := H
  have hc2 := hc
  rcases hc with e | e | e | e | e | e
  · rw [e] at H
    exact A_cI (d := d + 2) [.ref a, .int asked] rest (ctv_UF_252_Aunt hq) hd rfl rfl (by decide) hsum (rcA_o rfl ha e (by decide) rfl) (w_isOf (d := d + 2) hc2 ha rfl (by rw [e]; exact H)) kk
  · rw [e] at H
    exact A_cI (d := d + 2) [.ref a, .int asked] rest (ctv_UF_252_Braked hq) hd rfl rfl (by decide) hsum (rcA_o rfl ha e (by decide) rfl) (w_isOf (d := d + 2) hc2 ha rfl (by rw [e]; exact H)) kk
  · rw [e] at H
    exact A_cI (d := d + 2) [.ref a, .int asked] rest (ctv_UF_252_Heavy hq) hd rfl rfl (by decide) hsum (rcA_o rfl ha e (by decide) rfl) (w_isOf (d := d + 2) hc2 ha rfl (by rw [e]; exact H)) kk
  · rw [e] at H
    exact A_cI (d := d + 2) [.ref a, .int asked] rest (ctv_UF_252_House hq) hd rfl rfl (by decide) hsum (rcA_o rfl ha e (by decide) rfl) (w_isOf (d := d + 2) hc2 ha rfl (by rw [e]; exact H)) kk
  · rw [e] at H
    exact A_cI (d := d + 2) [.ref a, .int asked] rest (ctv_UF_252_Late hq) hd rfl rfl (by decide) hsum (rcA_o rfl ha e (by decide) rfl) (w_isOf (d := d + 2) hc2 ha rfl (by rw [e]; exact H)) kk
  · rw [e] at H
    exact A_cI (d := d + 2) [.ref a, .int asked] rest (ctv_UF_252_Stuck hq) hd rfl rfl (by decide) hsum (rcA_o rfl ha e (by decide) rfl) (w_isOf (d := d + 2) hc2 ha rfl (by rw [e]; exact H)) kk
