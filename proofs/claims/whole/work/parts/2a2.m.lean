theorem d_Town_become_0 : decode prog_12_method_2_code 0 = .ok (.aload_n 0, 1) := by decide +kernel
theorem d_Town_become_1 : decode prog_12_method_2_code 1 = .ok (.aload_n 1, 1) := by decide +kernel
theorem d_Town_become_2 : decode prog_12_method_2_code 2 = .ok (.getfield 21, 3) := by decide +kernel
theorem d_Town_become_5 : decode prog_12_method_2_code 5 = .ok (.putfield 21, 3) := by decide +kernel
theorem d_Town_become_8 : decode prog_12_method_2_code 8 = .ok (.aload_n 0, 1) := by decide +kernel
theorem d_Town_become_9 : decode prog_12_method_2_code 9 = .ok (.aload_n 1, 1) := by decide +kernel
theorem d_Town_become_10 : decode prog_12_method_2_code 10 = .ok (.getfield 25, 3) := by decide +kernel
theorem d_Town_become_13 : decode prog_12_method_2_code 13 = .ok (.putfield 25, 3) := by decide +kernel
theorem d_Town_become_16 : decode prog_12_method_2_code 16 = .ok (.aload_n 1, 1) := by decide +kernel
theorem d_Town_become_17 : decode prog_12_method_2_code 17 = .ok (.getfield 9, 3) := by decide +kernel
theorem d_Town_become_20 : decode prog_12_method_2_code 20 = .ok (.iconst 0, 1) := by decide +kernel
theorem d_Town_become_21 : decode prog_12_method_2_code 21 = .ok (.aload_n 0, 1) := by decide +kernel
theorem d_Town_become_22 : decode prog_12_method_2_code 22 = .ok (.getfield 9, 3) := by decide +kernel
theorem d_Town_become_25 : decode prog_12_method_2_code 25 = .ok (.iconst 0, 1) := by decide +kernel
theorem d_Town_become_26 : decode prog_12_method_2_code 26 = .ok (.bipush 7, 2) := by decide +kernel
theorem d_Town_become_28 : decode prog_12_method_2_code 28 = .ok (.invokestatic 28, 3) := by decide +kernel
theorem d_Town_become_31 : decode prog_12_method_2_code 31 = .ok (.aload_n 1, 1) := by decide +kernel
theorem d_Town_become_32 : decode prog_12_method_2_code 32 = .ok (.getfield 15, 3) := by decide +kernel
theorem d_Town_become_35 : decode prog_12_method_2_code 35 = .ok (.iconst 0, 1) := by decide +kernel
theorem d_Town_become_36 : decode prog_12_method_2_code 36 = .ok (.aload_n 0, 1) := by decide +kernel
theorem d_Town_become_37 : decode prog_12_method_2_code 37 = .ok (.getfield 15, 3) := by decide +kernel
theorem d_Town_become_40 : decode prog_12_method_2_code 40 = .ok (.iconst 0, 1) := by decide +kernel
theorem d_Town_become_41 : decode prog_12_method_2_code 41 = .ok (.bipush 7, 2) := by decide +kernel
theorem d_Town_become_43 : decode prog_12_method_2_code 43 = .ok (.invokestatic 28, 3) := by decide +kernel
theorem d_Town_become_46 : decode prog_12_method_2_code 46 = .ok (.aload_n 1, 1) := by decide +kernel
theorem d_Town_become_47 : decode prog_12_method_2_code 47 = .ok (.getfield 18, 3) := by decide +kernel
theorem d_Town_become_50 : decode prog_12_method_2_code 50 = .ok (.iconst 0, 1) := by decide +kernel
theorem d_Town_become_51 : decode prog_12_method_2_code 51 = .ok (.aload_n 0, 1) := by decide +kernel
theorem d_Town_become_52 : decode prog_12_method_2_code 52 = .ok (.getfield 18, 3) := by decide +kernel
theorem d_Town_become_55 : decode prog_12_method_2_code 55 = .ok (.iconst 0, 1) := by decide +kernel
theorem d_Town_become_56 : decode prog_12_method_2_code 56 = .ok (.bipush 7, 2) := by decide +kernel
theorem d_Town_become_58 : decode prog_12_method_2_code 58 = .ok (.invokestatic 28, 3) := by decide +kernel
theorem d_Town_become_61 : decode prog_12_method_2_code 61 = .ok (.return_, 1) := by decide +kernel
def p_Town_become (Q : AH → Prop) (a0 : Nat) (a1 : Nat) (h : AH) : Prop := vA T1 h a1 ∧ (rS T1 h a1).1 = 10 ∧ vA T1 h a0 ∧ (rS T1 h a0).1 = 10 ∧ 0 < rR T1 (wI (wI h a0 3 (h.1 a1 3)) a0 4 ((wI h a0 3 (h.1 a1 3)).1 a1 4)) a1 0 ∧ 0 < rR T1 (wI (wI h a0 3 (h.1 a1 3)) a0 4 ((wI h a0 3 (h.1 a1 3)).1 a1 4)) a0 0 ∧ vA T1 (wI (wI h a0 3 (h.1 a1 3)) a0 4 ((wI h a0 3 (h.1 a1 3)).1 a1 4)) (rR T1 (wI (wI h a0 3 (h.1 a1 3)) a0 4 ((wI h a0 3 (h.1 a1 3)).1 a1 4)) a1 0 - 1) ∧ (rS T1 (wI (wI h a0 3 (h.1 a1 3)) a0 4 ((wI h a0 3 (h.1 a1 3)).1 a1 4)) (rR T1 (wI (wI h a0 3 (h.1 a1 3)) a0 4 ((wI h a0 3 (h.1 a1 3)).1 a1 4)) a1 0 - 1)).1 = 100 ∧ vA T1 (wI (wI h a0 3 (h.1 a1 3)) a0 4 ((wI h a0 3 (h.1 a1 3)).1 a1 4)) (rR T1 (wI (wI h a0 3 (h.1 a1 3)) a0 4 ((wI h a0 3 (h.1 a1 3)).1 a1 4)) a0 0 - 1) ∧ (rS T1 (wI (wI h a0 3 (h.1 a1 3)) a0 4 ((wI h a0 3 (h.1 a1 3)).1 a1 4)) (rR T1 (wI (wI h a0 3 (h.1 a1 3)) a0 4 ((wI h a0 3 (h.1 a1 3)).1 a1 4)) a0 0 - 1)).1 = 100 ∧ (0 : Int32).toInt + (7 : Int32).toInt ≤ ((rS T1 (wI (wI h a0 3 (h.1 a1 3)) a0 4 ((wI h a0 3 (h.1 a1 3)).1 a1 4)) (rR T1 (wI (wI h a0 3 (h.1 a1 3)) a0 4 ((wI h a0 3 (h.1 a1 3)).1 a1 4)) a1 0 - 1)).2 : Nat) ∧ (0 : Int32).toInt + (7 : Int32).toInt ≤ ((rS T1 (wI (wI h a0 3 (h.1 a1 3)) a0 4 ((wI h a0 3 (h.1 a1 3)).1 a1 4)) (rR T1 (wI (wI h a0 3 (h.1 a1 3)) a0 4 ((wI h a0 3 (h.1 a1 3)).1 a1 4)) a0 0 - 1)).2 : Nat) ∧ (rS T1 (wI (wI h a0 3 (h.1 a1 3)) a0 4 ((wI h a0 3 (h.1 a1 3)).1 a1 4)) (rR T1 (wI (wI h a0 3 (h.1 a1 3)) a0 4 ((wI h a0 3 (h.1 a1 3)).1 a1 4)) a1 0 - 1)).2 < 2147483648 ∧ (rS T1 (wI (wI h a0 3 (h.1 a1 3)) a0 4 ((wI h a0 3 (h.1 a1 3)).1 a1 4)) (rR T1 (wI (wI h a0 3 (h.1 a1 3)) a0 4 ((wI h a0 3 (h.1 a1 3)).1 a1 4)) a0 0 - 1)).2 < 2147483648 ∧ 0 < rR T1 (wC (wI (wI h a0 3 (h.1 a1 3)) a0 4 ((wI h a0 3 (h.1 a1 3)).1 a1 4)) (rR T1 (wI (wI h a0 3 (h.1 a1 3)) a0 4 ((wI h a0 3 (h.1 a1 3)).1 a1 4)) a1 0 - 1) (rR T1 (wI (wI h a0 3 (h.1 a1 3)) a0 4 ((wI h a0 3 (h.1 a1 3)).1 a1 4)) a0 0 - 1) 0 0 7) a1 1 ∧ 0 < rR T1 (wC (wI (wI h a0 3 (h.1 a1 3)) a0 4 ((wI h a0 3 (h.1 a1 3)).1 a1 4)) (rR T1 (wI (wI h a0 3 (h.1 a1 3)) a0 4 ((wI h a0 3 (h.1 a1 3)).1 a1 4)) a1 0 - 1) (rR T1 (wI (wI h a0 3 (h.1 a1 3)) a0 4 ((wI h a0 3 (h.1 a1 3)).1 a1 4)) a0 0 - 1) 0 0 7) a0 1 ∧ vA T1 (wC (wI (wI h a0 3 (h.1 a1 3)) a0 4 ((wI h a0 3 (h.1 a1 3)).1 a1 4)) (rR T1 (wI (wI h a0 3 (h.1 a1 3)) a0 4 ((wI h a0 3 (h.1 a1 3)).1 a1 4)) a1 0 - 1) (rR T1 (wI (wI h a0 3 (h.1 a1 3)) a0 4 ((wI h a0 3 (h.1 a1 3)).1 a1 4)) a0 0 - 1) 0 0 7) (rR T1 (wC (wI (wI h a0 3 (h.1 a1 3)) a0 4 ((wI h a0 3 (h.1 a1 3)).1 a1 4)) (rR T1 (wI (wI h a0 3 (h.1 a1 3)) a0 4 ((wI h a0 3 (h.1 a1 3)).1 a1 4)) a1 0 - 1) (rR T1 (wI (wI h a0 3 (h.1 a1 3)) a0 4 ((wI h a0 3 (h.1 a1 3)).1 a1 4)) a0 0 - 1) 0 0 7) a1 1 - 1) ∧ (rS T1 (wC (wI (wI h a0 3 (h.1 a1 3)) a0 4 ((wI h a0 3 (h.1 a1 3)).1 a1 4)) (rR T1 (wI (wI h a0 3 (h.1 a1 3)) a0 4 ((wI h a0 3 (h.1 a1 3)).1 a1 4)) a1 0 - 1) (rR T1 (wI (wI h a0 3 (h.1 a1 3)) a0 4 ((wI h a0 3 (h.1 a1 3)).1 a1 4)) a0 0 - 1) 0 0 7) (rR T1 (wC (wI (wI h a0 3 (h.1 a1 3)) a0 4 ((wI h a0 3 (h.1 a1 3)).1 a1 4)) (rR T1 (wI (wI h a0 3 (h.1 a1 3)) a0 4 ((wI h a0 3 (h.1 a1 3)).1 a1 4)) a1 0 - 1) (rR T1 (wI (wI h a0 3 (h.1 a1 3)) a0 4 ((wI h a0 3 (h.1 a1 3)).1 a1 4)) a0 0 - 1) 0 0 7) a1 1 - 1)).1 = 100 ∧ vA T1 (wC (wI (wI h a0 3 (h.1 a1 3)) a0 4 ((wI h a0 3 (h.1 a1 3)).1 a1 4)) (rR T1 (wI (wI h a0 3 (h.1 a1 3)) a0 4 ((wI h a0 3 (h.1 a1 3)).1 a1 4)) a1 0 - 1) (rR T1 (wI (wI h a0 3 (h.1 a1 3)) a0 4 ((wI h a0 3 (h.1 a1 3)).1 a1 4)) a0 0 - 1) 0 0 7) (rR T1 (wC (wI (wI h a0 3 (h.1 a1 3)) a0 4 ((wI h a0 3 (h.1 a1 3)).1 a1 4)) (rR T1 (wI (wI h a0 3 (h.1 a1 3)) a0 4 ((wI h a0 3 (h.1 a1 3)).1 a1 4)) a1 0 - 1) (rR T1 (wI (wI h a0 3 (h.1 a1 3)) a0 4 ((wI h a0 3 (h.1 a1 3)).1 a1 4)) a0 0 - 1) 0 0 7) a0 1 - 1) ∧ (rS T1 (wC (wI (wI h a0 3 (h.1 a1 3)) a0 4 ((wI h a0 3 (h.1 a1 3)).1 a1 4)) (rR T1 (wI (wI h a0 3 (h.1 a1 3)) a0 4 ((wI h a0 3 (h.1 a1 3)).1 a1 4)) a1 0 - 1) (rR T1 (wI (wI h a0 3 (h.1 a1 3)) a0 4 ((wI h a0 3 (h.1 a1 3)).1 a1 4)) a0 0 - 1) 0 0 7) (rR T1 (wC (wI (wI h a0 3 (h.1 a1 3)) a0 4 ((wI h a0 3 (h.1 a1 3)).1 a1 4)) (rR T1 (wI (wI h a0 3 (h.1 a1 3)) a0 4 ((wI h a0 3 (h.1 a1 3)).1 a1 4)) a1 0 - 1) (rR T1 (wI (wI h a0 3 (h.1 a1 3)) a0 4 ((wI h a0 3 (h.1 a1 3)).1 a1 4)) a0 0 - 1) 0 0 7) a0 1 - 1)).1 = 100 ∧ (0 : Int32).toInt + (7 : Int32).toInt ≤ ((rS T1 (wC (wI (wI h a0 3 (h.1 a1 3)) a0 4 ((wI h a0 3 (h.1 a1 3)).1 a1 4)) (rR T1 (wI (wI h a0 3 (h.1 a1 3)) a0 4 ((wI h a0 3 (h.1 a1 3)).1 a1 4)) a1 0 - 1) (rR T1 (wI (wI h a0 3 (h.1 a1 3)) a0 4 ((wI h a0 3 (h.1 a1 3)).1 a1 4)) a0 0 - 1) 0 0 7) (rR T1 (wC (wI (wI h a0 3 (h.1 a1 3)) a0 4 ((wI h a0 3 (h.1 a1 3)).1 a1 4)) (rR T1 (wI (wI h a0 3 (h.1 a1 3)) a0 4 ((wI h a0 3 (h.1 a1 3)).1 a1 4)) a1 0 - 1) (rR T1 (wI (wI h a0 3 (h.1 a1 3)) a0 4 ((wI h a0 3 (h.1 a1 3)).1 a1 4)) a0 0 - 1) 0 0 7) a1 1 - 1)).2 : Nat) ∧ (0 : Int32).toInt + (7 : Int32).toInt ≤ ((rS T1 (wC (wI (wI h a0 3 (h.1 a1 3)) a0 4 ((wI h a0 3 (h.1 a1 3)).1 a1 4)) (rR T1 (wI (wI h a0 3 (h.1 a1 3)) a0 4 ((wI h a0 3 (h.1 a1 3)).1 a1 4)) a1 0 - 1) (rR T1 (wI (wI h a0 3 (h.1 a1 3)) a0 4 ((wI h a0 3 (h.1 a1 3)).1 a1 4)) a0 0 - 1) 0 0 7) (rR T1 (wC (wI (wI h a0 3 (h.1 a1 3)) a0 4 ((wI h a0 3 (h.1 a1 3)).1 a1 4)) (rR T1 (wI (wI h a0 3 (h.1 a1 3)) a0 4 ((wI h a0 3 (h.1 a1 3)).1 a1 4)) a1 0 - 1) (rR T1 (wI (wI h a0 3 (h.1 a1 3)) a0 4 ((wI h a0 3 (h.1 a1 3)).1 a1 4)) a0 0 - 1) 0 0 7) a0 1 - 1)).2 : Nat) ∧ (rS T1 (wC (wI (wI h a0 3 (h.1 a1 3)) a0 4 ((wI h a0 3 (h.1 a1 3)).1 a1 4)) (rR T1 (wI (wI h a0 3 (h.1 a1 3)) a0 4 ((wI h a0 3 (h.1 a1 3)).1 a1 4)) a1 0 - 1) (rR T1 (wI (wI h a0 3 (h.1 a1 3)) a0 4 ((wI h a0 3 (h.1 a1 3)).1 a1 4)) a0 0 - 1) 0 0 7) (rR T1 (wC (wI (wI h a0 3 (h.1 a1 3)) a0 4 ((wI h a0 3 (h.1 a1 3)).1 a1 4)) (rR T1 (wI (wI h a0 3 (h.1 a1 3)) a0 4 ((wI h a0 3 (h.1 a1 3)).1 a1 4)) a1 0 - 1) (rR T1 (wI (wI h a0 3 (h.1 a1 3)) a0 4 ((wI h a0 3 (h.1 a1 3)).1 a1 4)) a0 0 - 1) 0 0 7) a1 1 - 1)).2 < 2147483648 ∧ (rS T1 (wC (wI (wI h a0 3 (h.1 a1 3)) a0 4 ((wI h a0 3 (h.1 a1 3)).1 a1 4)) (rR T1 (wI (wI h a0 3 (h.1 a1 3)) a0 4 ((wI h a0 3 (h.1 a1 3)).1 a1 4)) a1 0 - 1) (rR T1 (wI (wI h a0 3 (h.1 a1 3)) a0 4 ((wI h a0 3 (h.1 a1 3)).1 a1 4)) a0 0 - 1) 0 0 7) (rR T1 (wC (wI (wI h a0 3 (h.1 a1 3)) a0 4 ((wI h a0 3 (h.1 a1 3)).1 a1 4)) (rR T1 (wI (wI h a0 3 (h.1 a1 3)) a0 4 ((wI h a0 3 (h.1 a1 3)).1 a1 4)) a1 0 - 1) (rR T1 (wI (wI h a0 3 (h.1 a1 3)) a0 4 ((wI h a0 3 (h.1 a1 3)).1 a1 4)) a0 0 - 1) 0 0 7) a0 1 - 1)).2 < 2147483648 ∧ 0 < rR T1 (wC (wC (wI (wI h a0 3 (h.1 a1 3)) a0 4 ((wI h a0 3 (h.1 a1 3)).1 a1 4)) (rR T1 (wI (wI h a0 3 (h.1 a1 3)) a0 4 ((wI h a0 3 (h.1 a1 3)).1 a1 4)) a1 0 - 1) (rR T1 (wI (wI h a0 3 (h.1 a1 3)) a0 4 ((wI h a0 3 (h.1 a1 3)).1 a1 4)) a0 0 - 1) 0 0 7) (rR T1 (wC (wI (wI h a0 3 (h.1 a1 3)) a0 4 ((wI h a0 3 (h.1 a1 3)).1 a1 4)) (rR T1 (wI (wI h a0 3 (h.1 a1 3)) a0 4 ((wI h a0 3 (h.1 a1 3)).1 a1 4)) a1 0 - 1) (rR T1 (wI (wI h a0 3 (h.1 a1 3)) a0 4 ((wI h a0 3 (h.1 a1 3)).1 a1 4)) a0 0 - 1) 0 0 7) a1 1 - 1) (rR T1 (wC (wI (wI h a0 3 (h.1 a1 3)) a0 4 ((wI h a0 3 (h.1 a1 3)).1 a1 4)) (rR T1 (wI (wI h a0 3 (h.1 a1 3)) a0 4 ((wI h a0 3 (h.1 a1 3)).1 a1 4)) a1 0 - 1) (rR T1 (wI (wI h a0 3 (h.1 a1 3)) a0 4 ((wI h a0 3 (h.1 a1 3)).1 a1 4)) a0 0 - 1) 0 0 7) a0 1 - 1) 0 0 7) a1 2 ∧ 0 < rR T1 (wC (wC (wI (wI h a0 3 (h.1 a1 3)) a0 4 ((wI h a0 3 (h.1 a1 3)).1 a1 4)) (rR T1 (wI (wI h a0 3 (h.1 a1 3)) a0 4 ((wI h a0 3 (h.1 a1 3)).1 a1 4)) a1 0 - 1) (rR T1 (wI (wI h a0 3 (h.1 a1 3)) a0 4 ((wI h a0 3 (h.1 a1 3)).1 a1 4)) a0 0 - 1) 0 0 7) (rR T1 (wC (wI (wI h a0 3 (h.1 a1 3)) a0 4 ((wI h a0 3 (h.1 a1 3)).1 a1 4)) (rR T1 (wI (wI h a0 3 (h.1 a1 3)) a0 4 ((wI h a0 3 (h.1 a1 3)).1 a1 4)) a1 0 - 1) (rR T1 (wI (wI h a0 3 (h.1 a1 3)) a0 4 ((wI h a0 3 (h.1 a1 3)).1 a1 4)) a0 0 - 1) 0 0 7) a1 1 - 1) (rR T1 (wC (wI (wI h a0 3 (h.1 a1 3)) a0 4 ((wI h a0 3 (h.1 a1 3)).1 a1 4)) (rR T1 (wI (wI h a0 3 (h.1 a1 3)) a0 4 ((wI h a0 3 (h.1 a1 3)).1 a1 4)) a1 0 - 1) (rR T1 (wI (wI h a0 3 (h.1 a1 3)) a0 4 ((wI h a0 3 (h.1 a1 3)).1 a1 4)) a0 0 - 1) 0 0 7) a0 1 - 1) 0 0 7) a0 2 ∧ vA T1 (wC (wC (wI (wI h a0 3 (h.1 a1 3)) a0 4 ((wI h a0 3 (h.1 a1 3)).1 a1 4)) (rR T1 (wI (wI h a0 3 (h.1 a1 3)) a0 4 ((wI h a0 3 (h.1 a1 3)).1 a1 4)) a1 0 - 1) (rR T1 (wI (wI h a0 3 (h.1 a1 3)) a0 4 ((wI h a0 3 (h.1 a1 3)).1 a1 4)) a0 0 - 1) 0 0 7) (rR T1 (wC (wI (wI h a0 3 (h.1 a1 3)) a0 4 ((wI h a0 3 (h.1 a1 3)).1 a1 4)) (rR T1 (wI (wI h a0 3 (h.1 a1 3)) a0 4 ((wI h a0 3 (h.1 a1 3)).1 a1 4)) a1 0 - 1) (rR T1 (wI (wI h a0 3 (h.1 a1 3)) a0 4 ((wI h a0 3 (h.1 a1 3)).1 a1 4)) a0 0 - 1) 0 0 7) a1 1 - 1) (rR T1 (wC (wI (wI h a0 3 (h.1 a1 3)) a0 4 ((wI h a0 3 (h.1 a1 3)).1 a1 4)) (rR T1 (wI (wI h a0 3 (h.1 a1 3)) a0 4 ((wI h a0 3 (h.1 a1 3)).1 a1 4)) a1 0 - 1) (rR T1 (wI (wI h a0 3 (h.1 a1 3)) a0 4 ((wI h a0 3 (h.1 a1 3)).1 a1 4)) a0 0 - 1) 0 0 7) a0 1 - 1) 0 0 7) (rR T1 (wC (wC (wI (wI h a0 3 (h.1 a1 3)) a0 4 ((wI h a0 3 (h.1 a1 3)).1 a1 4)) (rR T1 (wI (wI h a0 3 (h.1 a1 3)) a0 4 ((wI h a0 3 (h.1 a1 3)).1 a1 4)) a1 0 - 1) (rR T1 (wI (wI h a0 3 (h.1 a1 3)) a0 4 ((wI h a0 3 (h.1 a1 3)).1 a1 4)) a0 0 - 1) 0 0 7) (rR T1 (wC (wI (wI h a0 3 (h.1 a1 3)) a0 4 ((wI h a0 3 (h.1 a1 3)).1 a1 4)) (rR T1 (wI (wI h a0 3 (h.1 a1 3)) a0 4 ((wI h a0 3 (h.1 a1 3)).1 a1 4)) a1 0 - 1) (rR T1 (wI (wI h a0 3 (h.1 a1 3)) a0 4 ((wI h a0 3 (h.1 a1 3)).1 a1 4)) a0 0 - 1) 0 0 7) a1 1 - 1) (rR T1 (wC (wI (wI h a0 3 (h.1 a1 3)) a0 4 ((wI h a0 3 (h.1 a1 3)).1 a1 4)) (rR T1 (wI (wI h a0 3 (h.1 a1 3)) a0 4 ((wI h a0 3 (h.1 a1 3)).1 a1 4)) a1 0 - 1) (rR T1 (wI (wI h a0 3 (h.1 a1 3)) a0 4 ((wI h a0 3 (h.1 a1 3)).1 a1 4)) a0 0 - 1) 0 0 7) a0 1 - 1) 0 0 7) a1 2 - 1) ∧ (rS T1 (wC (wC (wI (wI h a0 3 (h.1 a1 3)) a0 4 ((wI h a0 3 (h.1 a1 3)).1 a1 4)) (rR T1 (wI (wI h a0 3 (h.1 a1 3)) a0 4 ((wI h a0 3 (h.1 a1 3)).1 a1 4)) a1 0 - 1) (rR T1 (wI (wI h a0 3 (h.1 a1 3)) a0 4 ((wI h a0 3 (h.1 a1 3)).1 a1 4)) a0 0 - 1) 0 0 7) (rR T1 (wC (wI (wI h a0 3 (h.1 a1 3)) a0 4 ((wI h a0 3 (h.1 a1 3)).1 a1 4)) (rR T1 (wI (wI h a0 3 (h.1 a1 3)) a0 4 ((wI h a0 3 (h.1 a1 3)).1 a1 4)) a1 0 - 1) (rR T1 (wI (wI h a0 3 (h.1 a1 3)) a0 4 ((wI h a0 3 (h.1 a1 3)).1 a1 4)) a0 0 - 1) 0 0 7) a1 1 - 1) (rR T1 (wC (wI (wI h a0 3 (h.1 a1 3)) a0 4 ((wI h a0 3 (h.1 a1 3)).1 a1 4)) (rR T1 (wI (wI h a0 3 (h.1 a1 3)) a0 4 ((wI h a0 3 (h.1 a1 3)).1 a1 4)) a1 0 - 1) (rR T1 (wI (wI h a0 3 (h.1 a1 3)) a0 4 ((wI h a0 3 (h.1 a1 3)).1 a1 4)) a0 0 - 1) 0 0 7) a0 1 - 1) 0 0 7) (rR T1 (wC (wC (wI (wI h a0 3 (h.1 a1 3)) a0 4 ((wI h a0 3 (h.1 a1 3)).1 a1 4)) (rR T1 (wI (wI h a0 3 (h.1 a1 3)) a0 4 ((wI h a0 3 (h.1 a1 3)).1 a1 4)) a1 0 - 1) (rR T1 (wI (wI h a0 3 (h.1 a1 3)) a0 4 ((wI h a0 3 (h.1 a1 3)).1 a1 4)) a0 0 - 1) 0 0 7) (rR T1 (wC (wI (wI h a0 3 (h.1 a1 3)) a0 4 ((wI h a0 3 (h.1 a1 3)).1 a1 4)) (rR T1 (wI (wI h a0 3 (h.1 a1 3)) a0 4 ((wI h a0 3 (h.1 a1 3)).1 a1 4)) a1 0 - 1) (rR T1 (wI (wI h a0 3 (h.1 a1 3)) a0 4 ((wI h a0 3 (h.1 a1 3)).1 a1 4)) a0 0 - 1) 0 0 7) a1 1 - 1) (rR T1 (wC (wI (wI h a0 3 (h.1 a1 3)) a0 4 ((wI h a0 3 (h.1 a1 3)).1 a1 4)) (rR T1 (wI (wI h a0 3 (h.1 a1 3)) a0 4 ((wI h a0 3 (h.1 a1 3)).1 a1 4)) a1 0 - 1) (rR T1 (wI (wI h a0 3 (h.1 a1 3)) a0 4 ((wI h a0 3 (h.1 a1 3)).1 a1 4)) a0 0 - 1) 0 0 7) a0 1 - 1) 0 0 7) a1 2 - 1)).1 = 100 ∧ vA T1 (wC (wC (wI (wI h a0 3 (h.1 a1 3)) a0 4 ((wI h a0 3 (h.1 a1 3)).1 a1 4)) (rR T1 (wI (wI h a0 3 (h.1 a1 3)) a0 4 ((wI h a0 3 (h.1 a1 3)).1 a1 4)) a1 0 - 1) (rR T1 (wI (wI h a0 3 (h.1 a1 3)) a0 4 ((wI h a0 3 (h.1 a1 3)).1 a1 4)) a0 0 - 1) 0 0 7) (rR T1 (wC (wI (wI h a0 3 (h.1 a1 3)) a0 4 ((wI h a0 3 (h.1 a1 3)).1 a1 4)) (rR T1 (wI (wI h a0 3 (h.1 a1 3)) a0 4 ((wI h a0 3 (h.1 a1 3)).1 a1 4)) a1 0 - 1) (rR T1 (wI (wI h a0 3 (h.1 a1 3)) a0 4 ((wI h a0 3 (h.1 a1 3)).1 a1 4)) a0 0 - 1) 0 0 7) a1 1 - 1) (rR T1 (wC (wI (wI h a0 3 (h.1 a1 3)) a0 4 ((wI h a0 3 (h.1 a1 3)).1 a1 4)) (rR T1 (wI (wI h a0 3 (h.1 a1 3)) a0 4 ((wI h a0 3 (h.1 a1 3)).1 a1 4)) a1 0 - 1) (rR T1 (wI (wI h a0 3 (h.1 a1 3)) a0 4 ((wI h a0 3 (h.1 a1 3)).1 a1 4)) a0 0 - 1) 0 0 7) a0 1 - 1) 0 0 7) (rR T1 (wC (wC (wI (wI h a0 3 (h.1 a1 3)) a0 4 ((wI h a0 3 (h.1 a1 3)).1 a1 4)) (rR T1 (wI (wI h a0 3 (h.1 a1 3)) a0 4 ((wI h a0 3 (h.1 a1 3)).1 a1 4)) a1 0 - 1) (rR T1 (wI (wI h a0 3 (h.1 a1 3)) a0 4 ((wI h a0 3 (h.1 a1 3)).1 a1 4)) a0 0 - 1) 0 0 7) (rR T1 (wC (wI (wI h a0 3 (h.1 a1 3)) a0 4 ((wI h a0 3 (h.1 a1 3)).1 a1 4)) (rR T1 (wI (wI h a0 3 (h.1 a1 3)) a0 4 ((wI h a0 3 (h.1 a1 3)).1 a1 4)) a1 0 - 1) (rR T1 (wI (wI h a0 3 (h.1 a1 3)) a0 4 ((wI h a0 3 (h.1 a1 3)).1 a1 4)) a0 0 - 1) 0 0 7) a1 1 - 1) (rR T1 (wC (wI (wI h a0 3 (h.1 a1 3)) a0 4 ((wI h a0 3 (h.1 a1 3)).1 a1 4)) (rR T1 (wI (wI h a0 3 (h.1 a1 3)) a0 4 ((wI h a0 3 (h.1 a1 3)).1 a1 4)) a1 0 - 1) (rR T1 (wI (wI h a0 3 (h.1 a1 3)) a0 4 ((wI h a0 3 (h.1 a1 3)).1 a1 4)) a0 0 - 1) 0 0 7) a0 1 - 1) 0 0 7) a0 2 - 1) ∧ (rS T1 (wC (wC (wI (wI h a0 3 (h.1 a1 3)) a0 4 ((wI h a0 3 (h.1 a1 3)).1 a1 4)) (rR T1 (wI (wI h a0 3 (h.1 a1 3)) a0 4 ((wI h a0 3 (h.1 a1 3)).1 a1 4)) a1 0 - 1) (rR T1 (wI (wI h a0 3 (h.1 a1 3)) a0 4 ((wI h a0 3 (h.1 a1 3)).1 a1 4)) a0 0 - 1) 0 0 7) (rR T1 (wC (wI (wI h a0 3 (h.1 a1 3)) a0 4 ((wI h a0 3 (h.1 a1 3)).1 a1 4)) (rR T1 (wI (wI h a0 3 (h.1 a1 3)) a0 4 ((wI h a0 3 (h.1 a1 3)).1 a1 4)) a1 0 - 1) (rR T1 (wI (wI h a0 3 (h.1 a1 3)) a0 4 ((wI h a0 3 (h.1 a1 3)).1 a1 4)) a0 0 - 1) 0 0 7) a1 1 - 1) (rR T1 (wC (wI (wI h a0 3 (h.1 a1 3)) a0 4 ((wI h a0 3 (h.1 a1 3)).1 a1 4)) (rR T1 (wI (wI h a0 3 (h.1 a1 3)) a0 4 ((wI h a0 3 (h.1 a1 3)).1 a1 4)) a1 0 - 1) (rR T1 (wI (wI h a0 3 (h.1 a1 3)) a0 4 ((wI h a0 3 (h.1 a1 3)).1 a1 4)) a0 0 - 1) 0 0 7) a0 1 - 1) 0 0 7) (rR T1 (wC (wC (wI (wI h a0 3 (h.1 a1 3)) a0 4 ((wI h a0 3 (h.1 a1 3)).1 a1 4)) (rR T1 (wI (wI h a0 3 (h.1 a1 3)) a0 4 ((wI h a0 3 (h.1 a1 3)).1 a1 4)) a1 0 - 1) (rR T1 (wI (wI h a0 3 (h.1 a1 3)) a0 4 ((wI h a0 3 (h.1 a1 3)).1 a1 4)) a0 0 - 1) 0 0 7) (rR T1 (wC (wI (wI h a0 3 (h.1 a1 3)) a0 4 ((wI h a0 3 (h.1 a1 3)).1 a1 4)) (rR T1 (wI (wI h a0 3 (h.1 a1 3)) a0 4 ((wI h a0 3 (h.1 a1 3)).1 a1 4)) a1 0 - 1) (rR T1 (wI (wI h a0 3 (h.1 a1 3)) a0 4 ((wI h a0 3 (h.1 a1 3)).1 a1 4)) a0 0 - 1) 0 0 7) a1 1 - 1) (rR T1 (wC (wI (wI h a0 3 (h.1 a1 3)) a0 4 ((wI h a0 3 (h.1 a1 3)).1 a1 4)) (rR T1 (wI (wI h a0 3 (h.1 a1 3)) a0 4 ((wI h a0 3 (h.1 a1 3)).1 a1 4)) a1 0 - 1) (rR T1 (wI (wI h a0 3 (h.1 a1 3)) a0 4 ((wI h a0 3 (h.1 a1 3)).1 a1 4)) a0 0 - 1) 0 0 7) a0 1 - 1) 0 0 7) a0 2 - 1)).1 = 100 ∧ (0 : Int32).toInt + (7 : Int32).toInt ≤ ((rS T1 (wC (wC (wI (wI h a0 3 (h.1 a1 3)) a0 4 ((wI h a0 3 (h.1 a1 3)).1 a1 4)) (rR T1 (wI (wI h a0 3 (h.1 a1 3)) a0 4 ((wI h a0 3 (h.1 a1 3)).1 a1 4)) a1 0 - 1) (rR T1 (wI (wI h a0 3 (h.1 a1 3)) a0 4 ((wI h a0 3 (h.1 a1 3)).1 a1 4)) a0 0 - 1) 0 0 7) (rR T1 (wC (wI (wI h a0 3 (h.1 a1 3)) a0 4 ((wI h a0 3 (h.1 a1 3)).1 a1 4)) (rR T1 (wI (wI h a0 3 (h.1 a1 3)) a0 4 ((wI h a0 3 (h.1 a1 3)).1 a1 4)) a1 0 - 1) (rR T1 (wI (wI h a0 3 (h.1 a1 3)) a0 4 ((wI h a0 3 (h.1 a1 3)).1 a1 4)) a0 0 - 1) 0 0 7) a1 1 - 1) (rR T1 (wC (wI (wI h a0 3 (h.1 a1 3)) a0 4 ((wI h a0 3 (h.1 a1 3)).1 a1 4)) (rR T1 (wI (wI h a0 3 (h.1 a1 3)) a0 4 ((wI h a0 3 (h.1 a1 3)).1 a1 4)) a1 0 - 1) (rR T1 (wI (wI h a0 3 (h.1 a1 3)) a0 4 ((wI h a0 3 (h.1 a1 3)).1 a1 4)) a0 0 - 1) 0 0 7) a0 1 - 1) 0 0 7) (rR T1 (wC (wC (wI (wI h a0 3 (h.1 a1 3)) a0 4 ((wI h a0 3 (h.1 a1 3)).1 a1 4)) (rR T1 (wI (wI h a0 3 (h.1 a1 3)) a0 4 ((wI h a0 3 (h.1 a1 3)).1 a1 4)) a1 0 - 1) (rR T1 (wI (wI h a0 3 (h.1 a1 3)) a0 4 ((wI h a0 3 (h.1 a1 3)).1 a1 4)) a0 0 - 1) 0 0 7) (rR T1 (wC (wI (wI h a0 3 (h.1 a1 3)) a0 4 ((wI h a0 3 (h.1 a1 3)).1 a1 4)) (rR T1 (wI (wI h a0 3 (h.1 a1 3)) a0 4 ((wI h a0 3 (h.1 a1 3)).1 a1 4)) a1 0 - 1) (rR T1 (wI (wI h a0 3 (h.1 a1 3)) a0 4 ((wI h a0 3 (h.1 a1 3)).1 a1 4)) a0 0 - 1) 0 0 7) a1 1 - 1) (rR T1 (wC (wI (wI h a0 3 (h.1 a1 3)) a0 4 ((wI h a0 3 (h.1 a1 3)).1 a1 4)) (rR T1 (wI (wI h a0 3 (h.1 a1 3)) a0 4 ((wI h a0 3 (h.1 a1 3)).1 a1 4)) a1 0 - 1) (rR T1 (wI (wI h a0 3 (h.1 a1 3)) a0 4 ((wI h a0 3 (h.1 a1 3)).1 a1 4)) a0 0 - 1) 0 0 7) a0 1 - 1) 0 0 7) a1 2 - 1)).2 : Nat) ∧ (0 : Int32).toInt + (7 : Int32).toInt ≤ ((rS T1 (wC (wC (wI (wI h a0 3 (h.1 a1 3)) a0 4 ((wI h a0 3 (h.1 a1 3)).1 a1 4)) (rR T1 (wI (wI h a0 3 (h.1 a1 3)) a0 4 ((wI h a0 3 (h.1 a1 3)).1 a1 4)) a1 0 - 1) (rR T1 (wI (wI h a0 3 (h.1 a1 3)) a0 4 ((wI h a0 3 (h.1 a1 3)).1 a1 4)) a0 0 - 1) 0 0 7) (rR T1 (wC (wI (wI h a0 3 (h.1 a1 3)) a0 4 ((wI h a0 3 (h.1 a1 3)).1 a1 4)) (rR T1 (wI (wI h a0 3 (h.1 a1 3)) a0 4 ((wI h a0 3 (h.1 a1 3)).1 a1 4)) a1 0 - 1) (rR T1 (wI (wI h a0 3 (h.1 a1 3)) a0 4 ((wI h a0 3 (h.1 a1 3)).1 a1 4)) a0 0 - 1) 0 0 7) a1 1 - 1) (rR T1 (wC (wI (wI h a0 3 (h.1 a1 3)) a0 4 ((wI h a0 3 (h.1 a1 3)).1 a1 4)) (rR T1 (wI (wI h a0 3 (h.1 a1 3)) a0 4 ((wI h a0 3 (h.1 a1 3)).1 a1 4)) a1 0 - 1) (rR T1 (wI (wI h a0 3 (h.1 a1 3)) a0 4 ((wI h a0 3 (h.1 a1 3)).1 a1 4)) a0 0 - 1) 0 0 7) a0 1 - 1) 0 0 7) (rR T1 (wC (wC (wI (wI h a0 3 (h.1 a1 3)) a0 4 ((wI h a0 3 (h.1 a1 3)).1 a1 4)) (rR T1 (wI (wI h a0 3 (h.1 a1 3)) a0 4 ((wI h a0 3 (h.1 a1 3)).1 a1 4)) a1 0 - 1) (rR T1 (wI (wI h a0 3 (h.1 a1 3)) a0 4 ((wI h a0 3 (h.1 a1 3)).1 a1 4)) a0 0 - 1) 0 0 7) (rR T1 (wC (wI (wI h a0 3 (h.1 a1 3)) a0 4 ((wI h a0 3 (h.1 a1 3)).1 a1 4)) (rR T1 (wI (wI h a0 3 (h.1 a1 3)) a0 4 ((wI h a0 3 (h.1 a1 3)).1 a1 4)) a1 0 - 1) (rR T1 (wI (wI h a0 3 (h.1 a1 3)) a0 4 ((wI h a0 3 (h.1 a1 3)).1 a1 4)) a0 0 - 1) 0 0 7) a1 1 - 1) (rR T1 (wC (wI (wI h a0 3 (h.1 a1 3)) a0 4 ((wI h a0 3 (h.1 a1 3)).1 a1 4)) (rR T1 (wI (wI h a0 3 (h.1 a1 3)) a0 4 ((wI h a0 3 (h.1 a1 3)).1 a1 4)) a1 0 - 1) (rR T1 (wI (wI h a0 3 (h.1 a1 3)) a0 4 ((wI h a0 3 (h.1 a1 3)).1 a1 4)) a0 0 - 1) 0 0 7) a0 1 - 1) 0 0 7) a0 2 - 1)).2 : Nat) ∧ (rS T1 (wC (wC (wI (wI h a0 3 (h.1 a1 3)) a0 4 ((wI h a0 3 (h.1 a1 3)).1 a1 4)) (rR T1 (wI (wI h a0 3 (h.1 a1 3)) a0 4 ((wI h a0 3 (h.1 a1 3)).1 a1 4)) a1 0 - 1) (rR T1 (wI (wI h a0 3 (h.1 a1 3)) a0 4 ((wI h a0 3 (h.1 a1 3)).1 a1 4)) a0 0 - 1) 0 0 7) (rR T1 (wC (wI (wI h a0 3 (h.1 a1 3)) a0 4 ((wI h a0 3 (h.1 a1 3)).1 a1 4)) (rR T1 (wI (wI h a0 3 (h.1 a1 3)) a0 4 ((wI h a0 3 (h.1 a1 3)).1 a1 4)) a1 0 - 1) (rR T1 (wI (wI h a0 3 (h.1 a1 3)) a0 4 ((wI h a0 3 (h.1 a1 3)).1 a1 4)) a0 0 - 1) 0 0 7) a1 1 - 1) (rR T1 (wC (wI (wI h a0 3 (h.1 a1 3)) a0 4 ((wI h a0 3 (h.1 a1 3)).1 a1 4)) (rR T1 (wI (wI h a0 3 (h.1 a1 3)) a0 4 ((wI h a0 3 (h.1 a1 3)).1 a1 4)) a1 0 - 1) (rR T1 (wI (wI h a0 3 (h.1 a1 3)) a0 4 ((wI h a0 3 (h.1 a1 3)).1 a1 4)) a0 0 - 1) 0 0 7) a0 1 - 1) 0 0 7) (rR T1 (wC (wC (wI (wI h a0 3 (h.1 a1 3)) a0 4 ((wI h a0 3 (h.1 a1 3)).1 a1 4)) (rR T1 (wI (wI h a0 3 (h.1 a1 3)) a0 4 ((wI h a0 3 (h.1 a1 3)).1 a1 4)) a1 0 - 1) (rR T1 (wI (wI h a0 3 (h.1 a1 3)) a0 4 ((wI h a0 3 (h.1 a1 3)).1 a1 4)) a0 0 - 1) 0 0 7) (rR T1 (wC (wI (wI h a0 3 (h.1 a1 3)) a0 4 ((wI h a0 3 (h.1 a1 3)).1 a1 4)) (rR T1 (wI (wI h a0 3 (h.1 a1 3)) a0 4 ((wI h a0 3 (h.1 a1 3)).1 a1 4)) a1 0 - 1) (rR T1 (wI (wI h a0 3 (h.1 a1 3)) a0 4 ((wI h a0 3 (h.1 a1 3)).1 a1 4)) a0 0 - 1) 0 0 7) a1 1 - 1) (rR T1 (wC (wI (wI h a0 3 (h.1 a1 3)) a0 4 ((wI h a0 3 (h.1 a1 3)).1 a1 4)) (rR T1 (wI (wI h a0 3 (h.1 a1 3)) a0 4 ((wI h a0 3 (h.1 a1 3)).1 a1 4)) a1 0 - 1) (rR T1 (wI (wI h a0 3 (h.1 a1 3)) a0 4 ((wI h a0 3 (h.1 a1 3)).1 a1 4)) a0 0 - 1) 0 0 7) a0 1 - 1) 0 0 7) a1 2 - 1)).2 < 2147483648 ∧ (rS T1 (wC (wC (wI (wI h a0 3 (h.1 a1 3)) a0 4 ((wI h a0 3 (h.1 a1 3)).1 a1 4)) (rR T1 (wI (wI h a0 3 (h.1 a1 3)) a0 4 ((wI h a0 3 (h.1 a1 3)).1 a1 4)) a1 0 - 1) (rR T1 (wI (wI h a0 3 (h.1 a1 3)) a0 4 ((wI h a0 3 (h.1 a1 3)).1 a1 4)) a0 0 - 1) 0 0 7) (rR T1 (wC (wI (wI h a0 3 (h.1 a1 3)) a0 4 ((wI h a0 3 (h.1 a1 3)).1 a1 4)) (rR T1 (wI (wI h a0 3 (h.1 a1 3)) a0 4 ((wI h a0 3 (h.1 a1 3)).1 a1 4)) a1 0 - 1) (rR T1 (wI (wI h a0 3 (h.1 a1 3)) a0 4 ((wI h a0 3 (h.1 a1 3)).1 a1 4)) a0 0 - 1) 0 0 7) a1 1 - 1) (rR T1 (wC (wI (wI h a0 3 (h.1 a1 3)) a0 4 ((wI h a0 3 (h.1 a1 3)).1 a1 4)) (rR T1 (wI (wI h a0 3 (h.1 a1 3)) a0 4 ((wI h a0 3 (h.1 a1 3)).1 a1 4)) a1 0 - 1) (rR T1 (wI (wI h a0 3 (h.1 a1 3)) a0 4 ((wI h a0 3 (h.1 a1 3)).1 a1 4)) a0 0 - 1) 0 0 7) a0 1 - 1) 0 0 7) (rR T1 (wC (wC (wI (wI h a0 3 (h.1 a1 3)) a0 4 ((wI h a0 3 (h.1 a1 3)).1 a1 4)) (rR T1 (wI (wI h a0 3 (h.1 a1 3)) a0 4 ((wI h a0 3 (h.1 a1 3)).1 a1 4)) a1 0 - 1) (rR T1 (wI (wI h a0 3 (h.1 a1 3)) a0 4 ((wI h a0 3 (h.1 a1 3)).1 a1 4)) a0 0 - 1) 0 0 7) (rR T1 (wC (wI (wI h a0 3 (h.1 a1 3)) a0 4 ((wI h a0 3 (h.1 a1 3)).1 a1 4)) (rR T1 (wI (wI h a0 3 (h.1 a1 3)) a0 4 ((wI h a0 3 (h.1 a1 3)).1 a1 4)) a1 0 - 1) (rR T1 (wI (wI h a0 3 (h.1 a1 3)) a0 4 ((wI h a0 3 (h.1 a1 3)).1 a1 4)) a0 0 - 1) 0 0 7) a1 1 - 1) (rR T1 (wC (wI (wI h a0 3 (h.1 a1 3)) a0 4 ((wI h a0 3 (h.1 a1 3)).1 a1 4)) (rR T1 (wI (wI h a0 3 (h.1 a1 3)) a0 4 ((wI h a0 3 (h.1 a1 3)).1 a1 4)) a1 0 - 1) (rR T1 (wI (wI h a0 3 (h.1 a1 3)) a0 4 ((wI h a0 3 (h.1 a1 3)).1 a1 4)) a0 0 - 1) 0 0 7) a0 1 - 1) 0 0 7) a0 2 - 1)).2 < 2147483648 ∧ Q (wC (wC (wC (wI (wI h a0 3 (h.1 a1 3)) a0 4 ((wI h a0 3 (h.1 a1 3)).1 a1 4)) (rR T1 (wI (wI h a0 3 (h.1 a1 3)) a0 4 ((wI h a0 3 (h.1 a1 3)).1 a1 4)) a1 0 - 1) (rR T1 (wI (wI h a0 3 (h.1 a1 3)) a0 4 ((wI h a0 3 (h.1 a1 3)).1 a1 4)) a0 0 - 1) 0 0 7) (rR T1 (wC (wI (wI h a0 3 (h.1 a1 3)) a0 4 ((wI h a0 3 (h.1 a1 3)).1 a1 4)) (rR T1 (wI (wI h a0 3 (h.1 a1 3)) a0 4 ((wI h a0 3 (h.1 a1 3)).1 a1 4)) a1 0 - 1) (rR T1 (wI (wI h a0 3 (h.1 a1 3)) a0 4 ((wI h a0 3 (h.1 a1 3)).1 a1 4)) a0 0 - 1) 0 0 7) a1 1 - 1) (rR T1 (wC (wI (wI h a0 3 (h.1 a1 3)) a0 4 ((wI h a0 3 (h.1 a1 3)).1 a1 4)) (rR T1 (wI (wI h a0 3 (h.1 a1 3)) a0 4 ((wI h a0 3 (h.1 a1 3)).1 a1 4)) a1 0 - 1) (rR T1 (wI (wI h a0 3 (h.1 a1 3)) a0 4 ((wI h a0 3 (h.1 a1 3)).1 a1 4)) a0 0 - 1) 0 0 7) a0 1 - 1) 0 0 7) (rR T1 (wC (wC (wI (wI h a0 3 (h.1 a1 3)) a0 4 ((wI h a0 3 (h.1 a1 3)).1 a1 4)) (rR T1 (wI (wI h a0 3 (h.1 a1 3)) a0 4 ((wI h a0 3 (h.1 a1 3)).1 a1 4)) a1 0 - 1) (rR T1 (wI (wI h a0 3 (h.1 a1 3)) a0 4 ((wI h a0 3 (h.1 a1 3)).1 a1 4)) a0 0 - 1) 0 0 7) (rR T1 (wC (wI (wI h a0 3 (h.1 a1 3)) a0 4 ((wI h a0 3 (h.1 a1 3)).1 a1 4)) (rR T1 (wI (wI h a0 3 (h.1 a1 3)) a0 4 ((wI h a0 3 (h.1 a1 3)).1 a1 4)) a1 0 - 1) (rR T1 (wI (wI h a0 3 (h.1 a1 3)) a0 4 ((wI h a0 3 (h.1 a1 3)).1 a1 4)) a0 0 - 1) 0 0 7) a1 1 - 1) (rR T1 (wC (wI (wI h a0 3 (h.1 a1 3)) a0 4 ((wI h a0 3 (h.1 a1 3)).1 a1 4)) (rR T1 (wI (wI h a0 3 (h.1 a1 3)) a0 4 ((wI h a0 3 (h.1 a1 3)).1 a1 4)) a1 0 - 1) (rR T1 (wI (wI h a0 3 (h.1 a1 3)) a0 4 ((wI h a0 3 (h.1 a1 3)).1 a1 4)) a0 0 - 1) 0 0 7) a0 1 - 1) 0 0 7) a1 2 - 1) (rR T1 (wC (wC (wI (wI h a0 3 (h.1 a1 3)) a0 4 ((wI h a0 3 (h.1 a1 3)).1 a1 4)) (rR T1 (wI (wI h a0 3 (h.1 a1 3)) a0 4 ((wI h a0 3 (h.1 a1 3)).1 a1 4)) a1 0 - 1) (rR T1 (wI (wI h a0 3 (h.1 a1 3)) a0 4 ((wI h a0 3 (h.1 a1 3)).1 a1 4)) a0 0 - 1) 0 0 7) (rR T1 (wC (wI (wI h a0 3 (h.1 a1 3)) a0 4 ((wI h a0 3 (h.1 a1 3)).1 a1 4)) (rR T1 (wI (wI h a0 3 (h.1 a1 3)) a0 4 ((wI h a0 3 (h.1 a1 3)).1 a1 4)) a1 0 - 1) (rR T1 (wI (wI h a0 3 (h.1 a1 3)) a0 4 ((wI h a0 3 (h.1 a1 3)).1 a1 4)) a0 0 - 1) 0 0 7) a1 1 - 1) (rR T1 (wC (wI (wI h a0 3 (h.1 a1 3)) a0 4 ((wI h a0 3 (h.1 a1 3)).1 a1 4)) (rR T1 (wI (wI h a0 3 (h.1 a1 3)) a0 4 ((wI h a0 3 (h.1 a1 3)).1 a1 4)) a1 0 - 1) (rR T1 (wI (wI h a0 3 (h.1 a1 3)) a0 4 ((wI h a0 3 (h.1 a1 3)).1 a1 4)) a0 0 - 1) 0 0 7) a0 1 - 1) 0 0 7) a0 2 - 1) 0 0 7)
set_option maxRecDepth 20000 in
theorem r_Town_become_0 {G : GG} {d : Nat} {Q : AH → Prop} (a0 : Nat) (a1 : Nat) (h : AH) (H : p_Town_become Q a0 a1 h) : Att G T1 m_Town_become (d + 1) 0 [some (.ref a0), some (.ref a1)] [] h 0 0 (vQ Q) := by
  refine A_aload_n d_Town_become_0 rfl ?_
  refine A_aload_n d_Town_become_1 rfl ?_
  obtain ⟨c1, H⟩ := H
  obtain ⟨c2, H⟩ := H
  refine A_get (v := .int (h.1 a1 3)) d_Town_become_2 (fo_Town_21_10 rfl) c1 c2 rfl ?_
  obtain ⟨c3, H⟩ := H
  obtain ⟨c4, H⟩ := H
  refine A_putI (k := 3) d_Town_become_5 (fo_Town_21_10 rfl) (Or.inr ⟨rfl, _, ft_10_3⟩) (fun z => by cases z) rfl c3 c4 rfl rfl ?_
  refine A_aload_n d_Town_become_8 rfl ?_
  refine A_aload_n d_Town_become_9 rfl ?_
  refine A_get (v := .int ((wI h a0 3 (h.1 a1 3)).1 a1 4)) d_Town_become_10 (fo_Town_25_10 rfl) c1 c2 rfl ?_
  refine A_putI (k := 4) d_Town_become_13 (fo_Town_25_10 rfl) (Or.inr ⟨rfl, _, ft_10_4⟩) (fun z => by cases z) rfl c3 c4 rfl rfl ?_
  refine A_aload_n d_Town_become_16 rfl ?_
  obtain ⟨c5, H⟩ := H
  refine A_get (v := .ref (rR T1 (wI (wI h a0 3 (h.1 a1 3)) a0 4 ((wI h a0 3 (h.1 a1 3)).1 a1 4)) a1 0 - 1)) d_Town_become_17 (fo_Town_9_10 rfl) c1 c2 (vR_pos c5) ?_
  refine A_iconst 0 (by decide) d_Town_become_20 ?_
  refine A_aload_n d_Town_become_21 rfl ?_
  obtain ⟨c6, H⟩ := H
  refine A_get (v := .ref (rR T1 (wI (wI h a0 3 (h.1 a1 3)) a0 4 ((wI h a0 3 (h.1 a1 3)).1 a1 4)) a0 0 - 1)) d_Town_become_22 (fo_Town_9_10 rfl) c3 c4 (vR_pos c6) ?_
  refine A_iconst 0 (by decide) d_Town_become_25 ?_
  refine A_bipush 7 (by decide) d_Town_become_26 ?_
  obtain ⟨c7, H⟩ := H
  obtain ⟨c8, H⟩ := H
  obtain ⟨c9, H⟩ := H
  obtain ⟨c10, H⟩ := H
  obtain ⟨c11, H⟩ := H
  obtain ⟨c12, H⟩ := H
  obtain ⟨c13, H⟩ := H
  obtain ⟨c14, H⟩ := H
  refine A_acopy (n0 := _) (n1 := _) d_Town_become_28 (tG 437 (by decide +kernel) (by decide +kernel)) (tG 439 (by decide +kernel) (by decide +kernel)) (tG 438 (by decide +kernel) (by decide +kernel)) (tG 14 (by decide +kernel) (by decide +kernel)) c7 (rS_ex c8) c9 (rS_ex c10) (by decide) (by decide) (by decide) c11 c12 c13 c14 (Nat.le_of_ble_eq_true rfl) ?_
  refine A_aload_n d_Town_become_31 rfl ?_
  obtain ⟨c15, H⟩ := H
  refine A_get (v := .ref (rR T1 (wC (wI (wI h a0 3 (h.1 a1 3)) a0 4 ((wI h a0 3 (h.1 a1 3)).1 a1 4)) (rR T1 (wI (wI h a0 3 (h.1 a1 3)) a0 4 ((wI h a0 3 (h.1 a1 3)).1 a1 4)) a1 0 - 1) (rR T1 (wI (wI h a0 3 (h.1 a1 3)) a0 4 ((wI h a0 3 (h.1 a1 3)).1 a1 4)) a0 0 - 1) 0 0 7) a1 1 - 1)) d_Town_become_32 (fo_Town_15_10 rfl) c1 c2 (vR_pos c15) ?_
  refine A_iconst 0 (by decide) d_Town_become_35 ?_
  refine A_aload_n d_Town_become_36 rfl ?_
  obtain ⟨c16, H⟩ := H
  refine A_get (v := .ref (rR T1 (wC (wI (wI h a0 3 (h.1 a1 3)) a0 4 ((wI h a0 3 (h.1 a1 3)).1 a1 4)) (rR T1 (wI (wI h a0 3 (h.1 a1 3)) a0 4 ((wI h a0 3 (h.1 a1 3)).1 a1 4)) a1 0 - 1) (rR T1 (wI (wI h a0 3 (h.1 a1 3)) a0 4 ((wI h a0 3 (h.1 a1 3)).1 a1 4)) a0 0 - 1) 0 0 7) a0 1 - 1)) d_Town_become_37 (fo_Town_15_10 rfl) c3 c4 (vR_pos c16) ?_
  refine A_iconst 0 (by decide) d_Town_become_40 ?_
  refine A_bipush 7 (by decide) d_Town_become_41 ?_
  obtain ⟨c17, H⟩ := H
  obtain ⟨c18, H⟩ := H
  obtain ⟨c19, H⟩ := H
  obtain ⟨c20, H⟩ := H
  obtain ⟨c21, H⟩ := H
  obtain ⟨c22, H⟩ := H
  obtain ⟨c23, H⟩ := H
  obtain ⟨c24, H⟩ := H
  refine A_acopy (n0 := _) (n1 := _) d_Town_become_43 (tG 437 (by decide +kernel) (by decide +kernel)) (tG 439 (by decide +kernel) (by decide +kernel)) (tG 438 (by decide +kernel) (by decide +kernel)) (tG 14 (by decide +kernel) (by decide +kernel)) c17 (rS_ex c18) c19 (rS_ex c20) (by decide) (by decide) (by decide) c21 c22 c23 c24 (Nat.le_of_ble_eq_true rfl) ?_
  refine A_aload_n d_Town_become_46 rfl ?_
  obtain ⟨c25, H⟩ := H
  refine A_get (v := .ref (rR T1 (wC (wC (wI (wI h a0 3 (h.1 a1 3)) a0 4 ((wI h a0 3 (h.1 a1 3)).1 a1 4)) (rR T1 (wI (wI h a0 3 (h.1 a1 3)) a0 4 ((wI h a0 3 (h.1 a1 3)).1 a1 4)) a1 0 - 1) (rR T1 (wI (wI h a0 3 (h.1 a1 3)) a0 4 ((wI h a0 3 (h.1 a1 3)).1 a1 4)) a0 0 - 1) 0 0 7) (rR T1 (wC (wI (wI h a0 3 (h.1 a1 3)) a0 4 ((wI h a0 3 (h.1 a1 3)).1 a1 4)) (rR T1 (wI (wI h a0 3 (h.1 a1 3)) a0 4 ((wI h a0 3 (h.1 a1 3)).1 a1 4)) a1 0 - 1) (rR T1 (wI (wI h a0 3 (h.1 a1 3)) a0 4 ((wI h a0 3 (h.1 a1 3)).1 a1 4)) a0 0 - 1) 0 0 7) a1 1 - 1) (rR T1 (wC (wI (wI h a0 3 (h.1 a1 3)) a0 4 ((wI h a0 3 (h.1 a1 3)).1 a1 4)) (rR T1 (wI (wI h a0 3 (h.1 a1 3)) a0 4 ((wI h a0 3 (h.1 a1 3)).1 a1 4)) a1 0 - 1) (rR T1 (wI (wI h a0 3 (h.1 a1 3)) a0 4 ((wI h a0 3 (h.1 a1 3)).1 a1 4)) a0 0 - 1) 0 0 7) a0 1 - 1) 0 0 7) a1 2 - 1)) d_Town_become_47 (fo_Town_18_10 rfl) c1 c2 (vR_pos c25) ?_
  refine A_iconst 0 (by decide) d_Town_become_50 ?_
  refine A_aload_n d_Town_become_51 rfl ?_
  obtain ⟨c26, H⟩ := H
  refine A_get (v := .ref (rR T1 (wC (wC (wI (wI h a0 3 (h.1 a1 3)) a0 4 ((wI h a0 3 (h.1 a1 3)).1 a1 4)) (rR T1 (wI (wI h a0 3 (h.1 a1 3)) a0 4 ((wI h a0 3 (h.1 a1 3)).1 a1 4)) a1 0 - 1) (rR T1 (wI (wI h a0 3 (h.1 a1 3)) a0 4 ((wI h a0 3 (h.1 a1 3)).1 a1 4)) a0 0 - 1) 0 0 7) (rR T1 (wC (wI (wI h a0 3 (h.1 a1 3)) a0 4 ((wI h a0 3 (h.1 a1 3)).1 a1 4)) (rR T1 (wI (wI h a0 3 (h.1 a1 3)) a0 4 ((wI h a0 3 (h.1 a1 3)).1 a1 4)) a1 0 - 1) (rR T1 (wI (wI h a0 3 (h.1 a1 3)) a0 4 ((wI h a0 3 (h.1 a1 3)).1 a1 4)) a0 0 - 1) 0 0 7) a1 1 - 1) (rR T1 (wC (wI (wI h a0 3 (h.1 a1 3)) a0 4 ((wI h a0 3 (h.1 a1 3)).1 a1 4)) (rR T1 (wI (wI h a0 3 (h.1 a1 3)) a0 4 ((wI h a0 3 (h.1 a1 3)).1 a1 4)) a1 0 - 1) (rR T1 (wI (wI h a0 3 (h.1 a1 3)) a0 4 ((wI h a0 3 (h.1 a1 3)).1 a1 4)) a0 0 - 1) 0 0 7) a0 1 - 1) 0 0 7) a0 2 - 1)) d_Town_become_52 (fo_Town_18_10 rfl) c3 c4 (vR_pos c26) ?_
  refine A_iconst 0 (by decide) d_Town_become_55 ?_
  refine A_bipush 7 (by decide) d_Town_become_56 ?_
  obtain ⟨c27, H⟩ := H
  obtain ⟨c28, H⟩ := H
  obtain ⟨c29, H⟩ := H
  obtain ⟨c30, H⟩ := H
  obtain ⟨c31, H⟩ := H
  obtain ⟨c32, H⟩ := H
  obtain ⟨c33, H⟩ := H
  obtain ⟨c34, H⟩ := H
  refine A_acopy (n0 := _) (n1 := _) d_Town_become_58 (tG 437 (by decide +kernel) (by decide +kernel)) (tG 439 (by decide +kernel) (by decide +kernel)) (tG 438 (by decide +kernel) (by decide +kernel)) (tG 14 (by decide +kernel) (by decide +kernel)) c27 (rS_ex c28) c29 (rS_ex c30) (by decide) (by decide) (by decide) c31 c32 c33 c34 (Nat.le_of_ble_eq_true rfl) ?_
  exact A_ret d_Town_become_61 rfl H
set_option maxRecDepth 20000 in
theorem ok_Town_become {G : GG} {d : Nat} {Q : AH → Prop} {a0 : Nat} {a1 : Nat} {h : AH} (H : p_Town_become Q a0 a1 h) : WP G T1 m_Town_become (d + 1) [.ref a0, .ref a1] h 0 0 (vQ Q) := by
  exact WP.enter 0 (by decide) rfl rfl (r_Town_become_0 a0 a1 h H)
theorem d_Law_answer_0 : decode prog_8_method_4_code 0 = .ok (.iload_n 1, 1) := by decide +kernel
theorem d_Law_answer_1 : decode prog_8_method_4_code 1 = .ok (.iconst 0, 1) := by decide +kernel
theorem d_Law_answer_2 : decode prog_8_method_4_code 2 = .ok (.iconst 2, 1) := by decide +kernel
theorem d_Law_answer_3 : decode prog_8_method_4_code 3 = .ok (.invokestatic 26, 3) := by decide +kernel
theorem d_Law_answer_6 : decode prog_8_method_4_code 6 = .ok (.ifCond .ne 5, 3) := by decide +kernel
theorem d_Law_answer_9 : decode prog_8_method_4_code 9 = .ok (.iconst 0, 1) := by decide +kernel
theorem d_Law_answer_10 : decode prog_8_method_4_code 10 = .ok (.ireturn, 1) := by decide +kernel
theorem d_Law_answer_11 : decode prog_8_method_4_code 11 = .ok (.iconst 0, 1) := by decide +kernel
theorem d_Law_answer_12 : decode prog_8_method_4_code 12 = .ok (.istore 4, 2) := by decide +kernel
theorem d_Law_answer_14 : decode prog_8_method_4_code 14 = .ok (.aload_n 0, 1) := by decide +kernel
theorem d_Law_answer_15 : decode prog_8_method_4_code 15 = .ok (.getfield 15, 3) := by decide +kernel
theorem d_Law_answer_18 : decode prog_8_method_4_code 18 = .ok (.iload_n 1, 1) := by decide +kernel
theorem d_Law_answer_19 : decode prog_8_method_4_code 19 = .ok (.iaload, 1) := by decide +kernel
theorem d_Law_answer_20 : decode prog_8_method_4_code 20 = .ok (.istore 5, 2) := by decide +kernel
theorem d_Law_answer_22 : decode prog_8_method_4_code 22 = .ok (.iload 5, 2) := by decide +kernel
theorem d_Law_answer_24 : decode prog_8_method_4_code 24 = .ok (.aload_n 0, 1) := by decide +kernel
theorem d_Law_answer_25 : decode prog_8_method_4_code 25 = .ok (.getfield 15, 3) := by decide +kernel
theorem d_Law_answer_28 : decode prog_8_method_4_code 28 = .ok (.iload_n 1, 1) := by decide +kernel
theorem d_Law_answer_29 : decode prog_8_method_4_code 29 = .ok (.iconst 1, 1) := by decide +kernel
theorem d_Law_answer_30 : decode prog_8_method_4_code 30 = .ok (.iadd, 1) := by decide +kernel
theorem d_Law_answer_31 : decode prog_8_method_4_code 31 = .ok (.iaload, 1) := by decide +kernel
theorem d_Law_answer_32 : decode prog_8_method_4_code 32 = .ok (.if_icmp .ge 137, 3) := by decide +kernel
theorem d_Law_answer_35 : decode prog_8_method_4_code 35 = .ok (.iload 5, 2) := by decide +kernel
theorem d_Law_answer_37 : decode prog_8_method_4_code 37 = .ok (.sipush 160, 3) := by decide +kernel
theorem d_Law_answer_40 : decode prog_8_method_4_code 40 = .ok (.if_icmp .ge 129, 3) := by decide +kernel
theorem d_Law_answer_43 : decode prog_8_method_4_code 43 = .ok (.aload_n 0, 1) := by decide +kernel
theorem d_Law_answer_44 : decode prog_8_method_4_code 44 = .ok (.getfield 11, 3) := by decide +kernel
theorem d_Law_answer_47 : decode prog_8_method_4_code 47 = .ok (.iload 5, 2) := by decide +kernel
theorem d_Law_answer_49 : decode prog_8_method_4_code 49 = .ok (.iaload, 1) := by decide +kernel
theorem d_Law_answer_50 : decode prog_8_method_4_code 50 = .ok (.istore 6, 2) := by decide +kernel
theorem d_Law_answer_52 : decode prog_8_method_4_code 52 = .ok (.iload 6, 2) := by decide +kernel
theorem d_Law_answer_54 : decode prog_8_method_4_code 54 = .ok (.bipush (-6), 2) := by decide +kernel
theorem d_Law_answer_56 : decode prog_8_method_4_code 56 = .ok (.if_icmp .lt 38, 3) := by decide +kernel
theorem d_Law_answer_59 : decode prog_8_method_4_code 59 = .ok (.iload 4, 2) := by decide +kernel
theorem d_Law_answer_61 : decode prog_8_method_4_code 61 = .ok (.aload_n 3, 1) := by decide +kernel
theorem d_Law_answer_62 : decode prog_8_method_4_code 62 = .ok (.arraylength, 1) := by decide +kernel
theorem d_Law_answer_63 : decode prog_8_method_4_code 63 = .ok (.if_icmp .lt 5, 3) := by decide +kernel
theorem d_Law_answer_66 : decode prog_8_method_4_code 66 = .ok (.iconst 0, 1) := by decide +kernel
theorem d_Law_answer_67 : decode prog_8_method_4_code 67 = .ok (.ireturn, 1) := by decide +kernel
theorem d_Law_answer_68 : decode prog_8_method_4_code 68 = .ok (.aload_n 3, 1) := by decide +kernel
theorem d_Law_answer_69 : decode prog_8_method_4_code 69 = .ok (.iload 4, 2) := by decide +kernel
theorem d_Law_answer_71 : decode prog_8_method_4_code 71 = .ok (.iload 6, 2) := by decide +kernel
theorem d_Law_answer_73 : decode prog_8_method_4_code 73 = .ok (.ifCond .lt 8, 3) := by decide +kernel
theorem d_Law_answer_76 : decode prog_8_method_4_code 76 = .ok (.iload 6, 2) := by decide +kernel
theorem d_Law_answer_78 : decode prog_8_method_4_code 78 = .ok (.goto 9, 3) := by decide +kernel
theorem d_Law_answer_81 : decode prog_8_method_4_code 81 = .ok (.aload_n 2, 1) := by decide +kernel
theorem d_Law_answer_82 : decode prog_8_method_4_code 82 = .ok (.iconst (-1), 1) := by decide +kernel
theorem d_Law_answer_83 : decode prog_8_method_4_code 83 = .ok (.iload 6, 2) := by decide +kernel
theorem d_Law_answer_85 : decode prog_8_method_4_code 85 = .ok (.isub, 1) := by decide +kernel
theorem d_Law_answer_86 : decode prog_8_method_4_code 86 = .ok (.iaload, 1) := by decide +kernel
theorem d_Law_answer_87 : decode prog_8_method_4_code 87 = .ok (.iastore, 1) := by decide +kernel
theorem d_Law_answer_88 : decode prog_8_method_4_code 88 = .ok (.iinc 4 1, 3) := by decide +kernel
theorem d_Law_answer_91 : decode prog_8_method_4_code 91 = .ok (.goto 72, 3) := by decide +kernel
theorem d_Law_answer_94 : decode prog_8_method_4_code 94 = .ok (.iload 6, 2) := by decide +kernel
theorem d_Law_answer_96 : decode prog_8_method_4_code 96 = .ok (.bipush (-11), 2) := by decide +kernel
theorem d_Law_answer_98 : decode prog_8_method_4_code 98 = .ok (.if_icmp .lt 31, 3) := by decide +kernel
theorem d_Law_answer_101 : decode prog_8_method_4_code 101 = .ok (.iload 4, 2) := by decide +kernel
theorem d_Law_answer_103 : decode prog_8_method_4_code 103 = .ok (.iconst 1, 1) := by decide +kernel
theorem d_Law_answer_104 : decode prog_8_method_4_code 104 = .ok (.if_icmp .ge 5, 3) := by decide +kernel
theorem d_Law_answer_107 : decode prog_8_method_4_code 107 = .ok (.iconst 0, 1) := by decide +kernel
theorem d_Law_answer_108 : decode prog_8_method_4_code 108 = .ok (.ireturn, 1) := by decide +kernel
theorem d_Law_answer_109 : decode prog_8_method_4_code 109 = .ok (.aload_n 3, 1) := by decide +kernel
theorem d_Law_answer_110 : decode prog_8_method_4_code 110 = .ok (.iload 4, 2) := by decide +kernel
theorem d_Law_answer_112 : decode prog_8_method_4_code 112 = .ok (.iconst 1, 1) := by decide +kernel
theorem d_Law_answer_113 : decode prog_8_method_4_code 113 = .ok (.isub, 1) := by decide +kernel
theorem d_Law_answer_114 : decode prog_8_method_4_code 114 = .ok (.iload 6, 2) := by decide +kernel
theorem d_Law_answer_116 : decode prog_8_method_4_code 116 = .ok (.aload_n 3, 1) := by decide +kernel
theorem d_Law_answer_117 : decode prog_8_method_4_code 117 = .ok (.iload 4, 2) := by decide +kernel
theorem d_Law_answer_119 : decode prog_8_method_4_code 119 = .ok (.iconst 1, 1) := by decide +kernel
theorem d_Law_answer_120 : decode prog_8_method_4_code 120 = .ok (.isub, 1) := by decide +kernel
theorem d_Law_answer_121 : decode prog_8_method_4_code 121 = .ok (.iaload, 1) := by decide +kernel
theorem d_Law_answer_122 : decode prog_8_method_4_code 122 = .ok (.invokestatic 30, 3) := by decide +kernel
theorem d_Law_answer_125 : decode prog_8_method_4_code 125 = .ok (.iastore, 1) := by decide +kernel
theorem d_Law_answer_126 : decode prog_8_method_4_code 126 = .ok (.goto 37, 3) := by decide +kernel
theorem d_Law_answer_129 : decode prog_8_method_4_code 129 = .ok (.iload 4, 2) := by decide +kernel
theorem d_Law_answer_131 : decode prog_8_method_4_code 131 = .ok (.iconst 2, 1) := by decide +kernel
theorem d_Law_answer_132 : decode prog_8_method_4_code 132 = .ok (.if_icmp .ge 5, 3) := by decide +kernel
theorem d_Law_answer_135 : decode prog_8_method_4_code 135 = .ok (.iconst 0, 1) := by decide +kernel
theorem d_Law_answer_136 : decode prog_8_method_4_code 136 = .ok (.ireturn, 1) := by decide +kernel
theorem d_Law_answer_137 : decode prog_8_method_4_code 137 = .ok (.aload_n 3, 1) := by decide +kernel
theorem d_Law_answer_138 : decode prog_8_method_4_code 138 = .ok (.iload 4, 2) := by decide +kernel
theorem d_Law_answer_140 : decode prog_8_method_4_code 140 = .ok (.iconst 2, 1) := by decide +kernel
theorem d_Law_answer_141 : decode prog_8_method_4_code 141 = .ok (.isub, 1) := by decide +kernel
theorem d_Law_answer_142 : decode prog_8_method_4_code 142 = .ok (.iload 6, 2) := by decide +kernel
theorem d_Law_answer_144 : decode prog_8_method_4_code 144 = .ok (.aload_n 3, 1) := by decide +kernel
theorem d_Law_answer_145 : decode prog_8_method_4_code 145 = .ok (.iload 4, 2) := by decide +kernel
theorem d_Law_answer_147 : decode prog_8_method_4_code 147 = .ok (.iconst 2, 1) := by decide +kernel
theorem d_Law_answer_148 : decode prog_8_method_4_code 148 = .ok (.isub, 1) := by decide +kernel
theorem d_Law_answer_149 : decode prog_8_method_4_code 149 = .ok (.iaload, 1) := by decide +kernel
theorem d_Law_answer_150 : decode prog_8_method_4_code 150 = .ok (.aload_n 3, 1) := by decide +kernel
theorem d_Law_answer_151 : decode prog_8_method_4_code 151 = .ok (.iload 4, 2) := by decide +kernel
theorem d_Law_answer_153 : decode prog_8_method_4_code 153 = .ok (.iconst 1, 1) := by decide +kernel
theorem d_Law_answer_154 : decode prog_8_method_4_code 154 = .ok (.isub, 1) := by decide +kernel
theorem d_Law_answer_155 : decode prog_8_method_4_code 155 = .ok (.iaload, 1) := by decide +kernel
theorem d_Law_answer_156 : decode prog_8_method_4_code 156 = .ok (.invokestatic 34, 3) := by decide +kernel
theorem d_Law_answer_159 : decode prog_8_method_4_code 159 = .ok (.iastore, 1) := by decide +kernel
theorem d_Law_answer_160 : decode prog_8_method_4_code 160 = .ok (.iinc 4 (-1), 3) := by decide +kernel
theorem d_Law_answer_163 : decode prog_8_method_4_code 163 = .ok (.iinc 5 1, 3) := by decide +kernel
theorem d_Law_answer_166 : decode prog_8_method_4_code 166 = .ok (.goto (-144), 3) := by decide +kernel
theorem d_Law_answer_169 : decode prog_8_method_4_code 169 = .ok (.iload 4, 2) := by decide +kernel
theorem d_Law_answer_171 : decode prog_8_method_4_code 171 = .ok (.iconst 1, 1) := by decide +kernel
theorem d_Law_answer_172 : decode prog_8_method_4_code 172 = .ok (.if_icmp .ge 5, 3) := by decide +kernel
theorem d_Law_answer_175 : decode prog_8_method_4_code 175 = .ok (.iconst 0, 1) := by decide +kernel
theorem d_Law_answer_176 : decode prog_8_method_4_code 176 = .ok (.ireturn, 1) := by decide +kernel
theorem d_Law_answer_177 : decode prog_8_method_4_code 177 = .ok (.iconst 0, 1) := by decide +kernel
theorem d_Law_answer_178 : decode prog_8_method_4_code 178 = .ok (.iload_n 1, 1) := by decide +kernel
theorem d_Law_answer_179 : decode prog_8_method_4_code 179 = .ok (.ifCond .ne 9, 3) := by decide +kernel
theorem d_Law_answer_182 : decode prog_8_method_4_code 182 = .ok (.sipush 999, 3) := by decide +kernel
theorem d_Law_answer_185 : decode prog_8_method_4_code 185 = .ok (.goto 5, 3) := by decide +kernel
theorem d_Law_answer_188 : decode prog_8_method_4_code 188 = .ok (.bipush 99, 2) := by decide +kernel
theorem d_Law_answer_190 : decode prog_8_method_4_code 190 = .ok (.aload_n 3, 1) := by decide +kernel
theorem d_Law_answer_191 : decode prog_8_method_4_code 191 = .ok (.iconst 0, 1) := by decide +kernel
theorem d_Law_answer_192 : decode prog_8_method_4_code 192 = .ok (.iaload, 1) := by decide +kernel
theorem d_Law_answer_193 : decode prog_8_method_4_code 193 = .ok (.invokestatic 38, 3) := by decide +kernel
theorem d_Law_answer_196 : decode prog_8_method_4_code 196 = .ok (.invokestatic 43, 3) := by decide +kernel
theorem d_Law_answer_199 : decode prog_8_method_4_code 199 = .ok (.ireturn, 1) := by decide +kernel
def p_Law_answer_190 (Q : Int32 → AH → Prop) (a3 : Nat) (s0 : Int32) (s1 : Int32) (h : AH) : Prop := vA T1 h a3 ∧ (rS T1 h a3).1 = 100 ∧ inb 0 ((rS T1 h a3).2) ∧ p_Math_min (fun r5 h4 => p_Math_max (fun r7 h6 => Q r7 h6) s0 r5 h4) s1 (h.1 a3 0) h
def p_Law_answer_169 (Q : Int32 → AH → Prop) (x1 : Int32) (a3 : Nat) (x4 : Int32) (h : AH) : Prop := ((1 ≤ x4 → ((¬ x1 = 0 → p_Law_answer_190 Q   a3 0 99 h) ∧ (x1 = 0 → p_Law_answer_190 Q   a3 0 999 h))) ∧ (¬ 1 ≤ x4 → Q 0 h))
def p_Law_answer_163 (Q : Int32 → AH → Prop) (K22 : Nat → Int32 → Nat → Nat → Int32 → Int32 → AH → Prop) (a0 : Nat) (x1 : Int32) (a2 : Nat) (a3 : Nat) (x4 : Int32) (x5 : Int32) (h : AH) : Prop := K22 a0 x1 a2 a3 x4 (x5 + 1) h
def p_Law_answer_87 (Q : Int32 → AH → Prop) (K22 : Nat → Int32 → Nat → Nat → Int32 → Int32 → AH → Prop) (a0 : Nat) (x1 : Int32) (a2 : Nat) (a3 : Nat) (x4 : Int32) (x5 : Int32) (s0 : Nat) (s1 : Int32) (s2 : Int32) (h : AH) : Prop := vA T1 h s0 ∧ (rS T1 h s0).1 = 100 ∧ inb s1 ((rS T1 h s0).2) ∧ p_Law_answer_163 Q  K22 a0 x1 a2 a3 (x4 + 1) x5 (wI h s0 s1 s2)
def p_Law_answer_22 (Q : Int32 → AH → Prop) : Nat → Nat → Int32 → Nat → Nat → Int32 → Int32 → AH → Prop
  | 0 => fun _ _ _ _ _ _ _ => False
  | n + 1 => fun a0 x1 a2 a3 x4 x5 h => let K22 := p_Law_answer_22 Q n; vA T1 h a0 ∧ (rS T1 h a0).1 = 6 ∧ 0 < rR T1 h a0 1 ∧ vA T1 h (rR T1 h a0 1 - 1) ∧ (rS T1 h (rR T1 h a0 1 - 1)).1 = 100 ∧ inb (x1 + 1) ((rS T1 h (rR T1 h a0 1 - 1)).2) ∧ (((h.1 (rR T1 h a0 1 - 1) (x1 + 1)) ≤ x5 → p_Law_answer_169 Q   x1 a3 x4 h) ∧ (¬ (h.1 (rR T1 h a0 1 - 1) (x1 + 1)) ≤ x5 → ((160 ≤ x5 → p_Law_answer_169 Q   x1 a3 x4 h) ∧ (¬ 160 ≤ x5 → 0 < rR T1 h a0 0 ∧ vA T1 h (rR T1 h a0 0 - 1) ∧ (rS T1 h (rR T1 h a0 0 - 1)).1 = 100 ∧ inb x5 ((rS T1 h (rR T1 h a0 0 - 1)).2) ∧ (((h.1 (rR T1 h a0 0 - 1) x5) < (-6) → (((h.1 (rR T1 h a0 0 - 1) x5) < (-11) → ((2 ≤ x4 → vA T1 h a3 ∧ (rS T1 h a3).1 = 100 ∧ inb (x4 - 2) ((rS T1 h a3).2) ∧ inb (x4 - 1) ((rS T1 h a3).2) ∧ p_Law_joined (fun r16 h15 => vA T1 h15 a3 ∧ (rS T1 h15 a3).1 = 100 ∧ inb (x4 - 2) ((rS T1 h15 a3).2) ∧ p_Law_answer_163 Q  K22 a0 x1 a2 a3 (x4 + (-1)) x5 (wI h15 a3 (x4 - 2) r16)) (h.1 (rR T1 h a0 0 - 1) x5) (h.1 a3 (x4 - 2)) (h.1 a3 (x4 - 1)) h) ∧ (¬ 2 ≤ x4 → Q 0 h))) ∧ (¬ (h.1 (rR T1 h a0 0 - 1) x5) < (-11) → ((1 ≤ x4 → vA T1 h a3 ∧ (rS T1 h a3).1 = 100 ∧ inb (x4 - 1) ((rS T1 h a3).2) ∧ p_Law_signed (fun r24 h23 => vA T1 h23 a3 ∧ (rS T1 h23 a3).1 = 100 ∧ inb (x4 - 1) ((rS T1 h23 a3).2) ∧ p_Law_answer_163 Q  K22 a0 x1 a2 a3 x4 x5 (wI h23 a3 (x4 - 1) r24)) (h.1 (rR T1 h a0 0 - 1) x5) (h.1 a3 (x4 - 1)) h) ∧ (¬ 1 ≤ x4 → Q 0 h))))) ∧ (¬ (h.1 (rR T1 h a0 0 - 1) x5) < (-6) → vA T1 h a3 ∧ (rS T1 h a3).1 = 100 ∧ ((x4 < (Int32.ofNat (rS T1 h a3).2) → (((h.1 (rR T1 h a0 0 - 1) x5) < 0 → vA T1 h a2 ∧ (rS T1 h a2).1 = 100 ∧ inb ((-1) - (h.1 (rR T1 h a0 0 - 1) x5)) ((rS T1 h a2).2) ∧ p_Law_answer_87 Q  K22 a0 x1 a2 a3 x4 x5 a3 x4 (h.1 a2 ((-1) - (h.1 (rR T1 h a0 0 - 1) x5))) h) ∧ (¬ (h.1 (rR T1 h a0 0 - 1) x5) < 0 → p_Law_answer_87 Q  K22 a0 x1 a2 a3 x4 x5 a3 x4 (h.1 (rR T1 h a0 0 - 1) x5) h))) ∧ (¬ x4 < (Int32.ofNat (rS T1 h a3).2) → Q 0 h))))))))
def p_Law_answer (Q : Int32 → AH → Prop) (a0 : Nat) (x1 : Int32) (a2 : Nat) (a3 : Nat) (h : AH) : Prop := p_UF_within (fun r2 h1 => ((¬ r2 = 0 → vA T1 h1 a0 ∧ (rS T1 h1 a0).1 = 6 ∧ 0 < rR T1 h1 a0 1 ∧ vA T1 h1 (rR T1 h1 a0 1 - 1) ∧ (rS T1 h1 (rR T1 h1 a0 1 - 1)).1 = 100 ∧ inb x1 ((rS T1 h1 (rR T1 h1 a0 1 - 1)).2) ∧ ∃ n, p_Law_answer_22 Q   n a0 x1 a2 a3 0 (h1.1 (rR T1 h1 a0 1 - 1) x1) h1) ∧ (r2 = 0 → Q 0 h1))) x1 0 2 h
set_option maxRecDepth 20000 in
theorem r_Law_answer_190 {G : GG} {d : Nat} {Q : Int32 → AH → Prop} (a3 : Nat) (s0 : Int32) (s1 : Int32) (h : AH) (H : p_Law_answer_190 Q a3 s0 s1 h) : Att G T1 m_Law_answer (d + 1) 190 [none, none, none, some (.ref a3), none, none, none] [.int s1, .int s0] h 0 0 (iQ Q) := by
  refine A_aload_n d_Law_answer_190 rfl ?_
  refine A_iconst 0 (by decide) d_Law_answer_191 ?_
  obtain ⟨c1, H⟩ := H
  obtain ⟨c2, H⟩ := H
  obtain ⟨c3, H⟩ := H
  refine A_iald (n := _) d_Law_answer_192 c1 (rS_ex c2) c3 ?_
  refine A_cI [.int s1, .int (h.1 a3 0)] [.int s0] (ct_Law_38 rfl) d_Law_answer_193 rfl rfl (by decide) (Nat.le_of_ble_eq_true rfl) trivial (ok_Math_min (d := d) H) (fun r5 h4 H => ?_)
  refine A_cI [.int s0, .int r5] [] (ct_Law_43 rfl) d_Law_answer_196 rfl rfl (by decide) (Nat.le_of_ble_eq_true rfl) trivial (ok_Math_max (d := d) H) (fun r7 h6 H => ?_)
  exact A_iret d_Law_answer_199 rfl rfl H
set_option maxRecDepth 20000 in
theorem r_Law_answer_169 {G : GG} {d : Nat} {Q : Int32 → AH → Prop} (x1 : Int32) (a3 : Nat) (x4 : Int32) (h : AH) (H : p_Law_answer_169 Q x1 a3 x4 h) : Att G T1 m_Law_answer (d + 1) 169 [none, some (.int x1), none, some (.ref a3), some (.int x4), none, none] [] h 0 0 (iQ Q) := by
  refine A_iload d_Law_answer_169 rfl ?_
  refine A_iconst 1 (by decide) d_Law_answer_171 ?_
  refine A_icmp_ge 177 d_Law_answer_172 (by decide) (fun z => ?_) (fun z => ?_)
  · have H := H.1 z
    refine A_iconst 0 (by decide) d_Law_answer_177 ?_
    refine A_iload_n d_Law_answer_178 rfl ?_
    refine A_if_ne 188 d_Law_answer_179 (by decide) (fun z => ?_) (fun z => ?_)
    · have H := H.1 z
      refine A_bipush 99 (by decide) d_Law_answer_188 ?_
      refine A_sub (L' := [none, none, none, some (.ref a3), none, none, none]) ⟨rfl, trivial⟩ ?_
      exact r_Law_answer_190   _ _ _ _ H
    · have H := H.2 z
      refine A_sipush 999 (by decide) d_Law_answer_182 ?_
      refine A_goto 190 d_Law_answer_185 (by decide) ?_
      refine A_sub (L' := [none, none, none, some (.ref a3), none, none, none]) ⟨rfl, trivial⟩ ?_
      exact r_Law_answer_190   _ _ _ _ H
  · have H := H.2 z
    refine A_iconst 0 (by decide) d_Law_answer_175 ?_
    exact A_iret d_Law_answer_176 rfl rfl H
set_option maxRecDepth 20000 in
theorem r_Law_answer_163 {G : GG} {d : Nat} {Q : Int32 → AH → Prop} {K22 : Nat → Int32 → Nat → Nat → Int32 → Int32 → AH → Prop} (k22 : ∀ a0 x1 a2 a3 x4 x5 h, K22 a0 x1 a2 a3 x4 x5 h → Att G T1 m_Law_answer (d + 1) 22 [some (.ref a0), some (.int x1), some (.ref a2), some (.ref a3), some (.int x4), some (.int x5), none] [] h 0 0 (iQ Q)) (a0 : Nat) (x1 : Int32) (a2 : Nat) (a3 : Nat) (x4 : Int32) (x5 : Int32) (h : AH) (H : p_Law_answer_163 Q K22 a0 x1 a2 a3 x4 x5 h) : Att G T1 m_Law_answer (d + 1) 163 [some (.ref a0), some (.int x1), some (.ref a2), some (.ref a3), some (.int x4), some (.int x5), none] [] h 0 0 (iQ Q) := by
  refine A_iinc 1 [some (.ref a0), some (.int x1), some (.ref a2), some (.ref a3), some (.int x4), some (.int (x5 + 1)), none] d_Law_answer_163 rfl (by decide) (by decide) rfl rfl ?_
  refine A_goto 22 d_Law_answer_166 (by decide) ?_
  exact k22 _ _ _ _ _ _ _ H
set_option maxRecDepth 20000 in
theorem r_Law_answer_87 {G : GG} {d : Nat} {Q : Int32 → AH → Prop} {K22 : Nat → Int32 → Nat → Nat → Int32 → Int32 → AH → Prop} (k22 : ∀ a0 x1 a2 a3 x4 x5 h, K22 a0 x1 a2 a3 x4 x5 h → Att G T1 m_Law_answer (d + 1) 22 [some (.ref a0), some (.int x1), some (.ref a2), some (.ref a3), some (.int x4), some (.int x5), none] [] h 0 0 (iQ Q)) (a0 : Nat) (x1 : Int32) (a2 : Nat) (a3 : Nat) (x4 : Int32) (x5 : Int32) (s0 : Nat) (s1 : Int32) (s2 : Int32) (h : AH) (H : p_Law_answer_87 Q K22 a0 x1 a2 a3 x4 x5 s0 s1 s2 h) : Att G T1 m_Law_answer (d + 1) 87 [some (.ref a0), some (.int x1), some (.ref a2), some (.ref a3), some (.int x4), some (.int x5), none] [.int s2, .int s1, .ref s0] h 0 0 (iQ Q) := by
  obtain ⟨c1, H⟩ := H
  obtain ⟨c2, H⟩ := H
  obtain ⟨c3, H⟩ := H
  refine A_iast (n := _) d_Law_answer_87 c1 (rS_ex c2) c3 ?_
  refine A_iinc 1 [some (.ref a0), some (.int x1), some (.ref a2), some (.ref a3), some (.int (x4 + 1)), some (.int x5), none] d_Law_answer_88 rfl (by decide) (by decide) rfl rfl ?_
  refine A_goto 163 d_Law_answer_91 (by decide) ?_
  exact r_Law_answer_163  k22 _ _ _ _ _ _ _ H
set_option maxRecDepth 20000 in
theorem r_Law_answer_22 {G : GG} {d : Nat} {Q : Int32 → AH → Prop} : ∀ (n : Nat) (a0 : Nat) (x1 : Int32) (a2 : Nat) (a3 : Nat) (x4 : Int32) (x5 : Int32) (h : AH), p_Law_answer_22 Q n a0 x1 a2 a3 x4 x5 h → Att G T1 m_Law_answer (d + 1) 22 [some (.ref a0), some (.int x1), some (.ref a2), some (.ref a3), some (.int x4), some (.int x5), none] [] h 0 0 (iQ Q) := by
  intro n
  induction n with
  | zero => intro a0 x1 a2 a3 x4 x5 h H; exact H.elim
  | succ n k22 =>
    intro a0 x1 a2 a3 x4 x5 h H
    refine A_iload d_Law_answer_22 rfl ?_
    refine A_aload_n d_Law_answer_24 rfl ?_
    obtain ⟨c1, H⟩ := H
    obtain ⟨c2, H⟩ := H
    obtain ⟨c3, H⟩ := H
    refine A_get (v := .ref (rR T1 h a0 1 - 1)) d_Law_answer_25 (fo_Law_15_6 rfl) c1 c2 (vR_pos c3) ?_
    refine A_iload_n d_Law_answer_28 rfl ?_
    refine A_iconst 1 (by decide) d_Law_answer_29 ?_
    refine A_iadd d_Law_answer_30 ?_
    obtain ⟨c4, H⟩ := H
    obtain ⟨c5, H⟩ := H
    obtain ⟨c6, H⟩ := H
    refine A_iald (n := _) d_Law_answer_31 c4 (rS_ex c5) c6 ?_
    refine A_icmp_ge 169 d_Law_answer_32 (by decide) (fun z => ?_) (fun z => ?_)
    · have H := H.1 z
      refine A_sub (L' := [none, some (.int x1), none, some (.ref a3), some (.int x4), none, none]) ⟨rfl, rfl, rfl, trivial⟩ ?_
      exact r_Law_answer_169   _ _ _ _ H
    · have H := H.2 z
      refine A_iload d_Law_answer_35 rfl ?_
      refine A_sipush 160 (by decide) d_Law_answer_37 ?_
      refine A_icmp_ge 169 d_Law_answer_40 (by decide) (fun z => ?_) (fun z => ?_)
      · have H := H.1 z
        refine A_sub (L' := [none, some (.int x1), none, some (.ref a3), some (.int x4), none, none]) ⟨rfl, rfl, rfl, trivial⟩ ?_
        exact r_Law_answer_169   _ _ _ _ H
      · have H := H.2 z
        refine A_aload_n d_Law_answer_43 rfl ?_
        obtain ⟨c7, H⟩ := H
        refine A_get (v := .ref (rR T1 h a0 0 - 1)) d_Law_answer_44 (fo_Law_11_6 rfl) c1 c2 (vR_pos c7) ?_
        refine A_iload d_Law_answer_47 rfl ?_
        obtain ⟨c8, H⟩ := H
        obtain ⟨c9, H⟩ := H
        obtain ⟨c10, H⟩ := H
        refine A_iald (n := _) d_Law_answer_49 c8 (rS_ex c9) c10 ?_
        refine A_istore [some (.ref a0), some (.int x1), some (.ref a2), some (.ref a3), some (.int x4), some (.int x5), some (.int (h.1 (rR T1 h a0 0 - 1) x5))] d_Law_answer_50 (by decide) rfl rfl ?_
        refine A_iload d_Law_answer_52 rfl ?_
        refine A_bipush (-6) (by decide) d_Law_answer_54 ?_
        refine A_icmp_lt 94 d_Law_answer_56 (by decide) (fun z => ?_) (fun z => ?_)
        · have H := H.1 z
          refine A_iload d_Law_answer_94 rfl ?_
          refine A_bipush (-11) (by decide) d_Law_answer_96 ?_
          refine A_icmp_lt 129 d_Law_answer_98 (by decide) (fun z => ?_) (fun z => ?_)
          · have H := H.1 z
            refine A_iload d_Law_answer_129 rfl ?_
            refine A_iconst 2 (by decide) d_Law_answer_131 ?_
            refine A_icmp_ge 137 d_Law_answer_132 (by decide) (fun z => ?_) (fun z => ?_)
            · have H := H.1 z
              refine A_aload_n d_Law_answer_137 rfl ?_
              refine A_iload d_Law_answer_138 rfl ?_
              refine A_iconst 2 (by decide) d_Law_answer_140 ?_
              refine A_isub d_Law_answer_141 ?_
              refine A_iload d_Law_answer_142 rfl ?_
              refine A_aload_n d_Law_answer_144 rfl ?_
              refine A_iload d_Law_answer_145 rfl ?_
              refine A_iconst 2 (by decide) d_Law_answer_147 ?_
              refine A_isub d_Law_answer_148 ?_
              obtain ⟨c11, H⟩ := H
              obtain ⟨c12, H⟩ := H
              obtain ⟨c13, H⟩ := H
              refine A_iald (n := _) d_Law_answer_149 c11 (rS_ex c12) c13 ?_
              refine A_aload_n d_Law_answer_150 rfl ?_
              refine A_iload d_Law_answer_151 rfl ?_
              refine A_iconst 1 (by decide) d_Law_answer_153 ?_
              refine A_isub d_Law_answer_154 ?_
              obtain ⟨c14, H⟩ := H
              refine A_iald (n := _) d_Law_answer_155 c11 (rS_ex c12) c14 ?_
              refine A_cI [.int (h.1 (rR T1 h a0 0 - 1) x5), .int (h.1 a3 (x4 - 2)), .int (h.1 a3 (x4 - 1))] [.int (x4 - 2), .ref a3] (ct_Law_34 rfl) d_Law_answer_156 rfl rfl (by decide) (Nat.le_of_ble_eq_true rfl) trivial (ok_Law_joined (d := d) H) (fun r16 h15 H => ?_)
              obtain ⟨c17, H⟩ := H
              obtain ⟨c18, H⟩ := H
              obtain ⟨c19, H⟩ := H
              refine A_iast (n := _) d_Law_answer_159 c17 (rS_ex c18) c19 ?_
              refine A_iinc (-1) [some (.ref a0), some (.int x1), some (.ref a2), some (.ref a3), some (.int (x4 + (-1))), some (.int x5), some (.int (h.1 (rR T1 h a0 0 - 1) x5))] d_Law_answer_160 rfl (by decide) (by decide) rfl rfl ?_
              refine A_sub (L' := [some (.ref a0), some (.int x1), some (.ref a2), some (.ref a3), some (.int (x4 + (-1))), some (.int x5), none]) ⟨rfl, rfl, rfl, rfl, rfl, rfl, trivial⟩ ?_
              exact r_Law_answer_163  k22 _ _ _ _ _ _ _ H
            · have H := H.2 z
              refine A_iconst 0 (by decide) d_Law_answer_135 ?_
              exact A_iret d_Law_answer_136 rfl rfl H
          · have H := H.2 z
            refine A_iload d_Law_answer_101 rfl ?_
            refine A_iconst 1 (by decide) d_Law_answer_103 ?_
            refine A_icmp_ge 109 d_Law_answer_104 (by decide) (fun z => ?_) (fun z => ?_)
            · have H := H.1 z
              refine A_aload_n d_Law_answer_109 rfl ?_
              refine A_iload d_Law_answer_110 rfl ?_
              refine A_iconst 1 (by decide) d_Law_answer_112 ?_
              refine A_isub d_Law_answer_113 ?_
              refine A_iload d_Law_answer_114 rfl ?_
              refine A_aload_n d_Law_answer_116 rfl ?_
              refine A_iload d_Law_answer_117 rfl ?_
              refine A_iconst 1 (by decide) d_Law_answer_119 ?_
              refine A_isub d_Law_answer_120 ?_
              obtain ⟨c20, H⟩ := H
              obtain ⟨c21, H⟩ := H
              obtain ⟨c22, H⟩ := H
              refine A_iald (n := _) d_Law_answer_121 c20 (rS_ex c21) c22 ?_
              refine A_cI [.int (h.1 (rR T1 h a0 0 - 1) x5), .int (h.1 a3 (x4 - 1))] [.int (x4 - 1), .ref a3] (ct_Law_30 rfl) d_Law_answer_122 rfl rfl (by decide) (Nat.le_of_ble_eq_true rfl) trivial (ok_Law_signed (d := d) H) (fun r24 h23 H => ?_)
              obtain ⟨c25, H⟩ := H
              obtain ⟨c26, H⟩ := H
              obtain ⟨c27, H⟩ := H
              refine A_iast (n := _) d_Law_answer_125 c25 (rS_ex c26) c27 ?_
              refine A_goto 163 d_Law_answer_126 (by decide) ?_
              refine A_sub (L' := [some (.ref a0), some (.int x1), some (.ref a2), some (.ref a3), some (.int x4), some (.int x5), none]) ⟨rfl, rfl, rfl, rfl, rfl, rfl, trivial⟩ ?_
              exact r_Law_answer_163  k22 _ _ _ _ _ _ _ H
            · have H := H.2 z
              refine A_iconst 0 (by decide) d_Law_answer_107 ?_
              exact A_iret d_Law_answer_108 rfl rfl H
        · have H := H.2 z
          refine A_iload d_Law_answer_59 rfl ?_
          refine A_aload_n d_Law_answer_61 rfl ?_
          obtain ⟨c28, H⟩ := H
          obtain ⟨c29, H⟩ := H
          refine A_alenI d_Law_answer_62 c28 (rS_ex c29) ?_
          refine A_icmp_lt 68 d_Law_answer_63 (by decide) (fun z => ?_) (fun z => ?_)
          · have H := H.1 z
            refine A_aload_n d_Law_answer_68 rfl ?_
            refine A_iload d_Law_answer_69 rfl ?_
            refine A_iload d_Law_answer_71 rfl ?_
            refine A_if_lt 81 d_Law_answer_73 (by decide) (fun z => ?_) (fun z => ?_)
            · have H := H.1 z
              refine A_aload_n d_Law_answer_81 rfl ?_
              refine A_iconst (-1) (by decide) d_Law_answer_82 ?_
              refine A_iload d_Law_answer_83 rfl ?_
              refine A_isub d_Law_answer_85 ?_
              obtain ⟨c30, H⟩ := H
              obtain ⟨c31, H⟩ := H
              obtain ⟨c32, H⟩ := H
              refine A_iald (n := _) d_Law_answer_86 c30 (rS_ex c31) c32 ?_
              refine A_sub (L' := [some (.ref a0), some (.int x1), some (.ref a2), some (.ref a3), some (.int x4), some (.int x5), none]) ⟨rfl, rfl, rfl, rfl, rfl, rfl, trivial⟩ ?_
              exact r_Law_answer_87  k22 _ _ _ _ _ _ _ _ _ _ H
            · have H := H.2 z
              refine A_iload d_Law_answer_76 rfl ?_
              refine A_goto 87 d_Law_answer_78 (by decide) ?_
              refine A_sub (L' := [some (.ref a0), some (.int x1), some (.ref a2), some (.ref a3), some (.int x4), some (.int x5), none]) ⟨rfl, rfl, rfl, rfl, rfl, rfl, trivial⟩ ?_
              exact r_Law_answer_87  k22 _ _ _ _ _ _ _ _ _ _ H
          · have H := H.2 z
            refine A_iconst 0 (by decide) d_Law_answer_66 ?_
            exact A_iret d_Law_answer_67 rfl rfl H
set_option maxRecDepth 20000 in
theorem r_Law_answer_0 {G : GG} {d : Nat} {Q : Int32 → AH → Prop} (a0 : Nat) (x1 : Int32) (a2 : Nat) (a3 : Nat) (h : AH) (H : p_Law_answer Q a0 x1 a2 a3 h) : Att G T1 m_Law_answer (d + 1) 0 [some (.ref a0), some (.int x1), some (.ref a2), some (.ref a3), none, none, none] [] h 0 0 (iQ Q) := by
  refine A_iload_n d_Law_answer_0 rfl ?_
  refine A_iconst 0 (by decide) d_Law_answer_1 ?_
  refine A_iconst 2 (by decide) d_Law_answer_2 ?_
  refine A_cI [.int x1, .int 0, .int 2] [] (ct_Law_26 rfl) d_Law_answer_3 rfl rfl (by decide) (Nat.le_of_ble_eq_true rfl) trivial (ok_UF_within (d := d) H) (fun r2 h1 H => ?_)
  refine A_if_ne 11 d_Law_answer_6 (by decide) (fun z => ?_) (fun z => ?_)
  · have H := H.1 z
    refine A_iconst 0 (by decide) d_Law_answer_11 ?_
    refine A_istore [some (.ref a0), some (.int x1), some (.ref a2), some (.ref a3), some (.int 0), none, none] d_Law_answer_12 (by decide) rfl rfl ?_
    refine A_aload_n d_Law_answer_14 rfl ?_
    obtain ⟨c3, H⟩ := H
    obtain ⟨c4, H⟩ := H
    obtain ⟨c5, H⟩ := H
    refine A_get (v := .ref (rR T1 h1 a0 1 - 1)) d_Law_answer_15 (fo_Law_15_6 rfl) c3 c4 (vR_pos c5) ?_
    refine A_iload_n d_Law_answer_18 rfl ?_
    obtain ⟨c6, H⟩ := H
    obtain ⟨c7, H⟩ := H
    obtain ⟨c8, H⟩ := H
    refine A_iald (n := _) d_Law_answer_19 c6 (rS_ex c7) c8 ?_
    refine A_istore [some (.ref a0), some (.int x1), some (.ref a2), some (.ref a3), some (.int 0), some (.int (h1.1 (rR T1 h1 a0 1 - 1) x1)), none] d_Law_answer_20 (by decide) rfl rfl ?_
    obtain ⟨n9, H⟩ := H
    exact r_Law_answer_22   n9 _ _ _ _ _ _ _ H
  · have H := H.2 z
    refine A_iconst 0 (by decide) d_Law_answer_9 ?_
    exact A_iret d_Law_answer_10 rfl rfl H
set_option maxRecDepth 20000 in
theorem ok_Law_answer {G : GG} {d : Nat} {Q : Int32 → AH → Prop} {a0 : Nat} {x1 : Int32} {a2 : Nat} {a3 : Nat} {h : AH} (H : p_Law_answer Q a0 x1 a2 a3 h) : WP G T1 m_Law_answer (d + 1) [.ref a0, .int x1, .ref a2, .ref a3] h 0 0 (iQ Q) := by
  exact WP.enter 3 (by decide) rfl rfl (r_Law_answer_0 a0 x1 a2 a3 h H)
theorem d_Town_loosen_0 : decode prog_12_method_4_code 0 = .ok (.aload_n 0, 1) := by decide +kernel
theorem d_Town_loosen_1 : decode prog_12_method_4_code 1 = .ok (.getfield 18, 3) := by decide +kernel
theorem d_Town_loosen_4 : decode prog_12_method_4_code 4 = .ok (.iload_n 1, 1) := by decide +kernel
theorem d_Town_loosen_5 : decode prog_12_method_4_code 5 = .ok (.iaload, 1) := by decide +kernel
theorem d_Town_loosen_6 : decode prog_12_method_4_code 6 = .ok (.istore_n 2, 1) := by decide +kernel
theorem d_Town_loosen_7 : decode prog_12_method_4_code 7 = .ok (.iload_n 2, 1) := by decide +kernel
theorem d_Town_loosen_8 : decode prog_12_method_4_code 8 = .ok (.iconst 0, 1) := by decide +kernel
theorem d_Town_loosen_9 : decode prog_12_method_4_code 9 = .ok (.bipush 6, 2) := by decide +kernel
theorem d_Town_loosen_11 : decode prog_12_method_4_code 11 = .ok (.invokestatic 34, 3) := by decide +kernel
theorem d_Town_loosen_14 : decode prog_12_method_4_code 14 = .ok (.ifCond .eq 10, 3) := by decide +kernel
theorem d_Town_loosen_17 : decode prog_12_method_4_code 17 = .ok (.aload_n 0, 1) := by decide +kernel
theorem d_Town_loosen_18 : decode prog_12_method_4_code 18 = .ok (.getfield 18, 3) := by decide +kernel
theorem d_Town_loosen_21 : decode prog_12_method_4_code 21 = .ok (.iload_n 2, 1) := by decide +kernel
theorem d_Town_loosen_22 : decode prog_12_method_4_code 22 = .ok (.iconst (-1), 1) := by decide +kernel
theorem d_Town_loosen_23 : decode prog_12_method_4_code 23 = .ok (.iastore, 1) := by decide +kernel
theorem d_Town_loosen_24 : decode prog_12_method_4_code 24 = .ok (.aload_n 0, 1) := by decide +kernel
theorem d_Town_loosen_25 : decode prog_12_method_4_code 25 = .ok (.getfield 18, 3) := by decide +kernel
theorem d_Town_loosen_28 : decode prog_12_method_4_code 28 = .ok (.iload_n 1, 1) := by decide +kernel
theorem d_Town_loosen_29 : decode prog_12_method_4_code 29 = .ok (.iconst (-1), 1) := by decide +kernel
theorem d_Town_loosen_30 : decode prog_12_method_4_code 30 = .ok (.iastore, 1) := by decide +kernel
theorem d_Town_loosen_31 : decode prog_12_method_4_code 31 = .ok (.return_, 1) := by decide +kernel
def p_Town_loosen (Q : AH → Prop) (a0 : Nat) (x1 : Int32) (h : AH) : Prop := vA T1 h a0 ∧ (rS T1 h a0).1 = 10 ∧ 0 < rR T1 h a0 2 ∧ vA T1 h (rR T1 h a0 2 - 1) ∧ (rS T1 h (rR T1 h a0 2 - 1)).1 = 100 ∧ inb x1 ((rS T1 h (rR T1 h a0 2 - 1)).2) ∧ p_UF_within (fun r8 h7 => ((r8 = 0 → vA T1 h7 a0 ∧ (rS T1 h7 a0).1 = 10 ∧ 0 < rR T1 h7 a0 2 ∧ vA T1 h7 (rR T1 h7 a0 2 - 1) ∧ (rS T1 h7 (rR T1 h7 a0 2 - 1)).1 = 100 ∧ inb x1 ((rS T1 h7 (rR T1 h7 a0 2 - 1)).2) ∧ Q (wI h7 (rR T1 h7 a0 2 - 1) x1 (-1))) ∧ (¬ r8 = 0 → vA T1 h7 a0 ∧ (rS T1 h7 a0).1 = 10 ∧ 0 < rR T1 h7 a0 2 ∧ vA T1 h7 (rR T1 h7 a0 2 - 1) ∧ (rS T1 h7 (rR T1 h7 a0 2 - 1)).1 = 100 ∧ inb (h.1 (rR T1 h a0 2 - 1) x1) ((rS T1 h7 (rR T1 h7 a0 2 - 1)).2) ∧ 0 < rR T1 (wI h7 (rR T1 h7 a0 2 - 1) (h.1 (rR T1 h a0 2 - 1) x1) (-1)) a0 2 ∧ vA T1 (wI h7 (rR T1 h7 a0 2 - 1) (h.1 (rR T1 h a0 2 - 1) x1) (-1)) (rR T1 (wI h7 (rR T1 h7 a0 2 - 1) (h.1 (rR T1 h a0 2 - 1) x1) (-1)) a0 2 - 1) ∧ (rS T1 (wI h7 (rR T1 h7 a0 2 - 1) (h.1 (rR T1 h a0 2 - 1) x1) (-1)) (rR T1 (wI h7 (rR T1 h7 a0 2 - 1) (h.1 (rR T1 h a0 2 - 1) x1) (-1)) a0 2 - 1)).1 = 100 ∧ inb x1 ((rS T1 (wI h7 (rR T1 h7 a0 2 - 1) (h.1 (rR T1 h a0 2 - 1) x1) (-1)) (rR T1 (wI h7 (rR T1 h7 a0 2 - 1) (h.1 (rR T1 h a0 2 - 1) x1) (-1)) a0 2 - 1)).2) ∧ Q (wI (wI h7 (rR T1 h7 a0 2 - 1) (h.1 (rR T1 h a0 2 - 1) x1) (-1)) (rR T1 (wI h7 (rR T1 h7 a0 2 - 1) (h.1 (rR T1 h a0 2 - 1) x1) (-1)) a0 2 - 1) x1 (-1))))) (h.1 (rR T1 h a0 2 - 1) x1) 0 6 h
set_option maxRecDepth 20000 in
theorem r_Town_loosen_0 {G : GG} {d : Nat} {Q : AH → Prop} (a0 : Nat) (x1 : Int32) (h : AH) (H : p_Town_loosen Q a0 x1 h) : Att G T1 m_Town_loosen (d + 1) 0 [some (.ref a0), some (.int x1), none] [] h 0 0 (vQ Q) := by
  refine A_aload_n d_Town_loosen_0 rfl ?_
  obtain ⟨c1, H⟩ := H
  obtain ⟨c2, H⟩ := H
  obtain ⟨c3, H⟩ := H
  refine A_get (v := .ref (rR T1 h a0 2 - 1)) d_Town_loosen_1 (fo_Town_18_10 rfl) c1 c2 (vR_pos c3) ?_
  refine A_iload_n d_Town_loosen_4 rfl ?_
  obtain ⟨c4, H⟩ := H
  obtain ⟨c5, H⟩ := H
  obtain ⟨c6, H⟩ := H
  refine A_iald (n := _) d_Town_loosen_5 c4 (rS_ex c5) c6 ?_
  refine A_istore_n [some (.ref a0), some (.int x1), some (.int (h.1 (rR T1 h a0 2 - 1) x1))] d_Town_loosen_6 (by decide) rfl rfl ?_
  refine A_iload_n d_Town_loosen_7 rfl ?_
  refine A_iconst 0 (by decide) d_Town_loosen_8 ?_
  refine A_bipush 6 (by decide) d_Town_loosen_9 ?_
  refine A_cI [.int (h.1 (rR T1 h a0 2 - 1) x1), .int 0, .int 6] [] (ct_Town_34 rfl) d_Town_loosen_11 rfl rfl (by decide) (Nat.le_of_ble_eq_true rfl) trivial (ok_UF_within (d := d) H) (fun r8 h7 H => ?_)
  refine A_if_eq 24 d_Town_loosen_14 (by decide) (fun z => ?_) (fun z => ?_)
  · have H := H.1 z
    refine A_aload_n d_Town_loosen_24 rfl ?_
    obtain ⟨c9, H⟩ := H
    obtain ⟨c10, H⟩ := H
    obtain ⟨c11, H⟩ := H
    refine A_get (v := .ref (rR T1 h7 a0 2 - 1)) d_Town_loosen_25 (fo_Town_18_10 rfl) c9 c10 (vR_pos c11) ?_
    refine A_iload_n d_Town_loosen_28 rfl ?_
    refine A_iconst (-1) (by decide) d_Town_loosen_29 ?_
    obtain ⟨c12, H⟩ := H
    obtain ⟨c13, H⟩ := H
    obtain ⟨c14, H⟩ := H
    refine A_iast (n := _) d_Town_loosen_30 c12 (rS_ex c13) c14 ?_
    exact A_ret d_Town_loosen_31 rfl H
  · have H := H.2 z
    refine A_aload_n d_Town_loosen_17 rfl ?_
    obtain ⟨c15, H⟩ := H
    obtain ⟨c16, H⟩ := H
    obtain ⟨c17, H⟩ := H
    refine A_get (v := .ref (rR T1 h7 a0 2 - 1)) d_Town_loosen_18 (fo_Town_18_10 rfl) c15 c16 (vR_pos c17) ?_
    refine A_iload_n d_Town_loosen_21 rfl ?_
    refine A_iconst (-1) (by decide) d_Town_loosen_22 ?_
    obtain ⟨c18, H⟩ := H
    obtain ⟨c19, H⟩ := H
    obtain ⟨c20, H⟩ := H
    refine A_iast (n := _) d_Town_loosen_23 c18 (rS_ex c19) c20 ?_
    refine A_aload_n d_Town_loosen_24 rfl ?_
    obtain ⟨c21, H⟩ := H
    refine A_get (v := .ref (rR T1 (wI h7 (rR T1 h7 a0 2 - 1) (h.1 (rR T1 h a0 2 - 1) x1) (-1)) a0 2 - 1)) d_Town_loosen_25 (fo_Town_18_10 rfl) c15 c16 (vR_pos c21) ?_
    refine A_iload_n d_Town_loosen_28 rfl ?_
    refine A_iconst (-1) (by decide) d_Town_loosen_29 ?_
    obtain ⟨c22, H⟩ := H
    obtain ⟨c23, H⟩ := H
    obtain ⟨c24, H⟩ := H
    refine A_iast (n := _) d_Town_loosen_30 c22 (rS_ex c23) c24 ?_
    exact A_ret d_Town_loosen_31 rfl H
set_option maxRecDepth 20000 in
theorem ok_Town_loosen {G : GG} {d : Nat} {Q : AH → Prop} {a0 : Nat} {x1 : Int32} {h : AH} (H : p_Town_loosen Q a0 x1 h) : WP G T1 m_Town_loosen (d + 1) [.ref a0, .int x1] h 0 0 (vQ Q) := by
  exact WP.enter 1 (by decide) rfl rfl (r_Town_loosen_0 a0 x1 h H)
theorem d_UF_isSpan_0 : decode prog_1_method_39_code 0 = .ok (.iload_n 0, 1) := by decide +kernel
theorem d_UF_isSpan_1 : decode prog_1_method_39_code 1 = .ok (.iconst 0, 1) := by decide +kernel
theorem d_UF_isSpan_2 : decode prog_1_method_39_code 2 = .ok (.bipush 24, 2) := by decide +kernel
theorem d_UF_isSpan_4 : decode prog_1_method_39_code 4 = .ok (.invokestatic 95, 3) := by decide +kernel
theorem d_UF_isSpan_7 : decode prog_1_method_39_code 7 = .ok (.ireturn, 1) := by decide +kernel
def p_UF_isSpan (Q : Int32 → AH → Prop) (x0 : Int32) (h : AH) : Prop := p_UF_within (fun r2 h1 => narrow .boolean (.int r2) = .int r2 ∧ Q r2 h1) x0 0 24 h
set_option maxRecDepth 20000 in
theorem r_UF_isSpan_0 {G : GG} {d : Nat} {Q : Int32 → AH → Prop} (x0 : Int32) (h : AH) (H : p_UF_isSpan Q x0 h) : Att G T1 m_UF_isSpan (d + 1) 0 [some (.int x0)] [] h 0 0 (iQ Q) := by
  refine A_iload_n d_UF_isSpan_0 rfl ?_
  refine A_iconst 0 (by decide) d_UF_isSpan_1 ?_
  refine A_bipush 24 (by decide) d_UF_isSpan_2 ?_
  refine A_cI [.int x0, .int 0, .int 24] [] (ct_UF_95 rfl) d_UF_isSpan_4 rfl rfl (by decide) (Nat.le_of_ble_eq_true rfl) trivial (ok_UF_within (d := d) H) (fun r2 h1 H => ?_)
  exact A_iret d_UF_isSpan_7 rfl H.1 H.2
set_option maxRecDepth 20000 in
theorem ok_UF_isSpan {G : GG} {d : Nat} {Q : Int32 → AH → Prop} {x0 : Int32} {h : AH} (H : p_UF_isSpan Q x0 h) : WP G T1 m_UF_isSpan (d + 1) [.int x0] h 0 0 (iQ Q) := by
  exact WP.enter 0 (by decide) rfl rfl (r_UF_isSpan_0 x0 h H)
theorem d_Town_downBits_0 : decode prog_12_method_11_code 0 = .ok (.iconst 0, 1) := by decide +kernel
theorem d_Town_downBits_1 : decode prog_12_method_11_code 1 = .ok (.istore_n 1, 1) := by decide +kernel
theorem d_Town_downBits_2 : decode prog_12_method_11_code 2 = .ok (.iconst 0, 1) := by decide +kernel
theorem d_Town_downBits_3 : decode prog_12_method_11_code 3 = .ok (.istore_n 2, 1) := by decide +kernel
theorem d_Town_downBits_4 : decode prog_12_method_11_code 4 = .ok (.iload_n 2, 1) := by decide +kernel
theorem d_Town_downBits_5 : decode prog_12_method_11_code 5 = .ok (.aload_n 0, 1) := by decide +kernel
theorem d_Town_downBits_6 : decode prog_12_method_11_code 6 = .ok (.getfield 21, 3) := by decide +kernel
theorem d_Town_downBits_9 : decode prog_12_method_11_code 9 = .ok (.if_icmp .ge 23, 3) := by decide +kernel
theorem d_Town_downBits_12 : decode prog_12_method_11_code 12 = .ok (.aload_n 0, 1) := by decide +kernel
theorem d_Town_downBits_13 : decode prog_12_method_11_code 13 = .ok (.iload_n 2, 1) := by decide +kernel
theorem d_Town_downBits_14 : decode prog_12_method_11_code 14 = .ok (.invokevirtual 46, 3) := by decide +kernel
theorem d_Town_downBits_17 : decode prog_12_method_11_code 17 = .ok (.ifCond .eq 9, 3) := by decide +kernel
theorem d_Town_downBits_20 : decode prog_12_method_11_code 20 = .ok (.iload_n 1, 1) := by decide +kernel
theorem d_Town_downBits_21 : decode prog_12_method_11_code 21 = .ok (.iconst 1, 1) := by decide +kernel
theorem d_Town_downBits_22 : decode prog_12_method_11_code 22 = .ok (.iload_n 2, 1) := by decide +kernel
theorem d_Town_downBits_23 : decode prog_12_method_11_code 23 = .ok (.ishl, 1) := by decide +kernel
theorem d_Town_downBits_24 : decode prog_12_method_11_code 24 = .ok (.ior, 1) := by decide +kernel
theorem d_Town_downBits_25 : decode prog_12_method_11_code 25 = .ok (.istore_n 1, 1) := by decide +kernel
theorem d_Town_downBits_26 : decode prog_12_method_11_code 26 = .ok (.iinc 2 1, 3) := by decide +kernel
theorem d_Town_downBits_29 : decode prog_12_method_11_code 29 = .ok (.goto (-25), 3) := by decide +kernel
theorem d_Town_downBits_32 : decode prog_12_method_11_code 32 = .ok (.iload_n 1, 1) := by decide +kernel
theorem d_Town_downBits_33 : decode prog_12_method_11_code 33 = .ok (.ireturn, 1) := by decide +kernel
def p_Town_downBits_26 (Q : Int32 → AH → Prop) (K4 : Nat → Int32 → Int32 → AH → Prop) (a0 : Nat) (x1 : Int32) (x2 : Int32) (h : AH) : Prop := K4 a0 x1 (x2 + 1) h
def p_Town_downBits_4 (Q : Int32 → AH → Prop) : Nat → Nat → Int32 → Int32 → AH → Prop
  | 0 => fun _ _ _ _ => False
  | n + 1 => fun a0 x1 x2 h => let K4 := p_Town_downBits_4 Q n; vA T1 h a0 ∧ (rS T1 h a0).1 = 10 ∧ (((h.1 a0 3) ≤ x2 → Q x1 h) ∧ (¬ (h.1 a0 3) ≤ x2 → p_Town_isDown (fun r4 h3 => ((r4 = 0 → p_Town_downBits_26 Q  K4 a0 x1 x2 h3) ∧ (¬ r4 = 0 → p_Town_downBits_26 Q  K4 a0 (x1 ||| (1 <<< (x2 &&& 31))) x2 h3))) a0 x2 h))
def p_Town_downBits (Q : Int32 → AH → Prop) (a0 : Nat) (h : AH) : Prop := ∃ n, p_Town_downBits_4 Q   n a0 0 0 h
set_option maxRecDepth 20000 in
theorem r_Town_downBits_26 {G : GG} {d : Nat} {Q : Int32 → AH → Prop} {K4 : Nat → Int32 → Int32 → AH → Prop} (k4 : ∀ a0 x1 x2 h, K4 a0 x1 x2 h → Att G T1 m_Town_downBits (d + 1) 4 [some (.ref a0), some (.int x1), some (.int x2)] [] h 0 0 (iQ Q)) (a0 : Nat) (x1 : Int32) (x2 : Int32) (h : AH) (H : p_Town_downBits_26 Q K4 a0 x1 x2 h) : Att G T1 m_Town_downBits (d + 1) 26 [some (.ref a0), some (.int x1), some (.int x2)] [] h 0 0 (iQ Q) := by
  refine A_iinc 1 [some (.ref a0), some (.int x1), some (.int (x2 + 1))] d_Town_downBits_26 rfl (by decide) (by decide) rfl rfl ?_
  refine A_goto 4 d_Town_downBits_29 (by decide) ?_
  exact k4 _ _ _ _ H
set_option maxRecDepth 20000 in
theorem r_Town_downBits_4 {G : GG} {d : Nat} {Q : Int32 → AH → Prop} : ∀ (n : Nat) (a0 : Nat) (x1 : Int32) (x2 : Int32) (h : AH), p_Town_downBits_4 Q n a0 x1 x2 h → Att G T1 m_Town_downBits (d + 1) 4 [some (.ref a0), some (.int x1), some (.int x2)] [] h 0 0 (iQ Q) := by
  intro n
  induction n with
  | zero => intro a0 x1 x2 h H; exact H.elim
  | succ n k4 =>
    intro a0 x1 x2 h H
    refine A_iload_n d_Town_downBits_4 rfl ?_
    refine A_aload_n d_Town_downBits_5 rfl ?_
    obtain ⟨c1, H⟩ := H
    obtain ⟨c2, H⟩ := H
    refine A_get (v := .int (h.1 a0 3)) d_Town_downBits_6 (fo_Town_21_10 rfl) c1 c2 rfl ?_
    refine A_icmp_ge 32 d_Town_downBits_9 (by decide) (fun z => ?_) (fun z => ?_)
    · have H := H.1 z
      refine A_iload_n d_Town_downBits_32 rfl ?_
      exact A_iret d_Town_downBits_33 rfl rfl H
    · have H := H.2 z
      refine A_aload_n d_Town_downBits_12 rfl ?_
      refine A_iload_n d_Town_downBits_13 rfl ?_
      refine A_cI [.ref a0, .int x2] [] (ct_Town_46 rfl) d_Town_downBits_14 rfl rfl (by decide) (Nat.le_of_ble_eq_true rfl) (rcA_o (c := 10) rfl c1 c2 (by decide) rfl) (ok_Town_isDown (d := d) H) (fun r4 h3 H => ?_)
      refine A_if_eq 26 d_Town_downBits_17 (by decide) (fun z => ?_) (fun z => ?_)
      · have H := H.1 z
        exact r_Town_downBits_26  k4 _ _ _ _ H
      · have H := H.2 z
        refine A_iload_n d_Town_downBits_20 rfl ?_
        refine A_iconst 1 (by decide) d_Town_downBits_21 ?_
        refine A_iload_n d_Town_downBits_22 rfl ?_
        refine A_ishl d_Town_downBits_23 ?_
        refine A_ior d_Town_downBits_24 ?_
        refine A_istore_n [some (.ref a0), some (.int (x1 ||| (1 <<< (x2 &&& 31)))), some (.int x2)] d_Town_downBits_25 (by decide) rfl rfl ?_
        exact r_Town_downBits_26  k4 _ _ _ _ H
set_option maxRecDepth 20000 in
theorem r_Town_downBits_0 {G : GG} {d : Nat} {Q : Int32 → AH → Prop} (a0 : Nat) (h : AH) (H : p_Town_downBits Q a0 h) : Att G T1 m_Town_downBits (d + 1) 0 [some (.ref a0), none, none] [] h 0 0 (iQ Q) := by
  refine A_iconst 0 (by decide) d_Town_downBits_0 ?_
  refine A_istore_n [some (.ref a0), some (.int 0), none] d_Town_downBits_1 (by decide) rfl rfl ?_
  refine A_iconst 0 (by decide) d_Town_downBits_2 ?_
  refine A_istore_n [some (.ref a0), some (.int 0), some (.int 0)] d_Town_downBits_3 (by decide) rfl rfl ?_
  obtain ⟨n9, H⟩ := H
  exact r_Town_downBits_4   n9 _ _ _ _ H
set_option maxRecDepth 20000 in
theorem ok_Town_downBits {G : GG} {d : Nat} {Q : Int32 → AH → Prop} {a0 : Nat} {h : AH} (H : p_Town_downBits Q a0 h) : WP G T1 m_Town_downBits (d + 1) [.ref a0] h 0 0 (iQ Q) := by
  exact WP.enter 2 (by decide) rfl rfl (r_Town_downBits_0 a0 h H)
theorem d_UF_dawn_0 : decode prog_1_method_22_code 0 = .ok (.iload_n 1, 1) := by decide +kernel
theorem d_UF_dawn_1 : decode prog_1_method_22_code 1 = .ok (.iconst 0, 1) := by decide +kernel
theorem d_UF_dawn_2 : decode prog_1_method_22_code 2 = .ok (.bipush 9, 2) := by decide +kernel
theorem d_UF_dawn_4 : decode prog_1_method_22_code 4 = .ok (.invokestatic 95, 3) := by decide +kernel
theorem d_UF_dawn_7 : decode prog_1_method_22_code 7 = .ok (.ifCond .ne 6, 3) := by decide +kernel
theorem d_UF_dawn_10 : decode prog_1_method_22_code 10 = .ok (.bipush (-2), 2) := by decide +kernel
theorem d_UF_dawn_12 : decode prog_1_method_22_code 12 = .ok (.ireturn, 1) := by decide +kernel
theorem d_UF_dawn_13 : decode prog_1_method_22_code 13 = .ok (.iconst 0, 1) := by decide +kernel
theorem d_UF_dawn_14 : decode prog_1_method_22_code 14 = .ok (.istore_n 2, 1) := by decide +kernel
theorem d_UF_dawn_15 : decode prog_1_method_22_code 15 = .ok (.iconst 0, 1) := by decide +kernel
theorem d_UF_dawn_16 : decode prog_1_method_22_code 16 = .ok (.istore_n 3, 1) := by decide +kernel
theorem d_UF_dawn_17 : decode prog_1_method_22_code 17 = .ok (.iload_n 3, 1) := by decide +kernel
theorem d_UF_dawn_18 : decode prog_1_method_22_code 18 = .ok (.aload_n 0, 1) := by decide +kernel
theorem d_UF_dawn_19 : decode prog_1_method_22_code 19 = .ok (.getfield 34, 3) := by decide +kernel
theorem d_UF_dawn_22 : decode prog_1_method_22_code 22 = .ok (.getfield 80, 3) := by decide +kernel
theorem d_UF_dawn_25 : decode prog_1_method_22_code 25 = .ok (.if_icmp .ge 56, 3) := by decide +kernel
theorem d_UF_dawn_28 : decode prog_1_method_22_code 28 = .ok (.bipush 9, 2) := by decide +kernel
theorem d_UF_dawn_30 : decode prog_1_method_22_code 30 = .ok (.aload_n 0, 1) := by decide +kernel
theorem d_UF_dawn_31 : decode prog_1_method_22_code 31 = .ok (.getfield 34, 3) := by decide +kernel
theorem d_UF_dawn_34 : decode prog_1_method_22_code 34 = .ok (.getfield 121, 3) := by decide +kernel
theorem d_UF_dawn_37 : decode prog_1_method_22_code 37 = .ok (.iload_n 3, 1) := by decide +kernel
theorem d_UF_dawn_38 : decode prog_1_method_22_code 38 = .ok (.iaload, 1) := by decide +kernel
theorem d_UF_dawn_39 : decode prog_1_method_22_code 39 = .ok (.iload_n 1, 1) := by decide +kernel
theorem d_UF_dawn_40 : decode prog_1_method_22_code 40 = .ok (.iadd, 1) := by decide +kernel
theorem d_UF_dawn_41 : decode prog_1_method_22_code 41 = .ok (.invokestatic 193, 3) := by decide +kernel
theorem d_UF_dawn_44 : decode prog_1_method_22_code 44 = .ok (.aload_n 0, 1) := by decide +kernel
theorem d_UF_dawn_45 : decode prog_1_method_22_code 45 = .ok (.getfield 34, 3) := by decide +kernel
theorem d_UF_dawn_48 : decode prog_1_method_22_code 48 = .ok (.getfield 121, 3) := by decide +kernel
theorem d_UF_dawn_51 : decode prog_1_method_22_code 51 = .ok (.iload_n 3, 1) := by decide +kernel
theorem d_UF_dawn_52 : decode prog_1_method_22_code 52 = .ok (.iaload, 1) := by decide +kernel
theorem d_UF_dawn_53 : decode prog_1_method_22_code 53 = .ok (.isub, 1) := by decide +kernel
theorem d_UF_dawn_54 : decode prog_1_method_22_code 54 = .ok (.istore 4, 2) := by decide +kernel
theorem d_UF_dawn_56 : decode prog_1_method_22_code 56 = .ok (.aload_n 0, 1) := by decide +kernel
theorem d_UF_dawn_57 : decode prog_1_method_22_code 57 = .ok (.getfield 34, 3) := by decide +kernel
theorem d_UF_dawn_60 : decode prog_1_method_22_code 60 = .ok (.getfield 121, 3) := by decide +kernel
theorem d_UF_dawn_63 : decode prog_1_method_22_code 63 = .ok (.iload_n 3, 1) := by decide +kernel
theorem d_UF_dawn_64 : decode prog_1_method_22_code 64 = .ok (.dup2, 1) := by decide +kernel
theorem d_UF_dawn_65 : decode prog_1_method_22_code 65 = .ok (.iaload, 1) := by decide +kernel
theorem d_UF_dawn_66 : decode prog_1_method_22_code 66 = .ok (.iload 4, 2) := by decide +kernel
theorem d_UF_dawn_68 : decode prog_1_method_22_code 68 = .ok (.iadd, 1) := by decide +kernel
theorem d_UF_dawn_69 : decode prog_1_method_22_code 69 = .ok (.iastore, 1) := by decide +kernel
theorem d_UF_dawn_70 : decode prog_1_method_22_code 70 = .ok (.iload_n 2, 1) := by decide +kernel
theorem d_UF_dawn_71 : decode prog_1_method_22_code 71 = .ok (.iload 4, 2) := by decide +kernel
theorem d_UF_dawn_73 : decode prog_1_method_22_code 73 = .ok (.iadd, 1) := by decide +kernel
theorem d_UF_dawn_74 : decode prog_1_method_22_code 74 = .ok (.istore_n 2, 1) := by decide +kernel
theorem d_UF_dawn_75 : decode prog_1_method_22_code 75 = .ok (.iinc 3 1, 3) := by decide +kernel
theorem d_UF_dawn_78 : decode prog_1_method_22_code 78 = .ok (.goto (-61), 3) := by decide +kernel
theorem d_UF_dawn_81 : decode prog_1_method_22_code 81 = .ok (.iload_n 2, 1) := by decide +kernel
theorem d_UF_dawn_82 : decode prog_1_method_22_code 82 = .ok (.ireturn, 1) := by decide +kernel
def p_UF_dawn_17 (Q : Int32 → AH → Prop) : Nat → Int32 → Int32 → Int32 → AH → Prop
  | 0 => fun _ _ _ _ => False
  | n + 1 => fun x1 x2 x3 h => let K17 := p_UF_dawn_17 Q n; (((h.1 5 3) ≤ x3 → Q x2 h) ∧ (¬ (h.1 5 3) ≤ x3 → inb x3 7 ∧ p_Math_min (fun r3 h2 => inb x3 7 ∧ K17 x1 (x2 + (r3 - (h2.1 6 x3))) (x3 + 1) (wI h2 6 x3 ((h2.1 6 x3) + (r3 - (h2.1 6 x3))))) 9 ((h.1 6 x3) + x1) h))
def p_UF_dawn (Q : Int32 → AH → Prop) (x1 : Int32) (h : AH) : Prop := p_UF_within (fun r2 h1 => ((¬ r2 = 0 → ∃ n, p_UF_dawn_17 Q   n x1 0 0 h1) ∧ (r2 = 0 → Q (-2) h1))) x1 0 9 h
set_option maxRecDepth 20000 in
theorem r_UF_dawn_17 {G : GG} {d : Nat} {Q : Int32 → AH → Prop} : ∀ (n : Nat) (x1 : Int32) (x2 : Int32) (x3 : Int32) (h : AH), p_UF_dawn_17 Q n x1 x2 x3 h → Att G T1 m_UF_dawn (d + 1) 17 [some (.ref 0), some (.int x1), some (.int x2), some (.int x3), none] [] h 0 0 (iQ Q) := by
  intro n
  induction n with
  | zero => intro x1 x2 x3 h H; exact H.elim
  | succ n k17 =>
    intro x1 x2 x3 h H
    refine A_iload_n d_UF_dawn_17 rfl ?_
    refine A_aload_n d_UF_dawn_18 rfl ?_
    refine A_get (v := .ref 5) d_UF_dawn_19 (fo_UF_34_11 rfl) (vA_s (by decide)) rfl rfl ?_
    refine A_get (v := .int (h.1 5 3)) d_UF_dawn_22 (fo_UF_80_10 rfl) (vA_s (by decide)) rfl rfl ?_
    refine A_icmp_ge 81 d_UF_dawn_25 (by decide) (fun z => ?_) (fun z => ?_)
    · have H := H.1 z
      refine A_iload_n d_UF_dawn_81 rfl ?_
      exact A_iret d_UF_dawn_82 rfl rfl H
    · have H := H.2 z
      refine A_bipush 9 (by decide) d_UF_dawn_28 ?_
      refine A_aload_n d_UF_dawn_30 rfl ?_
      refine A_get (v := .ref 5) d_UF_dawn_31 (fo_UF_34_11 rfl) (vA_s (by decide)) rfl rfl ?_
      refine A_get (v := .ref 6) d_UF_dawn_34 (fo_UF_121_10 rfl) (vA_s (by decide)) rfl rfl ?_
      refine A_iload_n d_UF_dawn_37 rfl ?_
      obtain ⟨c1, H⟩ := H
      refine A_iald (n := 7) d_UF_dawn_38 (vA_s (by decide)) rfl c1 ?_
      refine A_iload_n d_UF_dawn_39 rfl ?_
      refine A_iadd d_UF_dawn_40 ?_
      refine A_cI [.int 9, .int ((h.1 6 x3) + x1)] [] (ct_UF_193 rfl) d_UF_dawn_41 rfl rfl (by decide) (Nat.le_of_ble_eq_true rfl) trivial (ok_Math_min (d := d) H) (fun r3 h2 H => ?_)
      refine A_aload_n d_UF_dawn_44 rfl ?_
      refine A_get (v := .ref 5) d_UF_dawn_45 (fo_UF_34_11 rfl) (vA_s (by decide)) rfl rfl ?_
      refine A_get (v := .ref 6) d_UF_dawn_48 (fo_UF_121_10 rfl) (vA_s (by decide)) rfl rfl ?_
      refine A_iload_n d_UF_dawn_51 rfl ?_
      obtain ⟨c4, H⟩ := H
      refine A_iald (n := 7) d_UF_dawn_52 (vA_s (by decide)) rfl c4 ?_
      refine A_isub d_UF_dawn_53 ?_
      refine A_istore [some (.ref 0), some (.int x1), some (.int x2), some (.int x3), some (.int (r3 - (h2.1 6 x3)))] d_UF_dawn_54 (by decide) rfl rfl ?_
      refine A_aload_n d_UF_dawn_56 rfl ?_
      refine A_get (v := .ref 5) d_UF_dawn_57 (fo_UF_34_11 rfl) (vA_s (by decide)) rfl rfl ?_
      refine A_get (v := .ref 6) d_UF_dawn_60 (fo_UF_121_10 rfl) (vA_s (by decide)) rfl rfl ?_
      refine A_iload_n d_UF_dawn_63 rfl ?_
      refine A_dup2 rfl rfl d_UF_dawn_64 ?_
      refine A_iald (n := 7) d_UF_dawn_65 (vA_s (by decide)) rfl c4 ?_
      refine A_iload d_UF_dawn_66 rfl ?_
      refine A_iadd d_UF_dawn_68 ?_
      refine A_iast (n := 7) d_UF_dawn_69 (vA_s (by decide)) rfl c4 ?_
      refine A_iload_n d_UF_dawn_70 rfl ?_
      refine A_iload d_UF_dawn_71 rfl ?_
      refine A_iadd d_UF_dawn_73 ?_
      refine A_istore_n [some (.ref 0), some (.int x1), some (.int (x2 + (r3 - (h2.1 6 x3)))), some (.int x3), some (.int (r3 - (h2.1 6 x3)))] d_UF_dawn_74 (by decide) rfl rfl ?_
      refine A_iinc 1 [some (.ref 0), some (.int x1), some (.int (x2 + (r3 - (h2.1 6 x3)))), some (.int (x3 + 1)), some (.int (r3 - (h2.1 6 x3)))] d_UF_dawn_75 rfl (by decide) (by decide) rfl rfl ?_
      refine A_goto 17 d_UF_dawn_78 (by decide) ?_
      refine A_sub (L' := [some (.ref 0), some (.int x1), some (.int (x2 + (r3 - (h2.1 6 x3)))), some (.int (x3 + 1)), none]) ⟨rfl, rfl, rfl, rfl, trivial⟩ ?_
      exact k17 _ _ _ _ H
set_option maxRecDepth 20000 in
theorem r_UF_dawn_0 {G : GG} {d : Nat} {Q : Int32 → AH → Prop} (x1 : Int32) (h : AH) (H : p_UF_dawn Q x1 h) : Att G T1 m_UF_dawn (d + 1) 0 [some (.ref 0), some (.int x1), none, none, none] [] h 0 0 (iQ Q) := by
  refine A_iload_n d_UF_dawn_0 rfl ?_
  refine A_iconst 0 (by decide) d_UF_dawn_1 ?_
  refine A_bipush 9 (by decide) d_UF_dawn_2 ?_
  refine A_cI [.int x1, .int 0, .int 9] [] (ct_UF_95 rfl) d_UF_dawn_4 rfl rfl (by decide) (Nat.le_of_ble_eq_true rfl) trivial (ok_UF_within (d := d) H) (fun r2 h1 H => ?_)
  refine A_if_ne 13 d_UF_dawn_7 (by decide) (fun z => ?_) (fun z => ?_)
  · have H := H.1 z
    refine A_iconst 0 (by decide) d_UF_dawn_13 ?_
    refine A_istore_n [some (.ref 0), some (.int x1), some (.int 0), none, none] d_UF_dawn_14 (by decide) rfl rfl ?_
    refine A_iconst 0 (by decide) d_UF_dawn_15 ?_
    refine A_istore_n [some (.ref 0), some (.int x1), some (.int 0), some (.int 0), none] d_UF_dawn_16 (by decide) rfl rfl ?_
    obtain ⟨n9, H⟩ := H
    exact r_UF_dawn_17   n9 _ _ _ _ H
  · have H := H.2 z
    refine A_bipush (-2) (by decide) d_UF_dawn_10 ?_
    exact A_iret d_UF_dawn_12 rfl rfl H
set_option maxRecDepth 20000 in
theorem ok_UF_dawn {G : GG} {d : Nat} {Q : Int32 → AH → Prop} {x1 : Int32} {h : AH} (H : p_UF_dawn Q x1 h) : WP G T1 m_UF_dawn (d + 1) [.ref 0, .int x1] h 0 0 (iQ Q) := by
  exact WP.enter 3 (by decide) rfl rfl (r_UF_dawn_0 x1 h H)
theorem d_UF_isSheet_0 : decode prog_1_method_40_code 0 = .ok (.iload_n 0, 1) := by decide +kernel
theorem d_UF_isSheet_1 : decode prog_1_method_40_code 1 = .ok (.iconst 0, 1) := by decide +kernel
theorem d_UF_isSheet_2 : decode prog_1_method_40_code 2 = .ok (.iconst 3, 1) := by decide +kernel
theorem d_UF_isSheet_3 : decode prog_1_method_40_code 3 = .ok (.invokestatic 95, 3) := by decide +kernel
theorem d_UF_isSheet_6 : decode prog_1_method_40_code 6 = .ok (.ireturn, 1) := by decide +kernel
def p_UF_isSheet (Q : Int32 → AH → Prop) (x0 : Int32) (h : AH) : Prop := p_UF_within (fun r2 h1 => narrow .boolean (.int r2) = .int r2 ∧ Q r2 h1) x0 0 3 h
set_option maxRecDepth 20000 in
theorem r_UF_isSheet_0 {G : GG} {d : Nat} {Q : Int32 → AH → Prop} (x0 : Int32) (h : AH) (H : p_UF_isSheet Q x0 h) : Att G T1 m_UF_isSheet (d + 1) 0 [some (.int x0)] [] h 0 0 (iQ Q) := by
  refine A_iload_n d_UF_isSheet_0 rfl ?_
  refine A_iconst 0 (by decide) d_UF_isSheet_1 ?_
  refine A_iconst 3 (by decide) d_UF_isSheet_2 ?_
  refine A_cI [.int x0, .int 0, .int 3] [] (ct_UF_95 rfl) d_UF_isSheet_3 rfl rfl (by decide) (Nat.le_of_ble_eq_true rfl) trivial (ok_UF_within (d := d) H) (fun r2 h1 H => ?_)
  exact A_iret d_UF_isSheet_6 rfl H.1 H.2
set_option maxRecDepth 20000 in
theorem ok_UF_isSheet {G : GG} {d : Nat} {Q : Int32 → AH → Prop} {x0 : Int32} {h : AH} (H : p_UF_isSheet Q x0 h) : WP G T1 m_UF_isSheet (d + 1) [.int x0] h 0 0 (iQ Q) := by
  exact WP.enter 0 (by decide) rfl rfl (r_UF_isSheet_0 x0 h H)
theorem d_Sheet_write_0 : decode prog_10_method_4_code 0 = .ok (.aload_n 0, 1) := by decide +kernel
theorem d_Sheet_write_1 : decode prog_10_method_4_code 1 = .ok (.iload_n 1, 1) := by decide +kernel
theorem d_Sheet_write_2 : decode prog_10_method_4_code 2 = .ok (.invokevirtual 22, 3) := by decide +kernel
theorem d_Sheet_write_5 : decode prog_10_method_4_code 5 = .ok (.ifCond .ne 4, 3) := by decide +kernel
theorem d_Sheet_write_8 : decode prog_10_method_4_code 8 = .ok (.return_, 1) := by decide +kernel
theorem d_Sheet_write_9 : decode prog_10_method_4_code 9 = .ok (.aload_n 0, 1) := by decide +kernel
theorem d_Sheet_write_10 : decode prog_10_method_4_code 10 = .ok (.getfield 15, 3) := by decide +kernel
theorem d_Sheet_write_13 : decode prog_10_method_4_code 13 = .ok (.ifCond .ne 14, 3) := by decide +kernel
theorem d_Sheet_write_16 : decode prog_10_method_4_code 16 = .ok (.aload_n 0, 1) := by decide +kernel
theorem d_Sheet_write_17 : decode prog_10_method_4_code 17 = .ok (.getfield 9, 3) := by decide +kernel
theorem d_Sheet_write_20 : decode prog_10_method_4_code 20 = .ok (.iload_n 1, 1) := by decide +kernel
theorem d_Sheet_write_21 : decode prog_10_method_4_code 21 = .ok (.iload_n 2, 1) := by decide +kernel
theorem d_Sheet_write_22 : decode prog_10_method_4_code 22 = .ok (.i2b, 1) := by decide +kernel
theorem d_Sheet_write_23 : decode prog_10_method_4_code 23 = .ok (.iastore, 1) := by decide +kernel
theorem d_Sheet_write_24 : decode prog_10_method_4_code 24 = .ok (.goto 29, 3) := by decide +kernel
theorem d_Sheet_write_27 : decode prog_10_method_4_code 27 = .ok (.aload_n 0, 1) := by decide +kernel
theorem d_Sheet_write_28 : decode prog_10_method_4_code 28 = .ok (.getfield 15, 3) := by decide +kernel
theorem d_Sheet_write_31 : decode prog_10_method_4_code 31 = .ok (.iconst 1, 1) := by decide +kernel
theorem d_Sheet_write_32 : decode prog_10_method_4_code 32 = .ok (.if_icmp .ne 14, 3) := by decide +kernel
theorem d_Sheet_write_35 : decode prog_10_method_4_code 35 = .ok (.aload_n 0, 1) := by decide +kernel
theorem d_Sheet_write_36 : decode prog_10_method_4_code 36 = .ok (.getfield 9, 3) := by decide +kernel
theorem d_Sheet_write_39 : decode prog_10_method_4_code 39 = .ok (.iload_n 1, 1) := by decide +kernel
theorem d_Sheet_write_40 : decode prog_10_method_4_code 40 = .ok (.iload_n 2, 1) := by decide +kernel
theorem d_Sheet_write_41 : decode prog_10_method_4_code 41 = .ok (.i2s, 1) := by decide +kernel
theorem d_Sheet_write_42 : decode prog_10_method_4_code 42 = .ok (.iastore, 1) := by decide +kernel
theorem d_Sheet_write_43 : decode prog_10_method_4_code 43 = .ok (.goto 10, 3) := by decide +kernel
theorem d_Sheet_write_46 : decode prog_10_method_4_code 46 = .ok (.aload_n 0, 1) := by decide +kernel
theorem d_Sheet_write_47 : decode prog_10_method_4_code 47 = .ok (.getfield 9, 3) := by decide +kernel
theorem d_Sheet_write_50 : decode prog_10_method_4_code 50 = .ok (.iload_n 1, 1) := by decide +kernel
theorem d_Sheet_write_51 : decode prog_10_method_4_code 51 = .ok (.iload_n 2, 1) := by decide +kernel
theorem d_Sheet_write_52 : decode prog_10_method_4_code 52 = .ok (.iastore, 1) := by decide +kernel
theorem d_Sheet_write_53 : decode prog_10_method_4_code 53 = .ok (.return_, 1) := by decide +kernel
def p_Sheet_write (Q : AH → Prop) (a0 : Nat) (x1 : Int32) (x2 : Int32) (h : AH) : Prop := vA T1 h a0 ∧ (rS T1 h a0).1 = 8 ∧ p_Sheet_has (fun r4 h3 => ((¬ r4 = 0 → vA T1 h3 a0 ∧ (rS T1 h3 a0).1 = 8 ∧ ((¬ (h3.1 a0 1) = 0 → ((¬ (h3.1 a0 1) = 1 → 0 < rR T1 h3 a0 0 ∧ vA T1 h3 (rR T1 h3 a0 0 - 1) ∧ (rS T1 h3 (rR T1 h3 a0 0 - 1)).1 = 100 ∧ inb x1 ((rS T1 h3 (rR T1 h3 a0 0 - 1)).2) ∧ Q (wI h3 (rR T1 h3 a0 0 - 1) x1 x2)) ∧ ((h3.1 a0 1) = 1 → 0 < rR T1 h3 a0 0 ∧ vA T1 h3 (rR T1 h3 a0 0 - 1) ∧ (rS T1 h3 (rR T1 h3 a0 0 - 1)).1 = 100 ∧ inb x1 ((rS T1 h3 (rR T1 h3 a0 0 - 1)).2) ∧ Q (wI h3 (rR T1 h3 a0 0 - 1) x1 x2.toInt16.toInt32)))) ∧ ((h3.1 a0 1) = 0 → 0 < rR T1 h3 a0 0 ∧ vA T1 h3 (rR T1 h3 a0 0 - 1) ∧ (rS T1 h3 (rR T1 h3 a0 0 - 1)).1 = 100 ∧ inb x1 ((rS T1 h3 (rR T1 h3 a0 0 - 1)).2) ∧ Q (wI h3 (rR T1 h3 a0 0 - 1) x1 x2.toInt8.toInt32)))) ∧ (r4 = 0 → Q h3))) a0 x1 h
set_option maxRecDepth 20000 in
theorem r_Sheet_write_0 {G : GG} {d : Nat} {Q : AH → Prop} (a0 : Nat) (x1 : Int32) (x2 : Int32) (h : AH) (H : p_Sheet_write Q a0 x1 x2 h) : Att G T1 m_Sheet_write (d + 1) 0 [some (.ref a0), some (.int x1), some (.int x2)] [] h 0 0 (vQ Q) := by
  refine A_aload_n d_Sheet_write_0 rfl ?_
  refine A_iload_n d_Sheet_write_1 rfl ?_
  obtain ⟨c1, H⟩ := H
  obtain ⟨c2, H⟩ := H
  refine A_cI [.ref a0, .int x1] [] (ct_Sheet_22 rfl) d_Sheet_write_2 rfl rfl (by decide) (Nat.le_of_ble_eq_true rfl) (rcA_o (c := 8) rfl c1 c2 (by decide) rfl) (ok_Sheet_has (d := d) H) (fun r4 h3 H => ?_)
  refine A_if_ne 9 d_Sheet_write_5 (by decide) (fun z => ?_) (fun z => ?_)
  · have H := H.1 z
    refine A_aload_n d_Sheet_write_9 rfl ?_
    obtain ⟨c5, H⟩ := H
    obtain ⟨c6, H⟩ := H
    refine A_get (v := .int (h3.1 a0 1)) d_Sheet_write_10 (fo_Sheet_15_8 rfl) c5 c6 rfl ?_
    refine A_if_ne 27 d_Sheet_write_13 (by decide) (fun z => ?_) (fun z => ?_)
    · have H := H.1 z
      refine A_aload_n d_Sheet_write_27 rfl ?_
      refine A_get (v := .int (h3.1 a0 1)) d_Sheet_write_28 (fo_Sheet_15_8 rfl) c5 c6 rfl ?_
      refine A_iconst 1 (by decide) d_Sheet_write_31 ?_
      refine A_icmp_ne 46 d_Sheet_write_32 (by decide) (fun z => ?_) (fun z => ?_)
      · have H := H.1 z
        refine A_aload_n d_Sheet_write_46 rfl ?_
        obtain ⟨c7, H⟩ := H
        refine A_get (v := .ref (rR T1 h3 a0 0 - 1)) d_Sheet_write_47 (fo_Sheet_9_8 rfl) c5 c6 (vR_pos c7) ?_
        refine A_iload_n d_Sheet_write_50 rfl ?_
        refine A_iload_n d_Sheet_write_51 rfl ?_
        obtain ⟨c8, H⟩ := H
        obtain ⟨c9, H⟩ := H
        obtain ⟨c10, H⟩ := H
        refine A_iast (n := _) d_Sheet_write_52 c8 (rS_ex c9) c10 ?_
        exact A_ret d_Sheet_write_53 rfl H
      · have H := H.2 z
        refine A_aload_n d_Sheet_write_35 rfl ?_
        obtain ⟨c11, H⟩ := H
        refine A_get (v := .ref (rR T1 h3 a0 0 - 1)) d_Sheet_write_36 (fo_Sheet_9_8 rfl) c5 c6 (vR_pos c11) ?_
        refine A_iload_n d_Sheet_write_39 rfl ?_
        refine A_iload_n d_Sheet_write_40 rfl ?_
        refine A_i2s d_Sheet_write_41 ?_
        obtain ⟨c12, H⟩ := H
        obtain ⟨c13, H⟩ := H
        obtain ⟨c14, H⟩ := H
        refine A_iast (n := _) d_Sheet_write_42 c12 (rS_ex c13) c14 ?_
        refine A_goto 53 d_Sheet_write_43 (by decide) ?_
        exact A_ret d_Sheet_write_53 rfl H
    · have H := H.2 z
      refine A_aload_n d_Sheet_write_16 rfl ?_
      obtain ⟨c15, H⟩ := H
      refine A_get (v := .ref (rR T1 h3 a0 0 - 1)) d_Sheet_write_17 (fo_Sheet_9_8 rfl) c5 c6 (vR_pos c15) ?_
      refine A_iload_n d_Sheet_write_20 rfl ?_
      refine A_iload_n d_Sheet_write_21 rfl ?_
      refine A_i2b d_Sheet_write_22 ?_
      obtain ⟨c16, H⟩ := H
      obtain ⟨c17, H⟩ := H
      obtain ⟨c18, H⟩ := H
      refine A_iast (n := _) d_Sheet_write_23 c16 (rS_ex c17) c18 ?_
      refine A_goto 53 d_Sheet_write_24 (by decide) ?_
      exact A_ret d_Sheet_write_53 rfl H
  · have H := H.2 z
    exact A_ret d_Sheet_write_8 rfl H
set_option maxRecDepth 20000 in
theorem ok_Sheet_write {G : GG} {d : Nat} {Q : AH → Prop} {a0 : Nat} {x1 : Int32} {x2 : Int32} {h : AH} (H : p_Sheet_write Q a0 x1 x2 h) : WP G T1 m_Sheet_write (d + 1) [.ref a0, .int x1, .int x2] h 0 0 (vQ Q) := by
  exact WP.enter 0 (by decide) rfl rfl (r_Sheet_write_0 a0 x1 x2 h H)
