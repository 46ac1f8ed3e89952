/-! pure: image -/
theorem become9 {Q : AH → Prop} {h : AH} (H : Q (wC (wC (wC (wI (wI h 9 3 (h.1 5 3)) 9 4 (h.1 5 4)) 6 10 0 0 7) 7 11 0 0 7) 8 12 0 0 7)) : p_Town_become Q 9 5 h :=
  ⟨vA_s (show 5 < 84 by decide), rfl, vA_s (show 9 < 84 by decide), rfl, Nat.succ_pos _, Nat.succ_pos _, vA_s (show 6 < 84 by decide), rfl, vA_s (show 10 < 84 by decide), rfl, le07, le07, lt07, lt07,
    Nat.succ_pos _, Nat.succ_pos _, vA_s (show 7 < 84 by decide), rfl, vA_s (show 11 < 84 by decide), rfl, le07, le07, lt07, lt07,
    Nat.succ_pos _, Nat.succ_pos _, vA_s (show 8 < 84 by decide), rfl, vA_s (show 12 < 84 by decide), rfl, le07, le07, lt07, lt07, H⟩
theorem nI_7 (k : Nat) : (7 : Int32) + nI k = nI (7 + k) := by rw [show (7 : Int32) = nI 7 from rfl, nI_add]
theorem nI_14 (k : Nat) : (14 : Int32) + nI k = nI (14 + k) := by rw [show (14 : Int32) = nI 14 from rfl, nI_add]
theorem image_loop {Q : Int32 → AH → Prop} {h0 : AH} : ∀ (cnt k : Nat) (h : AH), k + cnt = 7 → frm [69] h0 h → (∀ j, j < k → h.1 69 (nI j) = h0.1 63 (nI j) ∧ h.1 69 (nI (7 + j)) = h0.1 64 (nI j) ∧ h.1 69 (nI (14 + j)) = h0.1 65 (nI j)) → (∀ h', frm [69] h0 h' → (∀ j, j < 7 → h'.1 69 (nI j) = h0.1 63 (nI j) ∧ h'.1 69 (nI (7 + j)) = h0.1 64 (nI j) ∧ h'.1 69 (nI (14 + j)) = h0.1 65 (nI j)) → Q (h'.1 59 0) h') → p_MO_image_23 Q (cnt + 1) (nI k) h := by
  intro cnt
  induction cnt with
  | zero =>
    intro k h hk f R HQ
    have hk' : k = 7 := by omega
    subst hk'
    simp only [p_MO_image_23]
    rw [pT (by decide)]
    exact HQ h f R
  | succ cnt ih =>
    intro k h hk f R HQ
    obtain ⟨n', hn'⟩ : ∃ n', n' = cnt + 1 := ⟨_, rfl⟩
    rw [← hn']
    rw [← hn'] at ih
    have c7 : ¬ (7 : Int32) ≤ nI k := fun z => by have := (nI_leN (a := 7) (by decide) (by omega)).mp z; omega
    simp only [p_MO_image_23]
    rw [pF c7, nI_7, nI_14, nI_1, f.2 63 (by decide), f.2 64 (by decide), f.2 65 (by decide)]
    refine ⟨inb_nI (by omega) (by omega), inb_nI (by omega) (by omega), inb_nI (by omega) (by omega), inb_nI (by omega) (by omega), ih (k + 1) _ (by omega) (frm_w (frm_w (frm_w f (by simp)) (by simp)) (by simp)) (fun j hj => ?_) HQ⟩
    have ne : ∀ a b, a < 100 → b < 100 → ¬ a = b → ¬ nI a = nI b := fun a b ha hb hab z => hab ((nI_inj (by omega) (by omega)).mp z)
    simp only [wI_r, if_true, up_a]
    by_cases e : j = k
    · subst e
      refine ⟨?_, ?_, ?_⟩
      · rw [if_neg (ne _ _ (by omega) (by omega) (by omega)), if_neg (ne _ _ (by omega) (by omega) (by omega)), if_pos rfl]
      · rw [if_neg (ne _ _ (by omega) (by omega) (by omega)), if_pos rfl]
      · rw [if_pos rfl]
    · obtain ⟨q1, q2, q3⟩ := R j (by omega)
      refine ⟨?_, ?_, ?_⟩
      · rw [if_neg (ne _ _ (by omega) (by omega) (by omega)), if_neg (ne _ _ (by omega) (by omega) (by omega)), if_neg (ne _ _ (by omega) (by omega) e)]; exact q1
      · rw [if_neg (ne _ _ (by omega) (by omega) (by omega)), if_neg (ne _ _ (by omega) (by omega) (by omega)), if_neg (ne _ _ (by omega) (by omega) (by omega))]; exact q2
      · rw [if_neg (ne _ _ (by omega) (by omega) (by omega)), if_neg (ne _ _ (by omega) (by omega) (by omega)), if_neg (ne _ _ (by omega) (by omega) (by omega))]; exact q3
