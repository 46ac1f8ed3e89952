/-! pure: two chained houses, and a whole minute, on the model's side -/
theorem MO_chained_116_spec {E : EV} {h : AH} {a b dn up' : Nat} {m : Int32} {D : DS} {Q : AH → Prop} (e : E.ok) (R : MRep E h) (M : MD E.N D h) (ha : a < E.N) (hb : b < E.N) (hab : (dn = b ∧ up' = a) ∨ (dn = a ∧ up' = b)) (hne : a ≠ b) (s0 : Int32)
    (HQ : ∀ h', frm SM h h' → MD E.N (if ¬ s0 = 0 ∧ freeP E a (D.hi a) m ∧ freeP E b (D.hi b) m then riseF up' (sinkF E dn m D) else restF b (restF a D)) h' → Q h') : p_MO_chained_116 Q (nI a) (nI b) m (nI dn) (nI up') s0 h := by
  have n7 := e.n7
  have hd : dn < E.N := by rcases hab with ⟨rfl, rfl⟩ | ⟨rfl, rfl⟩ <;> assumption
  have hu : up' < E.N := by rcases hab with ⟨rfl, rfl⟩ | ⟨rfl, rfl⟩ <;> assumption
  have hud : ¬ up' = dn := by rcases hab with ⟨rfl, rfl⟩ | ⟨rfl, rfl⟩ <;> omega
  have iu : inb (nI up') 7 := inb_nI (by omega) (by omega)
  have id : inb (nI dn) 7 := inb_nI (by omega) (by omega)
  have f1 : frm SM h (wI h 80 (nI up') 0) := frm_w frm_rf (by decide)
  have M1 : MD E.N (D.hi, upN D.run up' 0, D.mv, D.ht, D.lh) (wI h 80 (nI up') 0) := MD.w80 n7 hu M
  have R1 := R.tr (keepM_frm f1 (fun _ z => z))
  have rest : ¬ (¬ s0 = 0 ∧ freeP E a (D.hi a) m ∧ freeP E b (D.hi b) m) → Q (wI (wI h 80 (nI up') 0) 80 (nI dn) 0) := fun hn =>
    HQ _ (frm_w f1 (by decide)) (by
      rw [if_neg hn]
      have M2 := MD.w80 (x := 0) n7 hd M1
      have er : restF b (restF a D) = (D.hi, upN (upN D.run up' 0) dn 0, D.mv, D.ht, D.lh) := by
        unfold restF
        rcases hab with ⟨rfl, rfl⟩ | ⟨rfl, rfl⟩
        · rfl
        · show (D.hi, upN (upN D.run dn 0) up' 0, D.mv, D.ht, D.lh) = _
          rw [upN_comm (fun z => hud z.symm)]
      rw [er]; exact M2)
  refine ⟨iu, ?_⟩
  by_cases h0 : s0 = 0
  · rw [pT h0]
    exact ⟨id, rest (fun z => z.1 h0)⟩
  · rw [pF h0]
    refine MO_isFree_spec e R1 M1 ha ?_
    by_cases fa : freeP E a (D.hi a) m
    · rw [b01_t fa, pF (by decide)]
      refine MO_isFree_spec e R1 M1 hb ?_
      by_cases fb : freeP E b (D.hi b) m
      · rw [b01_t fb, pF (by decide)]
        refine ⟨iu, ?_⟩
        have e78 : (wI h 80 (nI up') 0).1 78 (nI up') = D.hi up' := M.hi up' hu
        have e79 : (wI h 80 (nI up') 0).1 79 (nI up') = D.mv up' := M.mv up' hu
        rw [e78, e79]
        have M2 : MD E.N (upN D.hi up' (D.hi up' + 1), upN D.run up' 0, upN D.mv up' (D.mv up' + 1), D.ht, D.lh) (wI (wI (wI h 80 (nI up') 0) 78 (nI up') (D.hi up' + 1)) 79 (nI up') (D.mv up' + 1)) := MD.w79 n7 hu (MD.w78 n7 hu M1)
        have f2 : frm SM h (wI (wI (wI h 80 (nI up') 0) 78 (nI up') (D.hi up' + 1)) 79 (nI up') (D.mv up' + 1)) := frm_w (frm_w f1 (by decide)) (by decide)
        refine MO_goesDown_spec e (R.tr (keepM_frm f2 (fun _ z => z))) M2 hd (fun h8 f8 M8 => HQ h8 (frm_tr f2 f8 (fun _ z => z) (fun _ z => z)) ?_)
        rw [if_pos ⟨h0, fa, fb⟩]
        have hdu : ¬ dn = up' := fun z => hud z.symm
        have es : riseF up' (sinkF E dn m D) = sinkF E dn m (upN D.hi up' (D.hi up' + 1), upN D.run up' 0, upN D.mv up' (D.mv up' + 1), D.ht, D.lh) := by
          unfold riseF sinkF
          simp only [DS.hi, DS.run, DS.mv, DS.ht, DS.lh, upN_n hud, upN_n hdu]
          rw [upN_comm hdu, upN_comm (f := D.2.2.1) hdu]
          by_cases hz : D.1 dn - 1 = 0
          · simp only [if_pos hz]; rw [upN_comm hdu]
          · simp only [if_neg hz]; rw [upN_comm hdu]
        rw [es]
        exact M8
      · rw [b01_f fb, pT rfl]
        exact ⟨id, rest (fun z => fb z.2.2)⟩
    · rw [b01_f fa, pT rfl]
      exact ⟨id, rest (fun z => fa z.2.1)⟩
theorem MO_chained_spec {E : EV} {h : AH} {a b : Nat} {m ct : Int32} {D : DS} {Q : AH → Prop} (e : E.ok) (R : MRep E h) (M : MD E.N D h) (ha : a < E.N) (hb : b < E.N) (hne : a ≠ b) (HQ : ∀ h', frm SM h h' → MD E.N (pairF E a b m ct D) h' → Q h') : p_MO_chained Q (nI a) (nI b) m ct h := by
  have n7 := e.n7
  refine MO_weighs_spec e R M ha (fun h1 f1 => ?_)
  have R1 := R.tr (keepM_frm f1 (by decide))
  have M1 := M.tr f1
  refine MO_weighs_spec e R1 M1 hb (fun h3 f3 => ?_)
  have R3 := R1.tr (keepM_frm f3 (by decide))
  have M3 := M1.tr f3
  have f13 : frm SM h h3 := frm_tr f1 f3 (by decide) (by decide)
  have core : ∀ (dn up' : Nat) (df : Int32), ((dn = b ∧ up' = a) ∨ (dn = a ∧ up' = b)) → pairF E a b m ct D = pairG E a b dn up' df m ct D → p_MO_chained_64 Q (nI a) (nI b) m ct (nI dn) (nI up') df h3 := fun dn up' df hab hpf => by
    have hd : dn < E.N := by rcases hab with ⟨rfl, rfl⟩ | ⟨rfl, rfl⟩ <;> assumption
    have hu : up' < E.N := by rcases hab with ⟨rfl, rfl⟩ | ⟨rfl, rfl⟩ <;> assumption
    have iu : inb (nI up') 7 := inb_nI (by omega) (by omega)
    have id : inb (nI dn) 7 := inb_nI (by omega) (by omega)
    have no : ∀ h5, frm SM h h5 → MRep E h5 → MD E.N D h5 → ¬ pairP E a b dn up' df m ct D → p_MO_chained_115 Q (nI a) (nI b) m (nI dn) (nI up') h5 := fun h5 f5 R5 M5 hn => by
      refine MO_chained_116_spec e R5 M5 ha hb hab hne 0 (fun h' f' M' => HQ h' (frm_tr f5 f' (fun _ z => z) (fun _ z => z)) ?_)
      rw [if_neg (fun z => z.1 rfl)] at M'
      rw [hpf]; unfold pairG; rw [if_neg hn]; exact M'
    unfold p_MO_chained_64
    by_cases hct : ct = 0
    · rw [nT hct]
      refine MO_holdsIt_spec e R3 M3 ha (fun h5 f5 => ?_)
      have R5 := R3.tr (keepM_frm f5 (by decide))
      have M5 := M3.tr f5
      refine MO_holdsIt_spec e R5 M5 hb (fun h7 f7 => ?_)
      have R7 := R5.tr (keepM_frm f7 (by decide))
      have M7 := M5.tr f7
      have g7 : frm SM h h7 := frm_tr (S := SM) f13 (frm_tr (S2 := SM) f5 f7 (by decide) (by decide)) (fun _ z => z) (fun _ z => z)
      rw [M7.hi dn hd, M7.hi up' hu]
      by_cases c1 : df ≤ holdsF E a (D.hi a) m + holdsF E b (D.hi b) m
      · rw [pT c1]; exact no h7 g7 R7 M7 (fun z => absurd z.2.1 (Int32.not_lt.mpr c1))
      · rw [pF c1]; refine ⟨id, ?_⟩
        by_cases c2 : D.hi dn ≤ 0
        · rw [pT c2]; exact no h7 g7 R7 M7 (fun z => absurd z.2.2.1 (Int32.not_lt.mpr c2))
        · rw [pF c2]; refine ⟨iu, ?_⟩
          by_cases c3 : 9 ≤ D.hi up'
          · rw [pT c3]; exact no h7 g7 R7 M7 (fun z => absurd z.2.2.2.1 (Int32.not_lt.mpr c3))
          · rw [pF c3]
            refine MO_chained_116_spec e R7 M7 ha hb hab hne 1 (fun h' f' M' => HQ h' (frm_tr g7 f' (fun _ z => z) (fun _ z => z)) ?_)
            rw [hpf]; unfold pairG
            by_cases c4 : freeP E a (D.hi a) m ∧ freeP E b (D.hi b) m
            · rw [if_pos ⟨by decide, c4⟩] at M'
              rw [if_pos ⟨hct, Int32.not_le.mp c1, Int32.not_le.mp c2, Int32.not_le.mp c3, c4⟩]; exact M'
            · rw [if_neg (fun z => c4 z.2)] at M'
              rw [if_neg (fun z => c4 z.2.2.2.2)]; exact M'
    · rw [nF hct]
      exact no h3 f13 R3 M3 (fun z => hct z.1)
  by_cases hw : weighsF E a (D.hi a) m ≤ weighsF E b (D.hi b) m
  · rw [pT hw]; unfold p_MO_chained_28; rw [pT hw]; unfold p_MO_chained_42; rw [pT hw]
    exact core b a _ (Or.inl ⟨rfl, rfl⟩) (by unfold pairF; rw [if_pos hw])
  · rw [pF hw]; unfold p_MO_chained_28; rw [pF hw]; unfold p_MO_chained_42; rw [pF hw]
    exact core a b _ (Or.inr ⟨rfl, rfl⟩) (by unfold pairF; rw [if_neg hw])
