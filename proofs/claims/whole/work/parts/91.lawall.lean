/-! the law, from its entry (printed by wip/gen/final.py) -/
abbrev LSt (x y : Option Value) : LL := [some (.ref (1000000 + 200)), x, y, none]
set_option maxRecDepth 20000 in
theorem law_entry {G : GG} {L : Nat} (hL : G.2.2.2.2.2.1 = L) (hL2 : L ≤ 3584) : Att G T0 m_law 161 0 (LSt none none) [] zH 4180 16223 QL := by
  obtain ⟨n, hn⟩ : ∃ n, n = L / 7 := ⟨_, rfl⟩
  refine A_bud (bc' := 8 * n + 24 + 1 + 58 + 1) (bs' := 24 * n + 2217 + 40 + 1667 + 11) ?_ (by omega) (by omega)
  refine A_new (bc := 8 * n + 24 + 1 + 58) (bs := 24 * n + 2217 + 40 + 1667) (c := 11) t_UF d_law_0 ck_UF t_UF_ok (fun k hk => by match k, hk with | 0, _ => rfl | 1, _ => rfl | 2, _ => rfl | 3, _ => rfl | 4, _ => rfl | 5, _ => rfl | 6, _ => rfl | 7, _ => rfl | 8, _ => rfl | 9, _ => rfl | 10, _ => rfl) (tG 21 (by decide +kernel) (by decide +kernel)) (tG 22 (by decide +kernel) (by decide +kernel)) (tG 1 (by decide +kernel) (by decide +kernel)) (frN_T0 _) ?_
  refine A_dup rfl d_law_3 ?_
  refine A_callV (d := 160) (Qc := fun h => ∃ g, h = flT TU T0 g ∧ PU g) [.ref 0] [.ref 0] (ct_law_9 rfl) d_law_4 rfl rfl (by decide) (Nat.le_of_ble_eq_true rfl) ⟨_, _, rfl⟩ 58 1667 (Nat.le_add_left _ _) (Nat.le_add_left _ _) (ok_UF_init (d := 100)) (fun h' H => ?_)
  obtain ⟨g, rfl, P⟩ := H
  rw [Nat.add_sub_cancel, Nat.add_sub_cancel]
  refine A_astore_n (LSt (some (.ref 0)) none) d_law_7 (by decide) rfl rfl ?_
  refine A_view (T2 := TU) (h2 := g) (Q2 := QL) (flT_nC subT_0U g).symm (fun k _ => (flT_ent subT_0U g k).symm) (fun v g2 hq => ⟨flT TU T0 g2, hq, flT_nC subT_0U g2, fun k _ => flT_ent subT_0U g2 k⟩) ?_
  have e59 : nC TU g = 59 := by unfold nC; rw [PU_0 P]; rfl
  refine A_new (bc := 8 * n + 24) (bs := 24 * n + 2217) (c := 12) t_MO d_law_8 ck_MO t_MO_ok (fun k hk => by match k, hk with | 0, _ => rfl | 1, _ => rfl | 2, _ => rfl | 3, _ => rfl | 4, _ => rfl | 5, _ => rfl | 6, _ => rfl | 7, _ => rfl | 8, _ => rfl | 9, _ => rfl | 10, _ => rfl | 11, _ => rfl | 12, _ => rfl | 13, _ => rfl | 14, _ => rfl | 15, _ => rfl | 16, _ => rfl | 17, _ => rfl | 18, _ => rfl | 19, _ => rfl | 20, _ => rfl | 21, _ => rfl | 22, _ => rfl | 23, _ => rfl | 24, _ => rfl | 25, _ => rfl | 26, _ => rfl | 27, _ => rfl | 28, _ => rfl | 29, _ => rfl | 30, _ => rfl | 31, _ => rfl | 32, _ => rfl | 33, _ => rfl | 34, _ => rfl | 35, _ => rfl | 36, _ => rfl | 37, _ => rfl | 38, _ => rfl | 39, _ => rfl | k + 40, hk => exact absurd hk (Nat.not_lt.mpr (Nat.le_add_left 40 k))) (tG 830 (by decide +kernel) (by decide +kernel)) (tG 831 (by decide +kernel) (by decide +kernel)) (tG 13 (by decide +kernel) (by decide +kernel)) (frN_TU _) ?_
  rw [e59]
  refine A_dup rfl d_law_11 ?_
  refine A_callV (d := 160) (Qc := fun h => ∃ g2, h = flT T1 TU g2 ∧ Inv g2) [.ref 59] [.ref 59] (ct_law_12 rfl) d_law_12 rfl rfl (by decide) (Nat.le_of_ble_eq_true rfl) ⟨_, _, rfl⟩ 24 2217 (Nat.le_add_left _ _) (Nat.le_add_left _ _) (ok_MO_init (d := 100) P) (fun h' H => ?_)
  obtain ⟨g2, rfl, I⟩ := H
  rw [Nat.add_sub_cancel, Nat.add_sub_cancel]
  refine A_astore_n (LSt (some (.ref 0)) (some (.ref 59))) d_law_15 (by decide) rfl rfl ?_
  refine A_view (T2 := T1) (h2 := g2) (Q2 := QL) (flT_nC subT_U1 g2).symm (fun k _ => (flT_ent subT_U1 g2 k).symm) (fun v g3 hq => ⟨flT T1 TU g3, hq, flT_nC subT_U1 g3, fun k _ => flT_ent subT_U1 g3 k⟩) ?_
  refine A_iconst 0 (by decide) d_law_16 ?_
  refine A_istore_n (LA 0) d_law_17 (by decide) rfl rfl ?_
  exact law_loop hL hL2 n 0 g2 hn I
