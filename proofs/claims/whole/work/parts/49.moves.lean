section O49
variable {G : gG} {d B : Nat} {σ : gM} {K : gK}
theorem moved_eq (h : gOK G) {m z : gM} {r bud : Nat} (hM : wMem B m (z 105)) (hr : r < gN (m 2 0)) (hb : bud ≤ 4000) : ∃ z' : gM, (∀ (d : Nat) (K : gK), g_inv (gCm' G (d + 4)) mX10_moved [.ref 104, .int (nI r), .int (nI bud)] z K = K (some (.int (nI (mGo r bud 30 m 0).2))) z') ∧ wMem B (mGo r bud 30 m 0).1 (z' 105) ∧ (∀ i, i ≠ 105 → i ≠ 110 → z' i = z i) ∧ (mGo r bud 30 m 0).2 ≤ 240 := by
  obtain ⟨L, Q, a1, a2, a3, a4, a5, a6, a7, a8, a9⟩ := mReg hM hr
  obtain ⟨o, o1, o2, o3⟩ := nextB_eq (D := 0) h hM rfl hr a3 a4 (Nat.zero_le _) (fun s _ => Or.inr (Nat.zero_le _))
  obtain ⟨z', i1, i2, i3, i4⟩ := mvT_eq (r := r) (bud := bud) h hb (Q + 1) 0 0 30 m z o (.long 0) (by omega) hM hr a3 a4 ⟨Nat.zero_le _, Or.inl rfl, fun s _ => Or.inr (Nat.zero_le _), fun s _ hl => by omega⟩ (Nat.le_refl _) (gCnt_le 30) o2 o3
  refine ⟨z', fun d K => ?_, i2, i3, by omega⟩
  obtain ⟨p1, p2, p3⟩ := hM.2.2.2.2.2.1 r a5
  have ea : (571 : Int32) + nI r = nI (571 + r) := nI_add 571 r
  have eb : (577 : Int32) + nI r = nI (577 + r) := nI_add 577 r
  have eg : (583 : Int32) + nI r = nI (583 + r) := nI_add 583 r
  have ec : vp_in (nI (571 + r)) 607 := vp_c (by omega)
  have ed : (nI (571 + r)).toNatClampNeg = 571 + r := nI_clamp (by omega)
  have ee : vp_in (nI (577 + r)) 607 := vp_c (by omega)
  have ef : (nI (577 + r)).toNatClampNeg = 577 + r := nI_clamp (by omega)
  have eh : vp_in (nI (583 + r)) 607 := vp_c (by omega)
  have ei : (nI (583 + r)).toNatClampNeg = 583 + r := nI_clamp (by omega)
  rw [← i1 d K, EX10_moved h.2]
  rcases a9 with ⟨w1, w⟩ | ⟨w1, w⟩ <;> simp only [w, ↓reduceIte, Bool.false_eq_true, Nat.add_zero, Nat.sub_zero] at o1 ⊢
  · simp +decide only [ea, eg, ec, ed, eh, ei, p1, p3, a1, w1, BX10_moved_18 h.2, BX10_moved_41 h.2, o1, BX10_moved_54 h.2, Option.toList_some, Option.toList_none, List.cons_append, List.nil_append, Nat.zero_add, Nat.reduceAdd, Option.some.injEq, Value.int.injEq, exists_eq_left', true_and, and_true, true_or, or_true, false_or, g_10, ↓reduceIte]
    rfl
  · simp +decide only [ea, eb, eg, ec, ed, ee, ef, eh, ei, p1, p2, p3, a1, a2, w1, BX10_moved_18 h.2, BX10_moved_41 h.2, EX10_end h.2, nI_add, o1, BX10_moved_54 h.2, Option.toList_some, Option.toList_none, List.cons_append, List.nil_append, Nat.zero_add, Nat.reduceAdd, Option.some.injEq, Value.int.injEq, exists_eq_left', true_and, and_true, true_or, or_true, false_or, g_10, ↓reduceIte]
    rfl
theorem op_moves (h : gOK G) (hB : B < 1000000) (hR : wRel B σ) (a n : Int32) : gOp G (d + 5) B mX9_moves mX10_moves [.int a, .int n] σ := by
  unfold gOp
  rcases reg_cases hR a with (c | ⟨c, c2⟩) | ⟨r, hr, rfl, c, c2⟩
  · simp only [EX9_moves, BX9_moves_11, BX9_moves_36, EX10_moves, BX10_moves_5, BX10_moves_16, BX10_moves_25, has_eq h hR, isReg_eq h hR rfl, Option.toList_some, Option.toList_none, List.cons_append, List.nil_append, Nat.zero_add, Nat.reduceAdd, Option.some.injEq, Value.int.injEq, exists_eq_left', true_and, and_true, true_or, or_true, false_or, g_10, ↓reduceIte, h.1, h.2, hNow h, hReg h, hGrd h, hBlk h, hTgo h, hWlk h, hPln h, hTap h, hHol h, c]
    exact wRel_up hR (by omega)
  · simp only [EX9_moves, BX9_moves_11, BX9_moves_36, EX10_moves, BX10_moves_5, BX10_moves_16, BX10_moves_25, has_eq h hR, isReg_eq h hR rfl, Option.toList_some, Option.toList_none, List.cons_append, List.nil_append, Nat.zero_add, Nat.reduceAdd, Option.some.injEq, Value.int.injEq, exists_eq_left', true_and, and_true, true_or, or_true, false_or, g_10, ↓reduceIte, h.1, h.2, hNow h, hReg h, hGrd h, hBlk h, hTgo h, hWlk h, hPln h, hTap h, hHol h, c, c2]
    exact wRel_up hR (by omega)
  by_cases n1 : n < 0
  · simp only [EX9_moves, BX9_moves_11, BX9_moves_36, EX10_moves, BX10_moves_5, BX10_moves_16, BX10_moves_25, has_eq h hR, isReg_eq h hR rfl, EX10_in, Option.toList_some, Option.toList_none, List.cons_append, List.nil_append, Nat.zero_add, Nat.reduceAdd, Option.some.injEq, Value.int.injEq, exists_eq_left', true_and, and_true, true_or, or_true, false_or, g_10, ↓reduceIte, h.1, h.2, hNow h, hReg h, hGrd h, hBlk h, hTgo h, hWlk h, hPln h, hTap h, hHol h, c, c2, n1]
    exact wRel_up hR (by omega)
  by_cases n2 : 240 < n
  · simp only [EX9_moves, BX9_moves_11, BX9_moves_36, EX10_moves, BX10_moves_5, BX10_moves_16, BX10_moves_25, has_eq h hR, isReg_eq h hR rfl, EX10_in, Option.toList_some, Option.toList_none, List.cons_append, List.nil_append, Nat.zero_add, Nat.reduceAdd, Option.some.injEq, Value.int.injEq, exists_eq_left', true_and, and_true, true_or, or_true, false_or, g_10, ↓reduceIte, h.1, h.2, hNow h, hReg h, hGrd h, hBlk h, hTgo h, hWlk h, hPln h, hTap h, hHol h, c, c2, n1, n2]
    exact wRel_up hR (by omega)
  obtain ⟨bud, -, hb, rfl⟩ := g_rng (a := 0) (b := 240) (by decide) (by decide) n1 n2
  obtain ⟨x', i1, i2, i3⟩ := mvW_eq (b := 1) (r := r) (bud := bud) h (hNow h) hb 30 0 0 σ (σ 105) (.long 0) rfl hR.1 hr (Nat.zero_le _)
  have i1 : ∀ K : gK, g_inv (gCm' G (d + 4)) mX3_moveWithin [.ref 1, .int (nI r), .int (nI bud)] σ K = K (some (.int (nI (mGo r bud 30 (gMem σ 1) 0).2))) x' := fun K => by
    rw [EX3_moveWithin (hNow h)]; exact i1 d K
  have x5 : x' 105 = σ 105 := i3 105 (by decide) (by decide) (by decide)
  obtain ⟨z', j1, j2, j3, -⟩ := moved_eq (z := x') (m := gMem σ 1) (r := r) (bud := bud) h (by rw [x5]; exact hR.1) hr (by omega)
  simp only [EX9_moves, BX9_moves_11, BX9_moves_36, EX10_moves, BX10_moves_5, BX10_moves_16, BX10_moves_25, has_eq h hR, isReg_eq h hR x5, EX10_in, Option.toList_some, Option.toList_none, List.cons_append, List.nil_append, Nat.zero_add, Nat.reduceAdd, Option.some.injEq, Value.int.injEq, exists_eq_left', true_and, and_true, true_or, or_true, false_or, g_10, ↓reduceIte, h.1, h.2, hNow h, hReg h, hGrd h, hBlk h, hTgo h, hWlk h, hPln h, hTap h, hHol h, c, c2, n1, n2, i1, j1]
  refine wRel_fr hR (by omega) ?_ (fun i hi => ?_) ?_ ?_ ?_
  · rw [gMem_eq (σ := x') (σ' := z') (b := 1) (fun i hi => j3 _ (by omega) (by omega)), i2]
    exact wMem_up j2 (by omega)
  · unfold gRl at hi; rw [j3 i (by omega) (by omega), i3 i (by omega) (by omega) (by omega)]
  · rw [j3 95 (by decide) (by decide), i3 95 (by decide) (by decide) (by decide)]
  · rw [j3 104 (by decide) (by decide), i3 104 (by decide) (by decide) (by decide)]
  · rw [j3 104 (by decide) (by decide), i3 104 (by decide) (by decide) (by decide)]
end O49
