section O22
variable {G : gG} {d B : Nat} {σ : gM} {K : gK}
theorem rGen (hR : wRel B σ) {s : Nat} (hs : s < 30) : ∃ g, g ≤ B ∧ σ 10 s = nI g := ⟨_, (rSl hR s hs).1.2, (rSl hR s hs).1.1⟩
theorem hnd {g j : Nat} : (100 : Int32) * nI g + nI j = nI (100 * g + j) := by rw [show (100 : Int32) = nI 100 from rfl, pk_mul, nI_add]
theorem op_slot (h : gOK G) (hB : B < 1000000) (hR : wRel B σ) (a w : Int32) : gOp G (d + 4) B mX9_slot mX10_slot [.int a, .int w] σ := by
  unfold gOp
  rcases pk_ix a (n := 30) (by decide) with h1 | h1 | ⟨j, hj, rfl⟩
  · simp only [EX9_slot, BX9_slot_33, BX9_slot_75, BX9_slot_78, EX10_slot, BX10_slot_7, BX10_slot_16, BX10_slot_27, BX10_slot_36, BX10_slot_69, BX10_slot_77, BX10_slot_89, BX10_slot_111, EX10_in, Option.toList_some, Option.toList_none, List.cons_append, List.nil_append, Nat.zero_add, Nat.reduceAdd, Option.some.injEq, Value.int.injEq, exists_eq_left', true_and, and_true, true_or, or_true, false_or, g_10, ↓reduceIte, h.1, h.2, hNow h, hReg h, hGrd h, hBlk h, hTgo h, hWlk h, hPln h, hTap h, hHol h, h1]
    exact wRel_up hR (by omega)
  · obtain ⟨e1, e2, e3⟩ := g_ge (n := 29) (by decide) h1
    have e2 : ¬ a < 30 := e2
    have e3 : 29 < a := e3
    simp only [EX9_slot, BX9_slot_33, BX9_slot_75, BX9_slot_78, EX10_slot, BX10_slot_7, BX10_slot_16, BX10_slot_27, BX10_slot_36, BX10_slot_69, BX10_slot_77, BX10_slot_89, BX10_slot_111, EX10_in, Option.toList_some, Option.toList_none, List.cons_append, List.nil_append, Nat.zero_add, Nat.reduceAdd, Option.some.injEq, Value.int.injEq, exists_eq_left', true_and, and_true, true_or, or_true, false_or, g_10, ↓reduceIte, h.1, h.2, hNow h, hReg h, hGrd h, hBlk h, hTgo h, hWlk h, hPln h, hTap h, hHol h, e1, e2, e3]
    exact wRel_up hR (by omega)
  · obtain ⟨e1, e2, e3, e4, e5⟩ := g_ix (n := 29) hj (by decide)
    have e2 : nI j < 30 := e2
    have e3 : ¬ 29 < nI j := e3
    have bad : ¬ w = 0 → ¬ w = 1 → ¬ w = 2 → ¬ w = 3 → (w < 0 ∨ ¬ w < 0 ∧ 3 < w) → gOp G (d + 4) B mX9_slot mX10_slot [.int (nI j), .int w] σ := fun n0 n1 n2 n3 hw => by
      unfold gOp
      by_cases c : σ 11 j = 2
      · rcases hw with hw | ⟨hw, hw2⟩
        · simp only [EX9_slot, BX9_slot_33, BX9_slot_75, BX9_slot_78, EX10_slot, BX10_slot_7, BX10_slot_16, BX10_slot_27, BX10_slot_36, BX10_slot_69, BX10_slot_77, BX10_slot_89, BX10_slot_111, EX10_in, Option.toList_some, Option.toList_none, List.cons_append, List.nil_append, Nat.zero_add, Nat.reduceAdd, Option.some.injEq, Value.int.injEq, exists_eq_left', true_and, and_true, true_or, or_true, false_or, g_10, ↓reduceIte, h.1, h.2, hNow h, hReg h, hGrd h, hBlk h, hTgo h, hWlk h, hPln h, hTap h, hHol h, e1, e2, e3, e4, e5, c, n0, n1, n2, n3, hw]
          exact wRel_up hR (by omega)
        · simp only [EX9_slot, BX9_slot_33, BX9_slot_75, BX9_slot_78, EX10_slot, BX10_slot_7, BX10_slot_16, BX10_slot_27, BX10_slot_36, BX10_slot_69, BX10_slot_77, BX10_slot_89, BX10_slot_111, EX10_in, Option.toList_some, Option.toList_none, List.cons_append, List.nil_append, Nat.zero_add, Nat.reduceAdd, Option.some.injEq, Value.int.injEq, exists_eq_left', true_and, and_true, true_or, or_true, false_or, g_10, ↓reduceIte, h.1, h.2, hNow h, hReg h, hGrd h, hBlk h, hTgo h, hWlk h, hPln h, hTap h, hHol h, e1, e2, e3, e4, e5, c, n0, n1, n2, n3, hw, hw2]
          exact wRel_up hR (by omega)
      · rcases hw with hw | ⟨hw, hw2⟩
        · simp only [EX9_slot, BX9_slot_33, BX9_slot_75, BX9_slot_78, EX10_slot, BX10_slot_7, BX10_slot_16, BX10_slot_27, BX10_slot_36, BX10_slot_69, BX10_slot_77, BX10_slot_89, BX10_slot_111, EX10_in, Option.toList_some, Option.toList_none, List.cons_append, List.nil_append, Nat.zero_add, Nat.reduceAdd, Option.some.injEq, Value.int.injEq, exists_eq_left', true_and, and_true, true_or, or_true, false_or, g_10, ↓reduceIte, h.1, h.2, hNow h, hReg h, hGrd h, hBlk h, hTgo h, hWlk h, hPln h, hTap h, hHol h, e1, e2, e3, e4, e5, c, n0, n1, n2, n3, hw]
          exact wRel_up hR (by omega)
        · simp only [EX9_slot, BX9_slot_33, BX9_slot_75, BX9_slot_78, EX10_slot, BX10_slot_7, BX10_slot_16, BX10_slot_27, BX10_slot_36, BX10_slot_69, BX10_slot_77, BX10_slot_89, BX10_slot_111, EX10_in, Option.toList_some, Option.toList_none, List.cons_append, List.nil_append, Nat.zero_add, Nat.reduceAdd, Option.some.injEq, Value.int.injEq, exists_eq_left', true_and, and_true, true_or, or_true, false_or, g_10, ↓reduceIte, h.1, h.2, hNow h, hReg h, hGrd h, hBlk h, hTgo h, hWlk h, hPln h, hTap h, hHol h, e1, e2, e3, e4, e5, c, n0, n1, n2, n3, hw, hw2]
          exact wRel_up hR (by omega)
    rcases pk_ix w (n := 4) (by decide) with w1 | w1 | ⟨k, hk, rfl⟩
    · exact bad (fun e => by subst e; exact absurd w1 (by decide)) (fun e => by subst e; exact absurd w1 (by decide)) (fun e => by subst e; exact absurd w1 (by decide)) (fun e => by subst e; exact absurd w1 (by decide)) (Or.inl w1)
    · obtain ⟨q1, q2, q3⟩ := g_ge (n := 3) (by decide) w1
      have q3 : 3 < w := q3
      exact bad (fun e => by subst e; exact absurd q3 (by decide)) (fun e => by subst e; exact absurd q3 (by decide)) (fun e => by subst e; exact absurd q3 (by decide)) (fun e => by subst e; exact absurd q3 (by decide)) (Or.inr ⟨q1, q3⟩)
    · obtain ⟨g, hg, eg⟩ := rGen hR hj
      have em := g_m1 (j := 100 * g + j) (by omega)
      rcases rLi hR j hj with c | c | c <;> rcases (by omega : k = 0 ∨ k = 1 ∨ k = 2 ∨ k = 3) with rfl | rfl | rfl | rfl <;>
      · simp +decide only [EX9_slot, BX9_slot_33, BX9_slot_75, BX9_slot_78, EX10_slot, BX10_slot_7, BX10_slot_16, BX10_slot_27, BX10_slot_36, BX10_slot_69, BX10_slot_77, BX10_slot_89, BX10_slot_111, EX10_in, EX0_liveHandleOf, BX0_liveHandleOf_27, EX9_notIfNone, hof9_eq h hj, hof_eq h hj, live_eq h hj, at_0 h hj, at_1 h hj, at_9 h hj, rs0 hR _ hj, rs1 hR _ hj, rs9 hR _ hj, Option.toList_some, Option.toList_none, List.cons_append, List.nil_append, Nat.zero_add, Nat.reduceAdd, Option.some.injEq, Value.int.injEq, exists_eq_left', true_and, and_true, true_or, or_true, false_or, g_10, ↓reduceIte, h.1, h.2, hNow h, hReg h, hGrd h, hBlk h, hTgo h, hWlk h, hPln h, hTap h, hHol h, e1, e2, e3, e4, e5, c, eg, hnd, em]
        exact wRel_up hR (by omega)
theorem op_peek (h : gOK G) (hB : B < 1000000) (hR : wRel B σ) (a x i : Int32) : gOp G (d + 4) B mX9_peek mX10_peek [.int a, .int x, .int i] σ := by
  unfold gOp
  rcases pk_ix a (n := 6) (by decide) with h1 | h1 | ⟨j, hj, rfl⟩
  · simp only [EX9_peek, BX9_peek_4, BX9_peek_34, BX9_peek_60, BX9_peek_76, EX10_peek, BX10_peek_6, BX10_peek_50, BX10_peek_60, BX10_peek_72, BX10_peek_85, BX10_peek_89, BX10_peek_90, BX10_peek_104, BX10_peek_118, EX10_in, EX9_isReader, Option.toList_some, Option.toList_none, List.cons_append, List.nil_append, Nat.zero_add, Nat.reduceAdd, Option.some.injEq, Value.int.injEq, exists_eq_left', true_and, and_true, true_or, or_true, false_or, g_10, ↓reduceIte, h.1, h.2, hNow h, hReg h, hGrd h, hBlk h, hTgo h, hWlk h, hPln h, hTap h, hHol h, h1]
    exact wRel_up hR (by omega)
  · obtain ⟨e1, e2, e3⟩ := g_ge (n := 5) (by decide) h1
    have e2 : ¬ a < 6 := e2
    have e3 : 5 < a := e3
    simp only [EX9_peek, BX9_peek_4, BX9_peek_34, BX9_peek_60, BX9_peek_76, EX10_peek, BX10_peek_6, BX10_peek_50, BX10_peek_60, BX10_peek_72, BX10_peek_85, BX10_peek_89, BX10_peek_90, BX10_peek_104, BX10_peek_118, EX10_in, EX9_isReader, Option.toList_some, Option.toList_none, List.cons_append, List.nil_append, Nat.zero_add, Nat.reduceAdd, Option.some.injEq, Value.int.injEq, exists_eq_left', true_and, and_true, true_or, or_true, false_or, g_10, ↓reduceIte, h.1, h.2, hNow h, hReg h, hGrd h, hBlk h, hTgo h, hWlk h, hPln h, hTap h, hHol h, e1, e2, e3]
    exact wRel_up hR (by omega)
  · obtain ⟨e1, e2, e3, e4, e5⟩ := g_ix (n := 5) hj (by decide)
    have e2 : nI j < 6 := e2
    have e3 : ¬ 5 < nI j := e3
    have ea : (599 : Int32) + nI j = nI (599 + j) := nI_add 599 j
    have ec : vp_in (nI (599 + j)) 607 := vp_c (by omega)
    have ed : (nI (599 + j)).toNatClampNeg = 599 + j := nI_clamp (by omega)
    by_cases c : σ 22 j = -1
    · simp only [EX9_peek, BX9_peek_4, BX9_peek_34, BX9_peek_60, BX9_peek_76, EX10_peek, BX10_peek_6, BX10_peek_50, BX10_peek_60, BX10_peek_72, BX10_peek_85, BX10_peek_89, BX10_peek_90, BX10_peek_104, BX10_peek_118, EX10_in, EX9_isReader, Option.toList_some, Option.toList_none, List.cons_append, List.nil_append, Nat.zero_add, Nat.reduceAdd, Option.some.injEq, Value.int.injEq, exists_eq_left', true_and, and_true, true_or, or_true, false_or, g_10, ↓reduceIte, g_up_d, Nat.reduceEqDiff, h.1, h.2, hNow h, hReg h, hGrd h, hBlk h, hTgo h, hWlk h, hPln h, hTap h, hHol h, e1, e2, e3, e4, e5, ea, ec, ed, c, r599 hR _ hj, show (-1 : Int32) < 0 by decide]
      exact wRel_up hR (by omega)
    have c2 : ¬ σ 22 j < 0 := gNn_neg ((rIn hR j hj).resolve_left c) (by omega)
    by_cases x0 : x < 0
    · simp only [EX9_peek, BX9_peek_4, BX9_peek_34, BX9_peek_60, BX9_peek_76, EX10_peek, BX10_peek_6, BX10_peek_50, BX10_peek_60, BX10_peek_72, BX10_peek_85, BX10_peek_89, BX10_peek_90, BX10_peek_104, BX10_peek_118, EX10_in, EX9_isReader, EX0_slotOf, Option.toList_some, Option.toList_none, List.cons_append, List.nil_append, Nat.zero_add, Nat.reduceAdd, Option.some.injEq, Value.int.injEq, exists_eq_left', true_and, and_true, true_or, or_true, false_or, g_10, ↓reduceIte, g_up_d, Nat.reduceEqDiff, h.1, h.2, hNow h, hReg h, hGrd h, hBlk h, hTgo h, hWlk h, hPln h, hTap h, hHol h, e1, e2, e3, e4, e5, ea, ec, ed, c, c2, r599 hR _ hj, x0]
      exact wRel_up hR (by omega)
    obtain ⟨n, hn, rfl⟩ := nI_of x0
    by_cases hs : n % 100 < 30
    · obtain ⟨f1, f2, f3, f4, f5⟩ := g_ix (n := 29) hs (by decide)
      have f2 : nI (n % 100) < 30 := f2
      have fm := g_m1 (j := n % 100) (by omega)
      generalize hsd : n % 100 = s at *
      have stale : ¬ σ 10 s = nI (n / 100) → gOp G (d + 4) B mX9_peek mX10_peek [.int (nI j), .int (nI n), .int i] σ := fun hgn => by
        unfold gOp
        rcases rLi hR s hs with l | l | l
        · simp +decide only [EX9_peek, BX9_peek_4, BX9_peek_34, BX9_peek_60, BX9_peek_76, EX10_peek, BX10_peek_6, BX10_peek_50, BX10_peek_60, BX10_peek_72, BX10_peek_85, BX10_peek_89, BX10_peek_90, BX10_peek_104, BX10_peek_118, EX10_in, EX9_isReader, EX0_slotOf, live_eq h hs, at_0 h hs, at_1 h hs, at_9 h hs, rs0 hR _ hs, rs1 hR _ hs, rs9 hR _ hs, Option.toList_some, Option.toList_none, List.cons_append, List.nil_append, Nat.zero_add, Nat.reduceAdd, Option.some.injEq, Value.int.injEq, exists_eq_left', true_and, and_true, true_or, or_true, false_or, g_10, ↓reduceIte, g_up_d, Nat.reduceEqDiff, h.1, h.2, hNow h, hReg h, hGrd h, hBlk h, hTgo h, hWlk h, hPln h, hTap h, hHol h, e1, e2, e3, e4, e5, ea, ec, ed, c, c2, r599 hR _ hj, x0, g_dm hn, hsd, f1, f2, f4, f5, l, hgn]
          exact wRel_up hR (by omega)
        · simp +decide only [EX9_peek, BX9_peek_4, BX9_peek_34, BX9_peek_60, BX9_peek_76, EX10_peek, BX10_peek_6, BX10_peek_50, BX10_peek_60, BX10_peek_72, BX10_peek_85, BX10_peek_89, BX10_peek_90, BX10_peek_104, BX10_peek_118, EX10_in, EX9_isReader, EX0_slotOf, live_eq h hs, at_0 h hs, at_1 h hs, at_9 h hs, rs0 hR _ hs, rs1 hR _ hs, rs9 hR _ hs, Option.toList_some, Option.toList_none, List.cons_append, List.nil_append, Nat.zero_add, Nat.reduceAdd, Option.some.injEq, Value.int.injEq, exists_eq_left', true_and, and_true, true_or, or_true, false_or, g_10, ↓reduceIte, g_up_d, Nat.reduceEqDiff, h.1, h.2, hNow h, hReg h, hGrd h, hBlk h, hTgo h, hWlk h, hPln h, hTap h, hHol h, e1, e2, e3, e4, e5, ea, ec, ed, c, c2, r599 hR _ hj, x0, g_dm hn, hsd, f1, f2, f4, f5, l, hgn]
          exact wRel_up hR (by omega)
        · by_cases hd : σ 18 s < σ 22 j
          · simp +decide only [EX9_peek, BX9_peek_4, BX9_peek_34, BX9_peek_60, BX9_peek_76, EX10_peek, BX10_peek_6, BX10_peek_50, BX10_peek_60, BX10_peek_72, BX10_peek_85, BX10_peek_89, BX10_peek_90, BX10_peek_104, BX10_peek_118, EX10_in, EX9_isReader, EX0_slotOf, live_eq h hs, at_0 h hs, at_1 h hs, at_9 h hs, rs0 hR _ hs, rs1 hR _ hs, rs9 hR _ hs, Option.toList_some, Option.toList_none, List.cons_append, List.nil_append, Nat.zero_add, Nat.reduceAdd, Option.some.injEq, Value.int.injEq, exists_eq_left', true_and, and_true, true_or, or_true, false_or, g_10, ↓reduceIte, g_up_d, Nat.reduceEqDiff, h.1, h.2, hNow h, hReg h, hGrd h, hBlk h, hTgo h, hWlk h, hPln h, hTap h, hHol h, e1, e2, e3, e4, e5, ea, ec, ed, c, c2, r599 hR _ hj, x0, g_dm hn, hsd, f1, f2, f4, f5, l, hgn, hd]
            exact wRel_up hR (by omega)
          · simp +decide only [EX9_peek, BX9_peek_4, BX9_peek_34, BX9_peek_60, BX9_peek_76, EX10_peek, BX10_peek_6, BX10_peek_50, BX10_peek_60, BX10_peek_72, BX10_peek_85, BX10_peek_89, BX10_peek_90, BX10_peek_104, BX10_peek_118, EX10_in, EX9_isReader, EX0_slotOf, live_eq h hs, at_0 h hs, at_1 h hs, at_9 h hs, rs0 hR _ hs, rs1 hR _ hs, rs9 hR _ hs, Option.toList_some, Option.toList_none, List.cons_append, List.nil_append, Nat.zero_add, Nat.reduceAdd, Option.some.injEq, Value.int.injEq, exists_eq_left', true_and, and_true, true_or, or_true, false_or, g_10, ↓reduceIte, g_up_d, Nat.reduceEqDiff, h.1, h.2, hNow h, hReg h, hGrd h, hBlk h, hTgo h, hWlk h, hPln h, hTap h, hHol h, e1, e2, e3, e4, e5, ea, ec, ed, c, c2, r599 hR _ hj, x0, g_dm hn, hsd, f1, f2, f4, f5, l, hgn, hd]
            exact wRel_up hR (by omega)
      by_cases hgn : σ 10 s = nI (n / 100)
      · have look : σ 11 s ≠ 0 → (σ 11 s = 1 ∨ σ 11 s = 2 ∧ ¬ σ 18 s < σ 22 j) → gOp G (d + 4) B mX9_peek mX10_peek [.int (nI j), .int (nI n), .int i] σ := fun l0 l => by
          unfold gOp
          obtain ⟨lo, q, r, o, p, b1, b2, b3, b4, b5, b6, b7, b8, -⟩ := rBlk hR hs l0
          by_cases c1 : i < 0
          · rcases l with l | ⟨l, hd⟩
            · simp +decide only [EX9_peek, BX9_peek_4, BX9_peek_34, BX9_peek_60, BX9_peek_76, EX10_peek, BX10_peek_6, BX10_peek_50, BX10_peek_60, BX10_peek_72, BX10_peek_85, BX10_peek_89, BX10_peek_90, BX10_peek_104, BX10_peek_118, EX10_in, EX9_isReader, EX0_slotOf, EX3_seenSince, EX3_cellAt, EX10_cellOf, BX10_cellOf_8, BX10_cellOf_13, BX10_cellOf_29, live_eq h hs, at_0 h hs, at_1 h hs, at_9 h hs, at_3 h hs, rs0 hR _ hs, rs1 hR _ hs, rs9 hR _ hs, rs3 hR _ hs, Option.toList_some, Option.toList_none, List.cons_append, List.nil_append, Nat.zero_add, Nat.reduceAdd, Option.some.injEq, Value.int.injEq, exists_eq_left', true_and, and_true, true_or, or_true, false_or, g_10, ↓reduceIte, g_up_d, Nat.reduceEqDiff, h.1, h.2, hNow h, hReg h, hGrd h, hBlk h, hTgo h, hWlk h, hPln h, hTap h, hHol h, e1, e2, e3, e4, e5, ea, ec, ed, c, c2, r599 hR _ hj, x0, g_dm hn, hsd, f1, f2, f4, f5, fm, l, hgn, c1]
              exact wRel_up hR (by omega)
            · simp +decide only [EX9_peek, BX9_peek_4, BX9_peek_34, BX9_peek_60, BX9_peek_76, EX10_peek, BX10_peek_6, BX10_peek_50, BX10_peek_60, BX10_peek_72, BX10_peek_85, BX10_peek_89, BX10_peek_90, BX10_peek_104, BX10_peek_118, EX10_in, EX9_isReader, EX0_slotOf, EX3_seenSince, EX3_cellAt, EX10_cellOf, BX10_cellOf_8, BX10_cellOf_13, BX10_cellOf_29, live_eq h hs, at_0 h hs, at_1 h hs, at_9 h hs, at_3 h hs, rs0 hR _ hs, rs1 hR _ hs, rs9 hR _ hs, rs3 hR _ hs, Option.toList_some, Option.toList_none, List.cons_append, List.nil_append, Nat.zero_add, Nat.reduceAdd, Option.some.injEq, Value.int.injEq, exists_eq_left', true_and, and_true, true_or, or_true, false_or, g_10, ↓reduceIte, g_up_d, Nat.reduceEqDiff, h.1, h.2, hNow h, hReg h, hGrd h, hBlk h, hTgo h, hWlk h, hPln h, hTap h, hHol h, e1, e2, e3, e4, e5, ea, ec, ed, c, c2, r599 hR _ hj, x0, g_dm hn, hsd, f1, f2, f4, f5, fm, l, hgn, c1, hd]
              exact wRel_up hR (by omega)
          obtain ⟨k, hk31, rfl⟩ := nI_of c1
          by_cases ck : k < q
          · obtain ⟨g1, g2, g3, g4, g5, g6, g7, g8, g9, g10⟩ := cellF hR b6 b8 ck
            rcases l with l | ⟨l, hd⟩
            · simp +decide only [EX9_peek, BX9_peek_4, BX9_peek_34, BX9_peek_60, BX9_peek_76, EX10_peek, BX10_peek_6, BX10_peek_50, BX10_peek_60, BX10_peek_72, BX10_peek_85, BX10_peek_89, BX10_peek_90, BX10_peek_104, BX10_peek_118, EX10_in, EX9_isReader, EX0_slotOf, EX3_seenSince, EX3_cellAt, EX10_cellOf, BX10_cellOf_8, BX10_cellOf_13, BX10_cellOf_29, live_eq h hs, at_0 h hs, at_1 h hs, at_9 h hs, at_3 h hs, at_2 h hs, rs0 hR _ hs, rs1 hR _ hs, rs9 hR _ hs, rs3 hR _ hs, rs2 hR _ hs, Option.toList_some, Option.toList_none, List.cons_append, List.nil_append, Nat.zero_add, Nat.reduceAdd, Option.some.injEq, Value.int.injEq, exists_eq_left', true_and, and_true, true_or, or_true, false_or, g_10, ↓reduceIte, g_up_d, Nat.reduceEqDiff, h.1, h.2, hNow h, hReg h, hGrd h, hBlk h, hTgo h, hWlk h, hPln h, hTap h, hHol h, e1, e2, e3, e4, e5, ea, ec, ed, c, c2, r599 hR _ hj, x0, g_dm hn, hsd, f1, f2, f4, f5, fm, l, hgn, c1, b1, b2, g_pred b6, g1, g2, g3, g4, g5, g6, g7, g8, g9, g10]
              exact wRel_up hR (by omega)
            · simp +decide only [EX9_peek, BX9_peek_4, BX9_peek_34, BX9_peek_60, BX9_peek_76, EX10_peek, BX10_peek_6, BX10_peek_50, BX10_peek_60, BX10_peek_72, BX10_peek_85, BX10_peek_89, BX10_peek_90, BX10_peek_104, BX10_peek_118, EX10_in, EX9_isReader, EX0_slotOf, EX3_seenSince, EX3_cellAt, EX10_cellOf, BX10_cellOf_8, BX10_cellOf_13, BX10_cellOf_29, live_eq h hs, at_0 h hs, at_1 h hs, at_9 h hs, at_3 h hs, at_2 h hs, rs0 hR _ hs, rs1 hR _ hs, rs9 hR _ hs, rs3 hR _ hs, rs2 hR _ hs, Option.toList_some, Option.toList_none, List.cons_append, List.nil_append, Nat.zero_add, Nat.reduceAdd, Option.some.injEq, Value.int.injEq, exists_eq_left', true_and, and_true, true_or, or_true, false_or, g_10, ↓reduceIte, g_up_d, Nat.reduceEqDiff, h.1, h.2, hNow h, hReg h, hGrd h, hBlk h, hTgo h, hWlk h, hPln h, hTap h, hHol h, e1, e2, e3, e4, e5, ea, ec, ed, c, c2, r599 hR _ hj, x0, g_dm hn, hsd, f1, f2, f4, f5, fm, l, hgn, c1, hd, b1, b2, g_pred b6, g1, g2, g3, g4, g5, g6, g7, g8, g9, g10]
              exact wRel_up hR (by omega)
          · have g8 : nI (q - 1) < nI k := nI_lt (by omega) hk31
            have g9 : ¬ nI k < nI q := nI_nlt (by omega) hk31
            rcases l with l | ⟨l, hd⟩
            · simp +decide only [EX9_peek, BX9_peek_4, BX9_peek_34, BX9_peek_60, BX9_peek_76, EX10_peek, BX10_peek_6, BX10_peek_50, BX10_peek_60, BX10_peek_72, BX10_peek_85, BX10_peek_89, BX10_peek_90, BX10_peek_104, BX10_peek_118, EX10_in, EX9_isReader, EX0_slotOf, EX3_seenSince, EX3_cellAt, EX10_cellOf, BX10_cellOf_8, BX10_cellOf_13, BX10_cellOf_29, live_eq h hs, at_0 h hs, at_1 h hs, at_9 h hs, at_3 h hs, at_2 h hs, rs0 hR _ hs, rs1 hR _ hs, rs9 hR _ hs, rs3 hR _ hs, rs2 hR _ hs, Option.toList_some, Option.toList_none, List.cons_append, List.nil_append, Nat.zero_add, Nat.reduceAdd, Option.some.injEq, Value.int.injEq, exists_eq_left', true_and, and_true, true_or, or_true, false_or, g_10, ↓reduceIte, g_up_d, Nat.reduceEqDiff, h.1, h.2, hNow h, hReg h, hGrd h, hBlk h, hTgo h, hWlk h, hPln h, hTap h, hHol h, e1, e2, e3, e4, e5, ea, ec, ed, c, c2, r599 hR _ hj, x0, g_dm hn, hsd, f1, f2, f4, f5, fm, l, hgn, c1, b1, b2, g_pred b6, g8, g9]
              exact wRel_up hR (by omega)
            · simp +decide only [EX9_peek, BX9_peek_4, BX9_peek_34, BX9_peek_60, BX9_peek_76, EX10_peek, BX10_peek_6, BX10_peek_50, BX10_peek_60, BX10_peek_72, BX10_peek_85, BX10_peek_89, BX10_peek_90, BX10_peek_104, BX10_peek_118, EX10_in, EX9_isReader, EX0_slotOf, EX3_seenSince, EX3_cellAt, EX10_cellOf, BX10_cellOf_8, BX10_cellOf_13, BX10_cellOf_29, live_eq h hs, at_0 h hs, at_1 h hs, at_9 h hs, at_3 h hs, at_2 h hs, rs0 hR _ hs, rs1 hR _ hs, rs9 hR _ hs, rs3 hR _ hs, rs2 hR _ hs, Option.toList_some, Option.toList_none, List.cons_append, List.nil_append, Nat.zero_add, Nat.reduceAdd, Option.some.injEq, Value.int.injEq, exists_eq_left', true_and, and_true, true_or, or_true, false_or, g_10, ↓reduceIte, g_up_d, Nat.reduceEqDiff, h.1, h.2, hNow h, hReg h, hGrd h, hBlk h, hTgo h, hWlk h, hPln h, hTap h, hHol h, e1, e2, e3, e4, e5, ea, ec, ed, c, c2, r599 hR _ hj, x0, g_dm hn, hsd, f1, f2, f4, f5, fm, l, hgn, c1, hd, b1, b2, g_pred b6, g8, g9]
              exact wRel_up hR (by omega)
        rcases rLi hR s hs with l | l | l
        · simp +decide only [EX9_peek, BX9_peek_4, BX9_peek_34, BX9_peek_60, BX9_peek_76, EX10_peek, BX10_peek_6, BX10_peek_50, BX10_peek_60, BX10_peek_72, BX10_peek_85, BX10_peek_89, BX10_peek_90, BX10_peek_104, BX10_peek_118, EX10_in, EX9_isReader, EX0_slotOf, live_eq h hs, at_0 h hs, at_1 h hs, at_9 h hs, rs0 hR _ hs, rs1 hR _ hs, rs9 hR _ hs, Option.toList_some, Option.toList_none, List.cons_append, List.nil_append, Nat.zero_add, Nat.reduceAdd, Option.some.injEq, Value.int.injEq, exists_eq_left', true_and, and_true, true_or, or_true, false_or, g_10, ↓reduceIte, g_up_d, Nat.reduceEqDiff, h.1, h.2, hNow h, hReg h, hGrd h, hBlk h, hTgo h, hWlk h, hPln h, hTap h, hHol h, e1, e2, e3, e4, e5, ea, ec, ed, c, c2, r599 hR _ hj, x0, g_dm hn, hsd, f1, f2, f4, f5, l, hgn]
          exact wRel_up hR (by omega)
        · exact look (by rw [l]; decide) (Or.inl l)
        · by_cases hd : σ 18 s < σ 22 j
          · simp +decide only [EX9_peek, BX9_peek_4, BX9_peek_34, BX9_peek_60, BX9_peek_76, EX10_peek, BX10_peek_6, BX10_peek_50, BX10_peek_60, BX10_peek_72, BX10_peek_85, BX10_peek_89, BX10_peek_90, BX10_peek_104, BX10_peek_118, EX10_in, EX9_isReader, EX0_slotOf, EX3_seenSince, live_eq h hs, at_0 h hs, at_1 h hs, at_9 h hs, rs0 hR _ hs, rs1 hR _ hs, rs9 hR _ hs, Option.toList_some, Option.toList_none, List.cons_append, List.nil_append, Nat.zero_add, Nat.reduceAdd, Option.some.injEq, Value.int.injEq, exists_eq_left', true_and, and_true, true_or, or_true, false_or, g_10, ↓reduceIte, g_up_d, Nat.reduceEqDiff, h.1, h.2, hNow h, hReg h, hGrd h, hBlk h, hTgo h, hWlk h, hPln h, hTap h, hHol h, e1, e2, e3, e4, e5, ea, ec, ed, c, c2, r599 hR _ hj, x0, g_dm hn, hsd, f1, f2, f4, f5, fm, l, hgn, hd]
            exact wRel_up hR (by omega)
          · exact look (by rw [l]; decide) (Or.inr ⟨l, hd⟩)
      · exact stale hgn
    · have f2 : ¬ nI (n % 100) < 30 := nI_nlt (b := 30) (by omega) (by omega)
      simp only [EX9_peek, BX9_peek_4, BX9_peek_34, BX9_peek_60, BX9_peek_76, EX10_peek, BX10_peek_6, BX10_peek_50, BX10_peek_60, BX10_peek_72, BX10_peek_85, BX10_peek_89, BX10_peek_90, BX10_peek_104, BX10_peek_118, EX10_in, EX9_isReader, EX0_slotOf, Option.toList_some, Option.toList_none, List.cons_append, List.nil_append, Nat.zero_add, Nat.reduceAdd, Option.some.injEq, Value.int.injEq, exists_eq_left', true_and, and_true, true_or, or_true, false_or, g_10, ↓reduceIte, g_up_d, Nat.reduceEqDiff, h.1, h.2, hNow h, hReg h, hGrd h, hBlk h, hTgo h, hWlk h, hPln h, hTap h, hHol h, e1, e2, e3, e4, e5, ea, ec, ed, c, c2, r599 hR _ hj, x0, g_dm hn, f2]
      exact wRel_up hR (by omega)
end O22
