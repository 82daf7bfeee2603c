section O15
variable {G : gG} {d B : Nat} {σ : gM}
/-- what a block is, in numbers -/
theorem rBlk (hR : wRel B σ) {s : Nat} (hs : s < 30) (hl : σ 11 s ≠ 0) : ∃ l q r o p : Nat, σ 12 s = nI l ∧ σ 13 s = nI q ∧ σ 14 s = nI r ∧ σ 15 s = nI o ∧ σ 16 s = nI p ∧ 1 ≤ q ∧ q ≤ 40 ∧ l + q ≤ 240 ∧ r < gN (σ 3 0) ∧ r < 6 ∧ o ≤ 9 ∧ p ≤ 9 ∧ gN (σ 4 r) ≤ l ∧ l + q ≤ gN (σ 4 r) + gN (σ 5 r) := by
  obtain ⟨-, -, -, -, z⟩ := rSl hR s hs
  obtain ⟨f1, f2, f3, f4, f5, f6, f7, f8, f9⟩ := z hl
  obtain ⟨w1, w2⟩ := hR.1.1.1
  have w3 := w2 _ f2
  have f1' : gNn (σ 14 s) 5 := f1
  have f2' : gN (σ 14 s) < gN (σ 3 0) := f2
  have f3' : gNn (σ 13 s) 40 := f3
  have f4' : 1 ≤ gN (σ 13 s) := f4
  have f5' : gNn (σ 12 s) 240 := f5
  have f6' : gN (σ 4 (gN (σ 14 s))) ≤ gN (σ 12 s) := f6
  have f7' : gN (σ 12 s) + gN (σ 13 s) ≤ gN (σ 4 (gN (σ 14 s))) + gN (σ 5 (gN (σ 14 s))) := f7
  have f8' : gNn (σ 15 s) 9 := f8
  have f9' : gNn (σ 16 s) 9 := f9
  have w4 : gN (σ 4 (gN (σ 14 s))) + gN (σ 5 (gN (σ 14 s))) ≤ 240 := w3.2.2.2.2.1
  have := f1'.2
  exact ⟨_, _, _, _, _, f5'.1, f3'.1, f1'.1, f8'.1, f9'.1, f4', f3'.2, by omega, f2', by omega, f8'.2, f9'.2, f6', f7'⟩
theorem good_n' (h : gOK G) (hR : wRel B σ) {x : Int32} (hg : ∀ s, ¬ gGood σ x s) : (∀ d K, g_inv (gCm' G (d + 2)) mX0_liveSlotOf [.ref 9, .int x] σ K = K (some (.int (-1))) σ) ∧ ∀ d K, g_inv (gCm' G (d + 3)) mX10_good [.ref 104, .int x] σ K = K (some (.int (-2))) σ := ⟨(good_n h (B := B) hg).1, fun d K => (good_n h (B := B) hg).2 d K σ (rs0 hR) (rs1 hR)⟩
theorem op_leave (h : gOK G) (hB : B < 1000000) (hR : wRel B σ) (a : Int32) : gOp G (d + 3) B mX9_leave mX10_leave [.int a] σ := by
  unfold gOp
  rcases pk_ix a (n := 6) (by decide) with h1 | h1 | ⟨j, hj, rfl⟩
  · simp only [EX9_leave, BX9_leave_4, EX10_leave, BX10_leave_6, EX9_isReader, EX10_in, Option.toList_some, Option.toList_none, List.cons_append, List.nil_append, Nat.zero_add, Nat.reduceAdd, Option.some.injEq, Value.int.injEq, exists_eq_left', true_and, and_true, g_10, ↓reduceIte, h.1, h.2, hNow h, hReg h, hGrd h, hBlk h, hTgo h, hWlk h, hPln h, hTap h, hHol h, h1]
    exact wRel_up hR (by omega)
  · obtain ⟨e1, e2, e3⟩ := g_ge (n := 5) (by decide) h1
    have e2 : ¬ a < 6 := e2
    have e3 : 5 < a := e3
    simp only [EX9_leave, BX9_leave_4, EX10_leave, BX10_leave_6, EX9_isReader, EX10_in, Option.toList_some, Option.toList_none, List.cons_append, List.nil_append, Nat.zero_add, Nat.reduceAdd, Option.some.injEq, Value.int.injEq, exists_eq_left', true_and, and_true, g_10, ↓reduceIte, h.1, h.2, hNow h, hReg h, hGrd h, hBlk h, hTgo h, hWlk h, hPln h, hTap h, hHol h, e1, e2, e3]
    exact wRel_up hR (by omega)
  · obtain ⟨e1, e2, e3, e4, e5⟩ := g_ix (n := 5) hj (by decide)
    have e2 : nI j < 6 := e2
    have e3 : ¬ 5 < nI j := e3
    have ea : (599 : Int32) + nI j = nI (599 + j) := nI_add 599 j
    have ec : vp_in (nI (599 + j)) 607 := vp_c (by omega)
    have ed : (nI (599 + j)).toNatClampNeg = 599 + j := nI_clamp (by omega)
    by_cases c : σ 22 j = -1
    · simp only [EX9_leave, BX9_leave_4, EX10_leave, BX10_leave_6, EX9_isReader, EX10_in, Option.toList_some, Option.toList_none, List.cons_append, List.nil_append, Nat.zero_add, Nat.reduceAdd, Option.some.injEq, Value.int.injEq, exists_eq_left', true_and, and_true, g_10, ↓reduceIte, g_up_d, Nat.reduceEqDiff, h.1, h.2, hNow h, hReg h, hGrd h, hBlk h, hTgo h, hWlk h, hPln h, hTap h, hHol h, e1, e2, e3, e4, e5, ea, ec, ed, c, r599 hR _ hj, show (-1 : Int32) < 0 by decide]
      exact wRel_up hR (by omega)
    · have c2 : ¬ σ 22 j < 0 := gNn_neg ((rIn hR j hj).resolve_left c) (by omega)
      simp only [EX9_leave, BX9_leave_4, EX10_leave, BX10_leave_6, EX9_isReader, EX10_in, Option.toList_some, Option.toList_none, List.cons_append, List.nil_append, Nat.zero_add, Nat.reduceAdd, Option.some.injEq, Value.int.injEq, exists_eq_left', true_and, and_true, g_10, ↓reduceIte, g_up_d, Nat.reduceEqDiff, h.1, h.2, hNow h, hReg h, hGrd h, hBlk h, hTgo h, hWlk h, hPln h, hTap h, hHol h, e1, e2, e3, e4, e5, ea, ec, ed, c, c2, r599 hR _ hj]
      refine wRel_now hR (by omega) ?_ (fun i hi h1 h2 => ?_)
      · rw [gMem_out (by decide), gMem_in (k := 21) (b := 1) (by decide), g_up_s, g_up_o (by decide)]
        exact wMem_up (wMem_in hR.1 hj (Or.inl rfl)) (by omega)
      · rw [g_up_o (by omega), g_up_o (by omega)]
theorem op_quota (h : gOK G) (hB : B < 1000000) (hR : wRel B σ) (a b : Int32) : gOp G (d + 3) B mX9_quota mX10_quota [.int a, .int b] σ := by
  unfold gOp
  rcases pk_ix a (n := 10) (by decide) with h1 | h1 | ⟨j, hj, rfl⟩
  · simp only [EX9_quota, BX9_quota_4, BX9_quota_31, EX10_quota, BX10_quota_7, BX10_quota_18, BX10_quota_28, EX9_isOwner, EX10_in, Option.toList_some, Option.toList_none, List.cons_append, List.nil_append, Nat.zero_add, Nat.reduceAdd, Option.some.injEq, Value.int.injEq, exists_eq_left', true_and, and_true, g_10, ↓reduceIte, h.1, h.2, hNow h, hReg h, hGrd h, hBlk h, hTgo h, hWlk h, hPln h, hTap h, hHol h, h1]
    exact wRel_up hR (by omega)
  · obtain ⟨e1, e2, e3⟩ := g_ge (n := 9) (by decide) h1
    have e2 : ¬ a < 10 := e2
    have e3 : 9 < a := e3
    simp only [EX9_quota, BX9_quota_4, BX9_quota_31, EX10_quota, BX10_quota_7, BX10_quota_18, BX10_quota_28, EX9_isOwner, EX10_in, Option.toList_some, Option.toList_none, List.cons_append, List.nil_append, Nat.zero_add, Nat.reduceAdd, Option.some.injEq, Value.int.injEq, exists_eq_left', true_and, and_true, g_10, ↓reduceIte, h.1, h.2, hNow h, hReg h, hGrd h, hBlk h, hTgo h, hWlk h, hPln h, hTap h, hHol h, e1, e2, e3]
    exact wRel_up hR (by omega)
  · obtain ⟨e1, e2, e3, e4, e5⟩ := g_ix (n := 9) hj (by decide)
    have e2 : nI j < 10 := e2
    have e3 : ¬ 9 < nI j := e3
    have ea : (589 : Int32) + nI j = nI (589 + j) := nI_add 589 j
    have ec : vp_in (nI (589 + j)) 607 := vp_c (by omega)
    have ed : (nI (589 + j)).toNatClampNeg = 589 + j := nI_clamp (by omega)
    by_cases c1 : b < 0
    · simp only [EX9_quota, BX9_quota_4, BX9_quota_31, EX10_quota, BX10_quota_7, BX10_quota_18, BX10_quota_28, EX9_isOwner, EX10_in, Option.toList_some, Option.toList_none, List.cons_append, List.nil_append, Nat.zero_add, Nat.reduceAdd, Option.some.injEq, Value.int.injEq, exists_eq_left', true_and, and_true, g_10, ↓reduceIte, h.1, h.2, hNow h, hReg h, hGrd h, hBlk h, hTgo h, hWlk h, hPln h, hTap h, hHol h, e1, e2, e3, c1]
      exact wRel_up hR (by omega)
    by_cases c2 : 240 < b
    · simp only [EX9_quota, BX9_quota_4, BX9_quota_31, EX10_quota, BX10_quota_7, BX10_quota_18, BX10_quota_28, EX9_isOwner, EX10_in, Option.toList_some, Option.toList_none, List.cons_append, List.nil_append, Nat.zero_add, Nat.reduceAdd, Option.some.injEq, Value.int.injEq, exists_eq_left', true_and, and_true, g_10, ↓reduceIte, h.1, h.2, hNow h, hReg h, hGrd h, hBlk h, hTgo h, hWlk h, hPln h, hTap h, hHol h, e1, e2, e3, c1, c2]
      exact wRel_up hR (by omega)
    obtain ⟨n, -, hn, rfl⟩ := g_rng (a := 0) (b := 240) (by decide) (by decide) c1 c2
    by_cases c3 : nI n < gUsed σ (nI j)
    · simp only [EX9_quota, BX9_quota_4, BX9_quota_31, EX10_quota, BX10_quota_7, BX10_quota_18, BX10_quota_28, EX9_isOwner, EX10_in, Option.toList_some, Option.toList_none, List.cons_append, List.nil_append, Nat.zero_add, Nat.reduceAdd, Option.some.injEq, Value.int.injEq, exists_eq_left', true_and, and_true, g_10, ↓reduceIte, h.1, h.2, hNow h, hReg h, hGrd h, hBlk h, hTgo h, hWlk h, hPln h, hTap h, hHol h, e1, e2, e3, c1, c2, c3, usedBy_eq h, used_eq h hR]
      exact wRel_up hR (by omega)
    · have hq : (g_up σ 21 j (nI n)) 105 = σ 105 := g_up_o (by decide)
      simp only [EX9_quota, BX9_quota_4, BX9_quota_31, EX10_quota, BX10_quota_7, BX10_quota_18, BX10_quota_28, EX9_isOwner, EX10_in, Option.toList_some, Option.toList_none, List.cons_append, List.nil_append, Nat.zero_add, Nat.reduceAdd, Option.some.injEq, Value.int.injEq, exists_eq_left', true_and, and_true, g_10, ↓reduceIte, g_up_d, Nat.reduceEqDiff, h.1, h.2, hNow h, hReg h, hGrd h, hBlk h, hTgo h, hWlk h, hPln h, hTap h, hHol h, e1, e2, e3, e4, e5, ea, ec, ed, c1, c2, c3, usedBy_eq h, used_eq h hR hq, r589 hR _ hj]
      refine wRel_now hR (by omega) ?_ (fun i hi h1 h2 => ?_)
      · rw [gMem_out (by decide), gMem_in (k := 20) (b := 1) (by decide), g_up_s, g_up_o (by decide)]
        exact wMem_up (wMem_quota hR.1 hj (gNn_nI hn (by decide))) (by omega)
      · rw [g_up_o (by omega), g_up_o (by omega)]
theorem op_pin (h : gOK G) (hB : B < 1000000) (hR : wRel B σ) (x n : Int32) : gOp G (d + 4) B mX9_pin mX10_pin [.int x, .int n] σ := by
  unfold gOp
  have main : (n = 1 ∨ n = -1) → g_inv (gCm' G (d + 4)) mX9_pin [.ref 0, .int x, .int n] σ fun r1 σ1 => ∃ r, r1 = some (.int r) ∧ g_inv (gCm' G (d + 4)) mX10_pin [.ref 104, .int x, .int n] σ1 fun r2 σ2 => r2 = some (.int r) ∧ wRel (B + 1) σ2 := by
    intro hn
    have hne : (n = 1) = True ∨ (n = 1) = False ∧ (n = -1) = True := by
      rcases hn with rfl | rfl
      · exact Or.inl (eq_self _)
      · exact Or.inr ⟨by decide, eq_self _⟩
    rcases Classical.em (∃ s, gGood σ x s) with ⟨s, hg⟩ | hg
    · obtain ⟨hs, hl, -⟩ := id hg
      obtain ⟨y1, y2⟩ := good_y (G := G) (B := B) h hg
      obtain ⟨e1, e2, e3, e4, e5⟩ := g_ix (n := 29) hs (by decide)
      have em := g_m1 (j := s) (by omega)
      by_cases c1 : σ 16 s + n < 0
      · rcases hne with hne | ⟨hne, hne2⟩
        · simp only [EX9_pin, BX9_pin_12, BX9_pin_23, EX10_pin, BX10_pin_12, BX10_pin_17, BX10_pin_32, BX10_pin_40, BX10_pin_57, BX10_pin_62, BX10_pin_69, EX10_in, Option.toList_some, Option.toList_none, List.cons_append, List.nil_append, Nat.zero_add, Nat.reduceAdd, Option.some.injEq, Value.int.injEq, exists_eq_left', true_and, and_true, g_10, ↓reduceIte, g_up_d, Nat.reduceEqDiff, h.1, h.2, hNow h, hReg h, hGrd h, hBlk h, hTgo h, hWlk h, hPln h, hTap h, hHol h, y1, y2, hne, e1, e4, e5, em, c1, at_6 h hs, sets_6 h hs, rs0 hR _ hs, rs1 hR _ hs, rs6 hR _ hs]
          exact wRel_up hR (by omega)
        · simp only [EX9_pin, BX9_pin_12, BX9_pin_23, EX10_pin, BX10_pin_12, BX10_pin_17, BX10_pin_32, BX10_pin_40, BX10_pin_57, BX10_pin_62, BX10_pin_69, EX10_in, Option.toList_some, Option.toList_none, List.cons_append, List.nil_append, Nat.zero_add, Nat.reduceAdd, Option.some.injEq, Value.int.injEq, exists_eq_left', true_and, and_true, g_10, ↓reduceIte, g_up_d, Nat.reduceEqDiff, h.1, h.2, hNow h, hReg h, hGrd h, hBlk h, hTgo h, hWlk h, hPln h, hTap h, hHol h, y1, y2, hne, hne2, e1, e4, e5, em, c1, at_6 h hs, sets_6 h hs, rs0 hR _ hs, rs1 hR _ hs, rs6 hR _ hs]
          exact wRel_up hR (by omega)
      · by_cases c2 : 9 < σ 16 s + n
        · rcases hne with hne | ⟨hne, hne2⟩
          · simp only [EX9_pin, BX9_pin_12, BX9_pin_23, EX10_pin, BX10_pin_12, BX10_pin_17, BX10_pin_32, BX10_pin_40, BX10_pin_57, BX10_pin_62, BX10_pin_69, EX10_in, Option.toList_some, Option.toList_none, List.cons_append, List.nil_append, Nat.zero_add, Nat.reduceAdd, Option.some.injEq, Value.int.injEq, exists_eq_left', true_and, and_true, g_10, ↓reduceIte, g_up_d, Nat.reduceEqDiff, h.1, h.2, hNow h, hReg h, hGrd h, hBlk h, hTgo h, hWlk h, hPln h, hTap h, hHol h, y1, y2, hne, e1, e4, e5, em, c1, c2, at_6 h hs, sets_6 h hs, rs0 hR _ hs, rs1 hR _ hs, rs6 hR _ hs]
            exact wRel_up hR (by omega)
          · simp only [EX9_pin, BX9_pin_12, BX9_pin_23, EX10_pin, BX10_pin_12, BX10_pin_17, BX10_pin_32, BX10_pin_40, BX10_pin_57, BX10_pin_62, BX10_pin_69, EX10_in, Option.toList_some, Option.toList_none, List.cons_append, List.nil_append, Nat.zero_add, Nat.reduceAdd, Option.some.injEq, Value.int.injEq, exists_eq_left', true_and, and_true, g_10, ↓reduceIte, g_up_d, Nat.reduceEqDiff, h.1, h.2, hNow h, hReg h, hGrd h, hBlk h, hTgo h, hWlk h, hPln h, hTap h, hHol h, y1, y2, hne, hne2, e1, e4, e5, em, c1, c2, at_6 h hs, sets_6 h hs, rs0 hR _ hs, rs1 hR _ hs, rs6 hR _ hs]
            exact wRel_up hR (by omega)
        · obtain ⟨p, -, hp, ep⟩ := g_rng (a := 0) (b := 9) (by decide) (by decide) c1 c2
          have fin : wRel (B + 1) (g_up (g_up σ 16 s (σ 16 s + n)) 105 (s * 11 + 6) (σ 16 s + n)) := by
            refine wRel_now hR (by omega) ?_ (fun i hi h1 h2 => ?_)
            · rw [gMem_out (by decide), gMem_in (k := 15) (b := 1) (by decide), g_up_s, g_up_o (by decide)]
              exact wMem_up (wMem_pin hR.1 hs (by rw [ep]; exact gNn_nI hp (by decide))) (by omega)
            · rw [g_up_o (by omega), g_up_o (by omega)]
          rcases hne with hne | ⟨hne, hne2⟩
          · simp only [EX9_pin, BX9_pin_12, BX9_pin_23, EX10_pin, BX10_pin_12, BX10_pin_17, BX10_pin_32, BX10_pin_40, BX10_pin_57, BX10_pin_62, BX10_pin_69, EX10_in, Option.toList_some, Option.toList_none, List.cons_append, List.nil_append, Nat.zero_add, Nat.reduceAdd, Option.some.injEq, Value.int.injEq, exists_eq_left', true_and, and_true, g_10, ↓reduceIte, g_up_d, Nat.reduceEqDiff, h.1, h.2, hNow h, hReg h, hGrd h, hBlk h, hTgo h, hWlk h, hPln h, hTap h, hHol h, y1, y2, hne, e1, e4, e5, em, c1, c2, at_6 h hs, sets_6 h hs, rs0 hR _ hs, rs1 hR _ hs, rs6 hR _ hs]
            exact fin
          · simp only [EX9_pin, BX9_pin_12, BX9_pin_23, EX10_pin, BX10_pin_12, BX10_pin_17, BX10_pin_32, BX10_pin_40, BX10_pin_57, BX10_pin_62, BX10_pin_69, EX10_in, Option.toList_some, Option.toList_none, List.cons_append, List.nil_append, Nat.zero_add, Nat.reduceAdd, Option.some.injEq, Value.int.injEq, exists_eq_left', true_and, and_true, g_10, ↓reduceIte, g_up_d, Nat.reduceEqDiff, h.1, h.2, hNow h, hReg h, hGrd h, hBlk h, hTgo h, hWlk h, hPln h, hTap h, hHol h, y1, y2, hne, hne2, e1, e4, e5, em, c1, c2, at_6 h hs, sets_6 h hs, rs0 hR _ hs, rs1 hR _ hs, rs6 hR _ hs]
            exact fin
    · obtain ⟨n1, n2⟩ := good_n' h hR (not_exists.mp hg)
      rcases hne with hne | ⟨hne, hne2⟩
      · simp only [EX9_pin, BX9_pin_12, BX9_pin_23, EX10_pin, BX10_pin_12, BX10_pin_17, BX10_pin_32, BX10_pin_40, BX10_pin_57, BX10_pin_62, BX10_pin_69, EX10_in, Option.toList_some, Option.toList_none, List.cons_append, List.nil_append, Nat.zero_add, Nat.reduceAdd, Option.some.injEq, Value.int.injEq, exists_eq_left', true_and, and_true, g_10, ↓reduceIte, h.1, h.2, hNow h, hReg h, hGrd h, hBlk h, hTgo h, hWlk h, hPln h, hTap h, hHol h, n1, n2, hne, show (-2 : Int32) < 0 by decide]
        exact wRel_up hR (by omega)
      · simp only [EX9_pin, BX9_pin_12, BX9_pin_23, EX10_pin, BX10_pin_12, BX10_pin_17, BX10_pin_32, BX10_pin_40, BX10_pin_57, BX10_pin_62, BX10_pin_69, EX10_in, Option.toList_some, Option.toList_none, List.cons_append, List.nil_append, Nat.zero_add, Nat.reduceAdd, Option.some.injEq, Value.int.injEq, exists_eq_left', true_and, and_true, g_10, ↓reduceIte, h.1, h.2, hNow h, hReg h, hGrd h, hBlk h, hTgo h, hWlk h, hPln h, hTap h, hHol h, n1, n2, hne, hne2, show (-2 : Int32) < 0 by decide]
        exact wRel_up hR (by omega)
  by_cases c1 : n = 1
  · exact main (Or.inl c1)
  · by_cases c2 : n = -1
    · exact main (Or.inr c2)
    · simp only [EX9_pin, BX9_pin_12, BX9_pin_23, EX10_pin, BX10_pin_12, BX10_pin_17, BX10_pin_32, BX10_pin_40, BX10_pin_57, BX10_pin_62, BX10_pin_69, EX10_in, Option.toList_some, Option.toList_none, List.cons_append, List.nil_append, Nat.zero_add, Nat.reduceAdd, Option.some.injEq, Value.int.injEq, exists_eq_left', true_and, and_true, g_10, ↓reduceIte, h.1, h.2, hNow h, hReg h, hGrd h, hBlk h, hTgo h, hWlk h, hPln h, hTap h, hHol h, c1, c2]
      exact wRel_up hR (by omega)
end O15
