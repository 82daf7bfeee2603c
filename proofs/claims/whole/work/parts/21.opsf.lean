section O21
variable {G : gG} {d B : Nat} {σ : gM} {K : gK}
theorem wTape_c {σ' : gM} (t : wTape σ) (hm : σ 126 0 = 0) (h0 : σ' 126 = σ 126) (h1 : σ' 104 11 = σ 104 11) (h2 : σ' 95 0 = σ 95 0) (h3 : σ' 114 = σ 114) (h4 : σ' 96 = σ 96) : wTape σ' := by
  obtain ⟨⟨t0, -⟩, t⟩ := t
  unfold wTape wGh
  rw [h0, h1, h2, h3, h4]
  exact ⟨⟨t0, fun z => by rw [hm] at z; exact absurd z (by decide)⟩, t⟩
theorem isH_eq (h : gOK G) {a : Int32} : g_inv (gCm' G (d + 2)) mX10_isHolder [.ref 104, .int a] σ K = if a < 0 then K (some (.int 0)) σ else if a < 6 then K (some (.int 1)) σ else K (some (.int 0)) σ := by
  by_cases c1 : a < 0
  · simp only [EX10_isHolder, BX10_isHolder_6, EX10_in, Option.toList_some, Option.toList_none, List.cons_append, List.nil_append, Nat.zero_add, Nat.reduceAdd, Option.some.injEq, Value.int.injEq, exists_eq_left', true_and, and_true, true_or, or_true, false_or, g_10, ↓reduceIte, h.2, c1]
  · by_cases c2 : 5 < a
    · have c3 : ¬ a < 6 := by
        rw [Int32.lt_iff_toInt_lt] at c2 ⊢
        rw [show (5 : Int32).toInt = 5 by decide] at c2
        rw [show (6 : Int32).toInt = 6 by decide]; omega
      simp only [EX10_isHolder, BX10_isHolder_6, EX10_in, Option.toList_some, Option.toList_none, List.cons_append, List.nil_append, Nat.zero_add, Nat.reduceAdd, Option.some.injEq, Value.int.injEq, exists_eq_left', true_and, and_true, true_or, or_true, false_or, g_10, ↓reduceIte, h.2, c1, c2, c3]
    · have c3 : a < 6 := by
        rw [Int32.lt_iff_toInt_lt] at c2 ⊢
        rw [show (5 : Int32).toInt = 5 by decide] at c2
        rw [show (6 : Int32).toInt = 6 by decide]; omega
      simp only [EX10_isHolder, BX10_isHolder_6, EX10_in, Option.toList_some, Option.toList_none, List.cons_append, List.nil_append, Nat.zero_add, Nat.reduceAdd, Option.some.injEq, Value.int.injEq, exists_eq_left', true_and, and_true, true_or, or_true, false_or, g_10, ↓reduceIte, h.2, c1, c2, c3]
theorem op_hold (h : gOK G) (hB : B < 1000000) (hR : wRel B σ) (hm : σ 126 0 = 0) (a x : Int32) : gOp G (d + 4) B mX9_hold mX10_hold [.int a, .int x] σ := by
  unfold gOp
  rcases pk_ix a (n := 6) (by decide) with h1 | h1 | ⟨j, hj, rfl⟩
  · simp only [EX9_hold, BX9_hold_4, BX9_hold_37, BX9_hold_54, EX10_hold, BX10_hold_5, BX10_hold_20, BX10_hold_26, BX10_hold_42, EX9_isHolder, isH_eq h, Option.toList_some, Option.toList_none, List.cons_append, List.nil_append, Nat.zero_add, Nat.reduceAdd, Option.some.injEq, Value.int.injEq, exists_eq_left', true_and, and_true, true_or, or_true, false_or, g_10, ↓reduceIte, h.1, h.2, hNow h, hReg h, hGrd h, hBlk h, hTgo h, hWlk h, hPln h, hTap h, hHol h, h1]
    exact wRel_up hR (by omega)
  · obtain ⟨e1, e2, e3⟩ := g_ge (n := 5) (by decide) h1
    have e2 : ¬ a < 6 := e2
    simp only [EX9_hold, BX9_hold_4, BX9_hold_37, BX9_hold_54, EX10_hold, BX10_hold_5, BX10_hold_20, BX10_hold_26, BX10_hold_42, EX9_isHolder, isH_eq h, Option.toList_some, Option.toList_none, List.cons_append, List.nil_append, Nat.zero_add, Nat.reduceAdd, Option.some.injEq, Value.int.injEq, exists_eq_left', true_and, and_true, true_or, or_true, false_or, g_10, ↓reduceIte, h.1, h.2, hNow h, hReg h, hGrd h, hBlk h, hTgo h, hWlk h, hPln h, hTap h, hHol h, e1, e2]
    exact wRel_up hR (by omega)
  · obtain ⟨e1, e2, e3, e4, e5⟩ := g_ix (n := 5) hj (by decide)
    have e2 : nI j < 6 := e2
    by_cases c : x = -1
    · simp only [EX9_hold, BX9_hold_4, BX9_hold_37, BX9_hold_54, EX10_hold, BX10_hold_5, BX10_hold_20, BX10_hold_26, BX10_hold_42, EX9_isHolder, isH_eq h, Option.toList_some, Option.toList_none, List.cons_append, List.nil_append, Nat.zero_add, Nat.reduceAdd, Option.some.injEq, Value.int.injEq, exists_eq_left', true_and, and_true, true_or, or_true, false_or, g_10, ↓reduceIte, g_up_d, Nat.reduceEqDiff, h.1, h.2, hNow h, hReg h, hGrd h, hBlk h, hTgo h, hWlk h, hPln h, hTap h, hHol h, e1, e2, e4, e5, c]
      refine wRel_th hR (by omega) ?_ (fun i h1 h2 => ?_) ?_ ?_ ?_ (wTape_c hR.2.2.1 hm ?_ ?_ ?_ ?_ ?_) (fun y hy => ?_)
      · rw [g_up_o (by decide), g_up_o (by decide), g_up_o (by decide)]
      · rw [g_up_o (by omega), g_up_o (by omega), g_up_o (by omega)]
      · rw [g_up_o (by decide), g_up_o (by decide), g_up_o (by decide)]
      · rw [g_up_o (by decide), g_up_o (by decide), g_up_o (by decide)]
      · rw [g_up_o (by decide), g_up_o (by decide), g_up_o (by decide)]
      · rw [g_up_o (by decide), g_up_o (by decide), g_up_o (by decide)]
      · rw [g_up_o (by decide), g_up_o (by decide), g_up_o (by decide)]
      · rw [g_up_o (by decide), g_up_o (by decide), g_up_o (by decide)]
      · rw [g_up_o (by decide), g_up_o (by decide), g_up_o (by decide)]
      · rw [g_up_o (by decide), g_up_o (by decide), g_up_o (by decide)]
      · by_cases e : y = j
        · subst e
          simp +decide only [g_up_d, Nat.reduceEqDiff, ↓reduceIte, true_and, and_true, false_implies, implies_true, true_implies, true_or, or_true, false_or]
        · have := hR.2.2.2 y hy
          simp +decide only [g_up_d, Nat.reduceEqDiff, ↓reduceIte, e, show ¬ 119 + y = 116 by omega, show ¬ 119 + y = 115 by omega, show ¬ 119 + y = 100 by omega]
          exact this
    · rcases Classical.em (∃ s, gGood σ x s) with ⟨s, hg⟩ | hg
      · obtain ⟨hs, hl, -⟩ := id hg
        obtain ⟨y1, y2⟩ := good_y (G := G) (B := B) h hg
        obtain ⟨f1, f2, f3, f4, f5⟩ := g_ix (n := 29) hs (by decide)
        have em := g_m1 (j := s) (by omega)
        simp only [EX9_hold, BX9_hold_4, BX9_hold_37, BX9_hold_54, EX10_hold, BX10_hold_5, BX10_hold_20, BX10_hold_26, BX10_hold_42, EX9_isHolder, isH_eq h, Option.toList_some, Option.toList_none, List.cons_append, List.nil_append, Nat.zero_add, Nat.reduceAdd, Option.some.injEq, Value.int.injEq, exists_eq_left', true_and, and_true, true_or, or_true, false_or, g_10, ↓reduceIte, g_up_d, Nat.reduceEqDiff, h.1, h.2, hNow h, hReg h, hGrd h, hBlk h, hTgo h, hWlk h, hPln h, hTap h, hHol h, e1, e2, e4, e5, c, y1, y2, f1, em, rs0 hR _ hs, rs1 hR _ hs]
        refine wRel_th hR (by omega) ?_ (fun i h1 h2 => ?_) ?_ ?_ ?_ (wTape_c hR.2.2.1 hm ?_ ?_ ?_ ?_ ?_) (fun y hy => ?_)
        · rw [g_up_o (by decide), g_up_o (by decide), g_up_o (by decide), g_up_o (by decide)]
        · rw [g_up_o (by omega), g_up_o (by omega), g_up_o (by omega), g_up_o (by omega)]
        · rw [g_up_o (by decide), g_up_o (by decide), g_up_o (by decide), g_up_o (by decide)]
        · rw [g_up_o (by decide), g_up_o (by decide), g_up_o (by decide), g_up_o (by decide)]
        · rw [g_up_o (by decide), g_up_o (by decide), g_up_o (by decide), g_up_o (by decide)]
        · rw [g_up_o (by decide), g_up_o (by decide), g_up_o (by decide), g_up_o (by decide)]
        · rw [g_up_o (by decide), g_up_o (by decide), g_up_o (by decide), g_up_o (by decide)]
        · rw [g_up_o (by decide), g_up_o (by decide), g_up_o (by decide), g_up_o (by decide)]
        · rw [g_up_o (by decide), g_up_o (by decide), g_up_o (by decide), g_up_o (by decide)]
        · rw [g_up_o (by decide), g_up_o (by decide), g_up_o (by decide), g_up_o (by decide)]
        · by_cases e : y = j
          · subst e
            simp +decide only [g_up_d, Nat.reduceEqDiff, ↓reduceIte, true_and, and_true, false_implies, implies_true, true_implies, true_or, or_true, false_or]
          · have := hR.2.2.2 y hy
            simp +decide only [g_up_d, Nat.reduceEqDiff, ↓reduceIte, e, show ¬ 119 + y = 116 by omega, show ¬ 119 + y = 115 by omega, show ¬ 119 + y = 100 by omega, show ¬ 119 + y = 101 by omega]
            exact this
      · obtain ⟨n1, n2⟩ := good_n' h hR (not_exists.mp hg)
        simp only [EX9_hold, BX9_hold_4, BX9_hold_37, BX9_hold_54, EX10_hold, BX10_hold_5, BX10_hold_20, BX10_hold_26, BX10_hold_42, EX9_isHolder, isH_eq h, Option.toList_some, Option.toList_none, List.cons_append, List.nil_append, Nat.zero_add, Nat.reduceAdd, Option.some.injEq, Value.int.injEq, exists_eq_left', true_and, and_true, true_or, or_true, false_or, g_10, ↓reduceIte, h.1, h.2, hNow h, hReg h, hGrd h, hBlk h, hTgo h, hWlk h, hPln h, hTap h, hHol h, e1, e2, c, n1, n2, show (-2 : Int32) < 0 by decide]
        exact wRel_up hR (by omega)
/-- where item i of a holder's row lies -/
theorem itemF {j i : Nat} (hj : j < 6) (hi : i < 60) : (60 : Int32) * nI j + nI i = nI (j * 60 + i) ∧ vp_in (nI (j * 60 + i)) 360 ∧ (nI (j * 60 + i)).toNatClampNeg = j * 60 + i := by
  refine ⟨?_, vp_in_nI (by omega) (by decide), nI_clamp (by omega)⟩
  rw [show (60 : Int32) = nI 60 from rfl, pk_mul, nI_add, Nat.mul_comm]
theorem op_put (h : gOK G) (hB : B < 1000000) (hR : wRel B σ) (hm : σ 126 0 = 0) (a i v : Int32) : gOp G (d + 4) B mX9_put mX10_put [.int a, .int i, .int v] σ := by
  unfold gOp
  rcases pk_ix a (n := 6) (by decide) with h1 | h1 | ⟨j, hj, rfl⟩
  · simp only [EX9_put, BX9_put_4, BX9_put_16, BX9_put_31, BX9_put_43, EX10_put, BX10_put_5, BX10_put_31, EX9_isHolder, isH_eq h, Option.toList_some, Option.toList_none, List.cons_append, List.nil_append, Nat.zero_add, Nat.reduceAdd, Option.some.injEq, Value.int.injEq, exists_eq_left', true_and, and_true, true_or, or_true, false_or, g_10, ↓reduceIte, h.1, h.2, hNow h, hReg h, hGrd h, hBlk h, hTgo h, hWlk h, hPln h, hTap h, hHol h, h1]
    exact wRel_up hR (by omega)
  · obtain ⟨e1, e2, e3⟩ := g_ge (n := 5) (by decide) h1
    have e2 : ¬ a < 6 := e2
    simp only [EX9_put, BX9_put_4, BX9_put_16, BX9_put_31, BX9_put_43, EX10_put, BX10_put_5, BX10_put_31, EX9_isHolder, isH_eq h, Option.toList_some, Option.toList_none, List.cons_append, List.nil_append, Nat.zero_add, Nat.reduceAdd, Option.some.injEq, Value.int.injEq, exists_eq_left', true_and, and_true, true_or, or_true, false_or, g_10, ↓reduceIte, h.1, h.2, hNow h, hReg h, hGrd h, hBlk h, hTgo h, hWlk h, hPln h, hTap h, hHol h, e1, e2]
    exact wRel_up hR (by omega)
  · obtain ⟨e1, e2, e3, e4, e5⟩ := g_ix (n := 5) hj (by decide)
    have e2 : nI j < 6 := e2
    obtain ⟨q1, q2, q3, q4⟩ := hR.2.2.2 j hj
    by_cases c : σ 100 j = 2
    · obtain ⟨w1, w2, w3⟩ := q4 c
      obtain ⟨n, hn⟩ : ∃ n, n = gN (σ 102 j) := ⟨_, rfl⟩
      have en : σ 102 j = nI n := by rw [hn]; exact w2.1
      have hn2 : n ≤ 60 := by rw [hn]; exact w2.2
      rw [← hn] at w3
      by_cases c1 : i < 0
      · simp only [EX9_put, BX9_put_4, BX9_put_16, BX9_put_31, BX9_put_43, EX10_put, BX10_put_5, BX10_put_31, EX9_isHolder, EX2_hasItem, EX10_in, isH_eq h, Option.toList_some, Option.toList_none, List.cons_append, List.nil_append, Nat.zero_add, Nat.reduceAdd, Option.some.injEq, Value.int.injEq, exists_eq_left', true_and, and_true, true_or, or_true, false_or, g_10, ↓reduceIte, g_up_d, Nat.reduceEqDiff, h.1, h.2, hNow h, hReg h, hGrd h, hBlk h, hTgo h, hWlk h, hPln h, hTap h, hHol h, e1, e2, e4, e5, c, q1, c1]
        exact wRel_up hR (by omega)
      obtain ⟨k, hk31, rfl⟩ := nI_of c1
      by_cases c2 : k < n
      · obtain ⟨g1, g2, g3⟩ := itemF hj (show k < 60 by omega)
        have g4 : nI k < nI n := nI_lt c2 (by omega)
        have g5 : ¬ nI (n - 1) < nI k := nI_nlt (by omega) (by omega)
        have g6 : vp_in (nI k) 60 := vp_in_nI (by omega) (by decide)
        have g7 : (nI k).toNatClampNeg = k := nI_clamp hk31
        simp only [EX9_put, BX9_put_4, BX9_put_16, BX9_put_31, BX9_put_43, EX10_put, BX10_put_5, BX10_put_31, EX9_isHolder, EX2_hasItem, EX2_item, EX2_setItem, EX10_in, isH_eq h, Option.toList_some, Option.toList_none, List.cons_append, List.nil_append, Nat.zero_add, Nat.reduceAdd, Option.some.injEq, Value.int.injEq, exists_eq_left', true_and, and_true, true_or, or_true, false_or, g_10, ↓reduceIte, g_up_d, Nat.reduceEqDiff, h.1, h.2, hNow h, hReg h, hGrd h, hBlk h, hTgo h, hWlk h, hPln h, hTap h, hHol h, e1, e2, e4, e5, c, q1, c1, w1, en, g_pred (show 1 ≤ n by omega), g1, g2, g3, g4, g5, g6, g7, w3 k c2, show ¬ 119 + j = 103 by omega]
        refine wRel_th hR (by omega) ?_ (fun i h1 h2 => ?_) ?_ ?_ ?_ (wTape_c hR.2.2.1 hm ?_ ?_ ?_ ?_ ?_) (fun y hy => ?_)
        · rw [g_up_o (by omega), g_up_o (by decide)]
        · rw [g_up_o (by omega), g_up_o (by omega)]
        · rw [g_up_o (by omega), g_up_o (by decide)]
        · rw [g_up_o (by omega), g_up_o (by decide)]
        · rw [g_up_o (by omega), g_up_o (by decide)]
        · rw [g_up_o (by omega), g_up_o (by decide)]
        · rw [g_up_o (by omega), g_up_o (by decide)]
        · rw [g_up_o (by omega), g_up_o (by decide)]
        · rw [g_up_o (by omega), g_up_o (by decide)]
        · rw [g_up_o (by omega), g_up_o (by decide)]
        · obtain ⟨u1, u2, u3, u4⟩ := hR.2.2.2 y hy
          have fr : ∀ z, z ≠ 119 + j → z ≠ 103 → (g_up (g_up σ 103 (j * 60 + k) v) (119 + j) k v) z = σ z := fun z h1 h2 => by rw [g_up_o h1, g_up_o h2]
          rw [fr 115 (by omega) (by decide), fr 100 (by omega) (by decide), fr 116 (by omega) (by decide), fr 101 (by omega) (by decide), fr 117 (by omega) (by decide), fr 102 (by omega) (by decide)]
          refine ⟨u1, u2, u3, fun z => ?_⟩
          obtain ⟨s1, s2, s3⟩ := u4 z
          refine ⟨s1, s2, fun i2 hi2 => ?_⟩
          have := s2.2
          by_cases e : y = j
          · subst e
            by_cases ei : i2 = k
            · subst ei
              rw [g_up_3, g_up_1 (by omega), g_up_3]
            · rw [g_up_2 ei, g_up_1 (by omega), g_up_1 (by omega), g_up_2 (by omega)]
              exact s3 i2 hi2
          · rw [g_up_1 (by omega), g_up_1 (by omega), g_up_1 (by omega), g_up_2 (by omega)]
            exact s3 i2 hi2
      · have g4 : ¬ nI k < nI n := nI_nlt (by omega) hk31
        have g5 : nI n - 1 < nI k := by
          by_cases z : n = 0
          · subst z
            rw [Int32.lt_iff_toInt_lt, nI_toInt hk31, show (nI 0 - 1).toInt = -1 by decide]; omega
          · rw [g_pred (by omega)]; exact nI_lt (by omega) hk31
        simp only [EX9_put, BX9_put_4, BX9_put_16, BX9_put_31, BX9_put_43, EX10_put, BX10_put_5, BX10_put_31, EX9_isHolder, EX2_hasItem, EX10_in, isH_eq h, Option.toList_some, Option.toList_none, List.cons_append, List.nil_append, Nat.zero_add, Nat.reduceAdd, Option.some.injEq, Value.int.injEq, exists_eq_left', true_and, and_true, true_or, or_true, false_or, g_10, ↓reduceIte, g_up_d, Nat.reduceEqDiff, h.1, h.2, hNow h, hReg h, hGrd h, hBlk h, hTgo h, hWlk h, hPln h, hTap h, hHol h, e1, e2, e4, e5, c, q1, c1, w1, en, g4, g5]
        exact wRel_up hR (by omega)
    · simp only [EX9_put, BX9_put_4, BX9_put_16, BX9_put_31, BX9_put_43, EX10_put, BX10_put_5, BX10_put_31, EX9_isHolder, EX2_hasItem, EX10_in, isH_eq h, Option.toList_some, Option.toList_none, List.cons_append, List.nil_append, Nat.zero_add, Nat.reduceAdd, Option.some.injEq, Value.int.injEq, exists_eq_left', true_and, and_true, true_or, or_true, false_or, g_10, ↓reduceIte, g_up_d, Nat.reduceEqDiff, h.1, h.2, hNow h, hReg h, hGrd h, hBlk h, hTgo h, hWlk h, hPln h, hTap h, hHol h, e1, e2, e4, e5, c, q1]
      exact wRel_up hR (by omega)
end O21
