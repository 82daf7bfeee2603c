section O24
variable {G : gG} {d B : Nat} {σ : gM} {K : gK}
theorem op_row (h : gOK G) (hB : B < 1000000) (hR : wRel B σ) (hm0 : σ 126 0 = 0) (a n : Int32) : gOp G (d + 4) B mX9_row mX10_row [.int a, .int n] σ := by
  unfold gOp
  rcases pk_ix a (n := 6) (by decide) with h1 | h1 | ⟨j, hj, rfl⟩
  · simp only [EX9_row, BX9_row_4, BX9_row_31, EX10_row, BX10_row_5, BX10_row_30, EX9_isHolder, isH_eq h, Option.toList_some, Option.toList_none, List.cons_append, List.nil_append, Nat.zero_add, Nat.reduceAdd, Option.some.injEq, Value.int.injEq, exists_eq_left', true_and, and_true, true_or, or_true, false_or, g_10, ↓reduceIte, h.1, h.2, hNow h, hReg h, hGrd h, hBlk h, hTgo h, hWlk h, hPln h, hTap h, hHol h, h1]
    exact wRel_up hR (by omega)
  · obtain ⟨e1, e2, e3⟩ := g_ge (n := 5) (by decide) h1
    have e2 : ¬ a < 6 := e2
    simp only [EX9_row, BX9_row_4, BX9_row_31, EX10_row, BX10_row_5, BX10_row_30, EX9_isHolder, isH_eq h, Option.toList_some, Option.toList_none, List.cons_append, List.nil_append, Nat.zero_add, Nat.reduceAdd, Option.some.injEq, Value.int.injEq, exists_eq_left', true_and, and_true, true_or, or_true, false_or, g_10, ↓reduceIte, h.1, h.2, hNow h, hReg h, hGrd h, hBlk h, hTgo h, hWlk h, hPln h, hTap h, hHol h, e1, e2]
    exact wRel_up hR (by omega)
  · obtain ⟨e1, e2, e3, e4, e5⟩ := g_ix (n := 5) hj (by decide)
    have e2 : nI j < 6 := e2
    by_cases c1 : 60 < n
    · simp only [EX9_row, BX9_row_4, BX9_row_31, EX10_row, BX10_row_5, BX10_row_30, EX9_isHolder, isH_eq h, Option.toList_some, Option.toList_none, List.cons_append, List.nil_append, Nat.zero_add, Nat.reduceAdd, Option.some.injEq, Value.int.injEq, exists_eq_left', true_and, and_true, true_or, or_true, false_or, g_10, ↓reduceIte, h.1, h.2, hNow h, hReg h, hGrd h, hBlk h, hTgo h, hWlk h, hPln h, hTap h, hHol h, e1, e2, c1]
      exact wRel_up hR (by omega)
    by_cases c0 : n < 0
    · simp only [EX9_row, BX9_row_4, BX9_row_31, EX10_row, BX10_row_5, BX10_row_30, EX9_isHolder, isH_eq h, Option.toList_some, Option.toList_none, List.cons_append, List.nil_append, Nat.zero_add, Nat.reduceAdd, Option.some.injEq, Value.int.injEq, exists_eq_left', true_and, and_true, true_or, or_true, false_or, g_10, ↓reduceIte, h.1, h.2, hNow h, hReg h, hGrd h, hBlk h, hTgo h, hWlk h, hPln h, hTap h, hHol h, e1, e2, c1, c0]
      exact wRel_up hR (by omega)
    obtain ⟨k, -, hk, rfl⟩ := g_rng (a := 0) (b := 60) (by decide) (by decide) c0 c1
    have e6 : (60 : Int32) * nI j = nI (60 * j) := pk_mul 60 j
    have hf : ∀ (z : gM) (K : gK), g_inv (gCm' G (d + 2)) mX9_fill [.ref 103, .int (nI (60 * j)), .int (nI k), .int 0] z K = K none (g_fl z 103 (60 * j) k 0) := fun z K => fill_eq (aX2_3 (hHol h)) (nX2_3 (hHol h)) (by decide) (by omega)
    have hm : ∀ (z : gM) (K : gK), gw (gCm' G (d + 3)) G mX10_row K 39 [.ref 104, .int (nI j), .int (nI k), .int 0] [] z = K (some (.int 1)) (g_fl z (119 + j) 0 60 0) := fun z K => by
      have key := g_for (W := fun i (y : gM) => gw (gCm' G (d + 3)) G mX10_row K 39 [.ref 104, .int (nI j), .int (nI k), .int (nI i)] [] y) (R := fun y => K (some (.int 1)) y) (F := fun i y => g_up y (119 + j) i 0) (L := 60) (fun i hi y => ?_) (fun y => ?_) z
      · refine Eq.trans key ?_
        congr 1
        have : ∀ q, gFold (fun i (y : gM) => g_up y (119 + j) i 0) q z = g_fl z (119 + j) 0 q 0 := by
          intro q
          induction q with
          | zero => funext b i; simp [gFold, g_fl]
          | succ q ih =>
            show g_up (gFold _ q z) (119 + j) q 0 = _
            rw [ih]
            funext b i
            unfold g_up g_fl
            by_cases e : b = 119 + j
            · by_cases e2 : i = q
              · simp [e, e2]
              · have : i < q ↔ i < q + 1 := by omega
                simp [e, e2, this]
            · simp [e]
        exact this 60
      · rw [BX10_row_39 h.2]
        have g2 : nI i < 60 := nI_lt (b := 60) hi (by decide)
        have g3 : vp_in (nI i) 60 := vp_in_nI hi (by decide)
        have g4 : (nI i).toNatClampNeg = i := nI_clamp (by omega)
        simp only [g2, g3, g4, e4, e5, Option.toList_some, Option.toList_none, List.cons_append, List.nil_append, Nat.zero_add, Nat.reduceAdd, Option.some.injEq, Value.int.injEq, exists_eq_left', true_and, and_true, true_or, or_true, false_or, g_10, ↓reduceIte, nI_1]
      · rw [BX10_row_39 h.2]
        simp only [show ¬ nI 60 < 60 by decide, Option.toList_some, Option.toList_none, List.cons_append, List.nil_append, Nat.zero_add, Nat.reduceAdd, Option.some.injEq, Value.int.injEq, exists_eq_left', true_and, and_true, true_or, or_true, false_or, g_10, ↓reduceIte]
    simp only [EX9_row, BX9_row_4, BX9_row_31, BX10_row_5, BX10_row_30, EX9_isHolder, EX2_takeRow, BX2_takeRow_7, BX2_takeRow_14, BX2_takeRow_27, EX10_row, isH_eq h, Option.toList_some, Option.toList_none, List.cons_append, List.nil_append, Nat.zero_add, Nat.reduceAdd, Option.some.injEq, Value.int.injEq, exists_eq_left', true_and, and_true, true_or, or_true, false_or, g_10, ↓reduceIte, h.1, h.2, hNow h, hReg h, hGrd h, hBlk h, hTgo h, hWlk h, hPln h, hTap h, hHol h, e1, e2, e4, e5, c1, c0, e6, hf, hm]
    have fr : ∀ i, i ≠ 100 → i ≠ 102 → i ≠ 103 → i ≠ 115 → i ≠ 117 → i ≠ 119 + j → (g_fl (g_up (g_up (g_fl (g_up (g_up σ 100 j 2) 102 j (nI k)) 103 (60 * j) k 0) 115 j 2) 117 j (nI k)) (119 + j) 0 60 0) i = σ i := fun i h1 h2 h3 h4 h5 h6 => by
      rw [g_fl_o h6, g_up_o h5, g_up_o h4, g_fl_o h3, g_up_o h2, g_up_o h1]
    refine wRel_th hR (by omega) (fr _ (by decide) (by decide) (by decide) (by decide) (by decide) (by omega)) (fun i h1 h2 => fr _ (by omega) (by omega) (by omega) (by omega) (by omega) (by omega)) (fr _ (by decide) (by decide) (by decide) (by decide) (by decide) (by omega)) (fr _ (by decide) (by decide) (by decide) (by decide) (by decide) (by omega)) (by rw [fr _ (by decide) (by decide) (by decide) (by decide) (by decide) (by omega)]) (wTape_c hR.2.2.1 hm0 (fr _ (by decide) (by decide) (by decide) (by decide) (by decide) (by omega)) (by rw [fr _ (by decide) (by decide) (by decide) (by decide) (by decide) (by omega)]) (by rw [fr _ (by decide) (by decide) (by decide) (by decide) (by decide) (by omega)]) (fr _ (by decide) (by decide) (by decide) (by decide) (by decide) (by omega)) (fr _ (by decide) (by decide) (by decide) (by decide) (by decide) (by omega))) (fun y hy => ?_)
    obtain ⟨u1, u2, u3, u4⟩ := hR.2.2.2 y hy
    have l115 : (g_fl (g_up (g_up (g_fl (g_up (g_up σ 100 j 2) 102 j (nI k)) 103 (60 * j) k 0) 115 j 2) 117 j (nI k)) (119 + j) 0 60 0) 115 y = if y = j then 2 else σ 115 y := by
      rw [g_fl_o (by omega), g_up_o (by decide), g_up_d, if_pos rfl, g_fl_o (by decide), g_up_o (by decide), g_up_o (by decide)]
    have l100 : (g_fl (g_up (g_up (g_fl (g_up (g_up σ 100 j 2) 102 j (nI k)) 103 (60 * j) k 0) 115 j 2) 117 j (nI k)) (119 + j) 0 60 0) 100 y = if y = j then 2 else σ 100 y := by
      rw [g_fl_o (by omega), g_up_o (by decide), g_up_o (by decide), g_fl_o (by decide), g_up_o (by decide), g_up_d, if_pos rfl]
    have l117 : (g_fl (g_up (g_up (g_fl (g_up (g_up σ 100 j 2) 102 j (nI k)) 103 (60 * j) k 0) 115 j 2) 117 j (nI k)) (119 + j) 0 60 0) 117 y = if y = j then nI k else σ 117 y := by
      rw [g_fl_o (by omega), g_up_d, if_pos rfl, g_up_o (by decide), g_fl_o (by decide), g_up_o (by decide), g_up_o (by decide)]
    have l102 : (g_fl (g_up (g_up (g_fl (g_up (g_up σ 100 j 2) 102 j (nI k)) 103 (60 * j) k 0) 115 j 2) 117 j (nI k)) (119 + j) 0 60 0) 102 y = if y = j then nI k else σ 102 y := by
      rw [g_fl_o (by omega), g_up_o (by decide), g_up_o (by decide), g_fl_o (by decide), g_up_d, if_pos rfl, g_up_o (by decide)]
    rw [l115, l100, l117, l102, fr 116 (by decide) (by decide) (by decide) (by decide) (by decide) (by omega), fr 101 (by decide) (by decide) (by decide) (by decide) (by decide) (by omega)]
    by_cases e : y = j
    · subst e
      simp only [↓reduceIte]
      refine ⟨trivial, Or.inr (Or.inr trivial), fun z => absurd z (by decide), fun _ => ⟨trivial, gNn_nI hk (by decide), fun i hi => ?_⟩⟩
      rw [gN_nI (by omega)] at hi
      have a1 : (g_fl (g_up (g_up (g_fl (g_up (g_up σ 100 y 2) 102 y (nI k)) 103 (60 * y) k 0) 115 y 2) 117 y (nI k)) (119 + y) 0 60 0) (119 + y) i = 0 := by
        unfold g_fl; rw [if_pos ⟨rfl, by omega, by omega⟩]
      have a2 : (g_fl (g_up (g_up (g_fl (g_up (g_up σ 100 y 2) 102 y (nI k)) 103 (60 * y) k 0) 115 y 2) 117 y (nI k)) (119 + y) 0 60 0) 103 (y * 60 + i) = 0 := by
        rw [g_fl_o (by omega), g_up_o (by decide), g_up_o (by decide)]
        unfold g_fl; rw [if_pos ⟨rfl, by omega, by omega⟩]
      rw [a1, a2]
    · simp only [e, ↓reduceIte]
      refine ⟨u1, u2, u3, fun z => ?_⟩
      obtain ⟨v1, v2, v3⟩ := u4 z
      refine ⟨v1, v2, fun i hi => ?_⟩
      have := v2.2
      have a1 : (g_fl (g_up (g_up (g_fl (g_up (g_up σ 100 j 2) 102 j (nI k)) 103 (60 * j) k 0) 115 j 2) 117 j (nI k)) (119 + j) 0 60 0) (119 + y) i = σ (119 + y) i := by
        rw [fr _ (by omega) (by omega) (by omega) (by omega) (by omega) (by omega)]
      have a2 : (g_fl (g_up (g_up (g_fl (g_up (g_up σ 100 j 2) 102 j (nI k)) 103 (60 * j) k 0) 115 j 2) 117 j (nI k)) (119 + j) 0 60 0) 103 (y * 60 + i) = σ 103 (y * 60 + i) := by
        rw [g_fl_o (by omega), g_up_o (by decide), g_up_o (by decide)]
        unfold g_fl
        rw [if_neg (by omega), g_up_o (by decide), g_up_o (by decide)]
      rw [a1, a2]; exact v3 i hi
/-- where the next region begins -/
def gEnd (σ : gM) (k : Nat) : Nat := if k = 0 then 0 else gN (σ 4 (k - 1)) + gN (σ 5 (k - 1))
theorem gEnd_le (hR : wRel B σ) {k : Nat} (hk : k ≤ gN (σ 3 0)) : gEnd σ k ≤ 240 := by
  unfold gEnd
  split
  · omega
  · have w : gN (σ 4 (k - 1)) + gN (σ 5 (k - 1)) ≤ 240 := (hR.1.1.1.2 (k - 1) (show k - 1 < gN (σ 3 0) by omega)).2.2.2.2.1
    exact w
theorem gEnd_s (hR : wRel B σ) {k : Nat} (hk : k < gN (σ 3 0)) : gN (σ 4 k) = gEnd σ k ∧ gEnd σ (k + 1) = gN (σ 4 k) + gN (σ 5 k) ∧ gEnd σ k < gEnd σ (k + 1) := by
  obtain ⟨q1, q2, q3, q4, q5, q6, q7⟩ := hR.1.1.1.2 k hk
  have q3 : 8 ≤ gN (σ 5 k) := q3
  have hh : gN (σ 4 k) = gEnd σ k := by
    unfold gEnd
    split
    · next e => exact q6 e
    · next e =>
      have w : k - 1 + 1 < gN (σ 3 0) → gN (σ 4 (k - 1 + 1)) = gN (σ 4 (k - 1)) + gN (σ 5 (k - 1)) := (hR.1.1.1.2 (k - 1) (show k - 1 < gN (σ 3 0) by omega)).2.2.2.2.2.2
      rw [show k - 1 + 1 = k by omega] at w
      exact w hk
  have h2 : gEnd σ (k + 1) = gN (σ 4 k) + gN (σ 5 k) := by
    unfold gEnd
    rw [if_neg (by omega)]
    rfl
  exact ⟨hh, h2, by omega⟩
theorem rReg (hR : wRel B σ) {r : Nat} (hr : r < gN (σ 3 0)) : r < 6 ∧ ∃ l q : Nat, σ 4 r = nI l ∧ σ 5 r = nI q ∧ gN (σ 4 r) = l ∧ gN (σ 5 r) = q ∧ 8 ≤ q ∧ q ≤ 120 ∧ l + q ≤ 240 ∧ (σ 6 r = 0 ∨ σ 6 r = 1) := by
  obtain ⟨q1, q2, q3, q4, q5, q6, q7⟩ := hR.1.1.1.2 r hr
  have n6 : gN (σ 3 0) ≤ 6 := hR.1.1.1.1.2
  exact ⟨by omega, _, _, q1.1, q2.1, rfl, rfl, q3, q2.2, q5, q4⟩
theorem end_eq (h : gOK G) (hR : wRel B σ) : g_inv (gCm' G (d + 2)) mX5_end [.ref 3] σ K = K (some (.int (nI (gEnd σ (gN (σ 3 0)))))) σ := by
  obtain ⟨n, hn⟩ : ∃ n, n = gN (σ 3 0) := ⟨_, rfl⟩
  have en : σ 3 0 = nI n := by rw [hn]; exact hR.1.1.1.1.1
  have n6 : n ≤ 6 := by rw [hn]; exact hR.1.1.1.1.2
  rw [← hn]
  by_cases c : n = 0
  · subst c
    simp +decide only [EX5_end, BX5_end_10, BX5_end_23, EX5_has, Option.toList_some, Option.toList_none, List.cons_append, List.nil_append, Nat.zero_add, Nat.reduceAdd, Option.some.injEq, Value.int.injEq, exists_eq_left', true_and, and_true, true_or, or_true, false_or, g_10, ↓reduceIte, h.1, h.2, hNow h, hReg h, hGrd h, hBlk h, hTgo h, hWlk h, hPln h, hTap h, hHol h, en, gEnd]
    rfl
  · obtain ⟨h6, l, q, a1, a2, a3, a4, a5, a6, a7, a8⟩ := rReg hR (r := n - 1) (by omega)
    obtain ⟨e1, e2, e3, e4, e5⟩ := g_ix (n := 5) h6 (by decide)
    have e2 : nI (n - 1) < 6 := e2
    have e6 : nI (n - 1) < nI n := nI_lt (by omega) (by omega)
    have e7 : gEnd σ n = l + q := by unfold gEnd; rw [if_neg c, a3, a4]
    simp only [EX5_end, BX5_end_10, BX5_end_23, EX5_has, EX5_highOf, Option.toList_some, Option.toList_none, List.cons_append, List.nil_append, Nat.zero_add, Nat.reduceAdd, Option.some.injEq, Value.int.injEq, exists_eq_left', true_and, and_true, true_or, or_true, false_or, g_10, ↓reduceIte, h.1, h.2, hNow h, hReg h, hGrd h, hBlk h, hTgo h, hWlk h, hPln h, hTap h, hHol h, en, g_pred (show 1 ≤ n by omega), e1, e2, e4, e5, e6, e7, a1, a2, nI_add]
end O24
