theorem g_ge {x : Int32} {n : Nat} (hn : n + 1 < 2 ^ 31) (h : nI (n + 1) ≤ x) : ¬ x < 0 ∧ ¬ x < nI (n + 1) ∧ nI n < x := by
  rw [Int32.le_iff_toInt_le, nI_toInt hn] at h
  rw [Int32.lt_iff_toInt_lt, Int32.lt_iff_toInt_lt, Int32.lt_iff_toInt_lt, nI_toInt hn, nI_toInt (by omega), Int32.toInt_zero]
  omega
theorem g_ix {j n : Nat} (hj : j < n + 1) (hn : n + 1 < 2 ^ 31) : ¬ nI j < 0 ∧ nI j < nI (n + 1) ∧ ¬ nI n < nI j ∧ (nI j).toNatClampNeg = j ∧ vp_in (nI j) (n + 1) := ⟨nI_pos (by omega), nI_lt hj hn, nI_nlt (by omega) (by omega), nI_clamp (by omega), vp_in_nI hj hn⟩
theorem g_m1 {j : Nat} (hj : j < 2 ^ 31) : ¬ nI j = -1 := by
  intro e
  have := congrArg Int32.toInt e
  rw [nI_toInt hj] at this
  have e2 : (-1 : Int32).toInt = -1 := by decide
  omega
theorem g_10 : ((1 : Int32) = 0) = False := by decide
theorem g_up_d {σ : gM} {a i b j : Nat} {v : Int32} : g_up σ a i v b j = if b = a then (if j = i then v else σ b j) else σ b j := by
  unfold g_up
  by_cases e : b = a <;> by_cases e2 : j = i <;> simp [e, e2]
theorem vp_c {n : Nat} (h : n < 607) : vp_in (nI n) 607 := vp_in_nI h (by decide)
theorem vp605 : vp_in 605 607 := vp_c (n := 605) (by decide)
theorem vp606 : vp_in 606 607 := vp_c (n := 606) (by decide)
theorem vp570 : vp_in 570 607 := vp_c (n := 570) (by decide)
theorem cl605 : (605 : Int32).toNatClampNeg = 605 := by decide
theorem cl606 : (606 : Int32).toNatClampNeg = 606 := by decide
theorem cl570 : (570 : Int32).toNatClampNeg = 570 := by decide
/-- one operation, in both: the same answer -/
def gOp (G : gG) (d B : Nat) (X Y : gY) (as : List Value) (σ : gM) : Prop := g_inv (gCm' G d) X (.ref 0 :: as) σ fun r1 σ1 => ∃ r, r1 = some (.int r) ∧ g_inv (gCm' G d) Y (.ref 104 :: as) σ1 fun r2 σ2 => r2 = some (.int r) ∧ wRel (B + 1) σ2
section WR
variable {B : Nat} {σ : gM}
theorem r605 (h : wRel B σ) : σ 105 605 = σ 1 0 := h.1.2.2.1
theorem r330 (h : wRel B σ) : ∀ i, i < 240 → σ 105 (330 + i) = σ 2 i := h.1.2.2.2.1
theorem r570 (h : wRel B σ) : σ 105 570 = σ 3 0 := h.1.2.2.2.2.1
theorem r571 (h : wRel B σ) : ∀ r, r < 6 → σ 105 (571 + r) = σ 4 r := fun r hr => (h.1.2.2.2.2.2.1 r hr).1
theorem r577 (h : wRel B σ) : ∀ r, r < 6 → σ 105 (577 + r) = σ 5 r := fun r hr => (h.1.2.2.2.2.2.1 r hr).2.1
theorem r583 (h : wRel B σ) : ∀ r, r < 6 → σ 105 (583 + r) = σ 6 r := fun r hr => (h.1.2.2.2.2.2.1 r hr).2.2
theorem rs0 (h : wRel B σ) : ∀ s, s < 30 → σ 105 (s * 11 + 0) = σ 11 s := fun s hs => (h.1.2.2.2.2.2.2.1 s hs).1
theorem rs1 (h : wRel B σ) : ∀ s, s < 30 → σ 105 (s * 11 + 1) = σ 10 s := fun s hs => (h.1.2.2.2.2.2.2.1 s hs).2.1
theorem rs2 (h : wRel B σ) : ∀ s, s < 30 → σ 105 (s * 11 + 2) = σ 12 s := fun s hs => (h.1.2.2.2.2.2.2.1 s hs).2.2.1
theorem rs3 (h : wRel B σ) : ∀ s, s < 30 → σ 105 (s * 11 + 3) = σ 13 s := fun s hs => (h.1.2.2.2.2.2.2.1 s hs).2.2.2.1
theorem rs4 (h : wRel B σ) : ∀ s, s < 30 → σ 105 (s * 11 + 4) = σ 14 s := fun s hs => (h.1.2.2.2.2.2.2.1 s hs).2.2.2.2.1
theorem rs5 (h : wRel B σ) : ∀ s, s < 30 → σ 105 (s * 11 + 5) = σ 15 s := fun s hs => (h.1.2.2.2.2.2.2.1 s hs).2.2.2.2.2.1
theorem rs6 (h : wRel B σ) : ∀ s, s < 30 → σ 105 (s * 11 + 6) = σ 16 s := fun s hs => (h.1.2.2.2.2.2.2.1 s hs).2.2.2.2.2.2.1
theorem rs7 (h : wRel B σ) : ∀ s, s < 30 → σ 105 (s * 11 + 7) = σ 17 s := fun s hs => (h.1.2.2.2.2.2.2.1 s hs).2.2.2.2.2.2.2.1
theorem rs9 (h : wRel B σ) : ∀ s, s < 30 → σ 105 (s * 11 + 9) = σ 18 s := fun s hs => (h.1.2.2.2.2.2.2.1 s hs).2.2.2.2.2.2.2.2
theorem r589 (h : wRel B σ) : ∀ r, r < 10 → σ 105 (589 + r) = σ 21 r := h.1.2.2.2.2.2.2.2.1
theorem r599 (h : wRel B σ) : ∀ r, r < 6 → σ 105 (599 + r) = σ 22 r := h.1.2.2.2.2.2.2.2.2
theorem rIn (h : wRel B σ) : ∀ r, r < 6 → σ 22 r = -1 ∨ gNn (σ 22 r) B := h.1.1.2.2.2.2.2
theorem rQu (h : wRel B σ) : ∀ r, r < 10 → gNn (σ 21 r) 240 := h.1.1.2.2.2.2.1
theorem rEp (h : wRel B σ) : gNn (σ 1 0) B := h.1.1.2.2.2.1
theorem rSl (h : wRel B σ) : ∀ s, s < 30 → wSlot B (gMem σ 1) s := h.1.1.2.1
theorem rLi (h : wRel B σ) : ∀ s, s < 30 → σ 11 s = 0 ∨ σ 11 s = 1 ∨ σ 11 s = 2 := fun s hs => (rSl h s hs).2.1
end WR
theorem gNn_neg {x : Int32} {b : Nat} (h : gNn x b) (hb : b < 2 ^ 31) : ¬ x < 0 := by rw [h.1]; exact nI_pos (by have := h.2; omega)
theorem op_enter {G : gG} {d B : Nat} {σ : gM} (h : gOK G) (hB : B < 1000000) (hR : wRel B σ) (a : Int32) : gOp G (d + 3) B mX9_enter mX10_enter [.int a] σ := by
  unfold gOp
  rcases pk_ix a (n := 6) (by decide) with h1 | h1 | ⟨j, hj, rfl⟩
  · simp only [EX9_enter, BX9_enter_4, BX9_enter_41, EX10_enter, BX10_enter_6, BX10_enter_45, EX9_isReader, EX10_in, Option.toList_some, Option.toList_none, List.cons_append, List.nil_append, Nat.zero_add, Nat.reduceAdd, Option.some.injEq, Value.int.injEq, exists_eq_left', true_and, and_true, g_10, ↓reduceIte, h.1, h.2, hNow h, hReg h, hGrd h, hBlk h, hTgo h, hWlk h, hPln h, hTap h, hHol h, h1]
    exact wRel_up hR (by omega)
  · obtain ⟨e1, e2, e3⟩ := g_ge (n := 5) (by decide) h1
    have e2 : ¬ a < 6 := e2
    have e3 : 5 < a := e3
    simp only [EX9_enter, BX9_enter_4, BX9_enter_41, EX10_enter, BX10_enter_6, BX10_enter_45, EX9_isReader, EX10_in, Option.toList_some, Option.toList_none, List.cons_append, List.nil_append, Nat.zero_add, Nat.reduceAdd, Option.some.injEq, Value.int.injEq, exists_eq_left', true_and, and_true, g_10, ↓reduceIte, h.1, h.2, hNow h, hReg h, hGrd h, hBlk h, hTgo h, hWlk h, hPln h, hTap h, hHol h, e1, e2, e3]
    exact wRel_up hR (by omega)
  · obtain ⟨e1, e2, e3, e4, e5⟩ := g_ix (n := 5) hj (by decide)
    have e2 : nI j < 6 := e2
    have e3 : ¬ 5 < nI j := e3
    have ea : (599 : Int32) + nI j = nI (599 + j) := nI_add 599 j
    have ec : vp_in (nI (599 + j)) 607 := vp_c (by omega)
    have ed : (nI (599 + j)).toNatClampNeg = 599 + j := nI_clamp (by omega)
    have hn : ¬ 605 = 599 + j := by omega
    by_cases c : σ 22 j = -1
    · simp only [EX9_enter, BX9_enter_4, BX9_enter_41, EX10_enter, BX10_enter_6, BX10_enter_45, EX9_isReader, EX10_in, Option.toList_some, Option.toList_none, List.cons_append, List.nil_append, Nat.zero_add, Nat.reduceAdd, Option.some.injEq, Value.int.injEq, exists_eq_left', true_and, and_true, g_10, ↓reduceIte, g_up_d, Nat.reduceEqDiff, h.1, h.2, hNow h, hReg h, hGrd h, hBlk h, hTgo h, hWlk h, hPln h, hTap h, hHol h, e1, e2, e3, e4, e5, ea, ec, ed, c, r599 hR _ hj, r605 hR, vp605, cl605, hn, show (-1 : Int32) < 0 by decide]
      refine wRel_now hR (by omega) ?_ (fun i hi h1 h2 => ?_)
      · rw [gMem_out (by decide), gMem_in (k := 21) (b := 1) (by decide), g_up_s, g_up_o (by decide)]
        exact wMem_up (wMem_in hR.1 hj (Or.inr (rEp hR))) (by omega)
      · rw [g_up_o (by omega), g_up_o (by omega)]
    · have c2 : ¬ σ 22 j < 0 := gNn_neg ((rIn hR j hj).resolve_left c) (by omega)
      simp only [EX9_enter, BX9_enter_4, BX9_enter_41, EX10_enter, BX10_enter_6, BX10_enter_45, EX9_isReader, EX10_in, Option.toList_some, Option.toList_none, List.cons_append, List.nil_append, Nat.zero_add, Nat.reduceAdd, Option.some.injEq, Value.int.injEq, exists_eq_left', true_and, and_true, g_10, ↓reduceIte, g_up_d, Nat.reduceEqDiff, h.1, h.2, hNow h, hReg h, hGrd h, hBlk h, hTgo h, hWlk h, hPln h, hTap h, hHol h, e1, e2, e3, e4, e5, ea, ec, ed, c, c2, r599 hR _ hj, r605 hR, vp605, cl605, hn]
      exact wRel_up hR (by omega)
