section H13
variable {G : gG} {d : Nat} {K : gK} {σ : gM}
theorem at_i {j w : Nat} (hj : j < 30) (hw : w < 11) : (nI j * 11 + nI w) = nI (j * 11 + w) ∧ vp_in (nI (j * 11 + w)) 607 ∧ (nI (j * 11 + w)).toNatClampNeg = j * 11 + w := by
  refine ⟨?_, vp_c (by omega), nI_clamp (by omega)⟩
  rw [show (11 : Int32) = nI 11 from rfl, pk_mul, nI_add]
theorem at_eq (h : gOK G) {j w : Nat} (hj : j < 30) (hw : w < 11) : g_inv (gCm' G (d + 1)) mX10_at [.ref 104, .int (nI j), .int (nI w)] σ K = K (some (.int (σ 105 (j * 11 + w)))) σ := by
  obtain ⟨e1, e2, e3⟩ := at_i hj hw
  rw [EX10_at h.2, e1, e3]
  exact g_and e2
theorem sets_eq (h : gOK G) {j w : Nat} {v : Int32} (hj : j < 30) (hw : w < 11) : g_inv (gCm' G (d + 1)) mX10_sets [.ref 104, .int (nI j), .int (nI w), .int v] σ K = K none (g_up σ 105 (j * 11 + w) v) := by
  obtain ⟨e1, e2, e3⟩ := at_i hj hw
  rw [EX10_sets h.2, e1, e3]
  exact g_and e2
theorem at_0 (h : gOK G) {j : Nat} (hj : j < 30) : g_inv (gCm' G (d + 1)) mX10_at [.ref 104, .int (nI j), .int 0] σ K = K (some (.int (σ 105 (j * 11 + 0)))) σ := at_eq h (w := 0) hj (by decide)
theorem sets_0 (h : gOK G) {j : Nat} {v : Int32} (hj : j < 30) : g_inv (gCm' G (d + 1)) mX10_sets [.ref 104, .int (nI j), .int 0, .int v] σ K = K none (g_up σ 105 (j * 11 + 0) v) := sets_eq h (w := 0) hj (by decide)
theorem at_1 (h : gOK G) {j : Nat} (hj : j < 30) : g_inv (gCm' G (d + 1)) mX10_at [.ref 104, .int (nI j), .int 1] σ K = K (some (.int (σ 105 (j * 11 + 1)))) σ := at_eq h (w := 1) hj (by decide)
theorem sets_1 (h : gOK G) {j : Nat} {v : Int32} (hj : j < 30) : g_inv (gCm' G (d + 1)) mX10_sets [.ref 104, .int (nI j), .int 1, .int v] σ K = K none (g_up σ 105 (j * 11 + 1) v) := sets_eq h (w := 1) hj (by decide)
theorem at_2 (h : gOK G) {j : Nat} (hj : j < 30) : g_inv (gCm' G (d + 1)) mX10_at [.ref 104, .int (nI j), .int 2] σ K = K (some (.int (σ 105 (j * 11 + 2)))) σ := at_eq h (w := 2) hj (by decide)
theorem sets_2 (h : gOK G) {j : Nat} {v : Int32} (hj : j < 30) : g_inv (gCm' G (d + 1)) mX10_sets [.ref 104, .int (nI j), .int 2, .int v] σ K = K none (g_up σ 105 (j * 11 + 2) v) := sets_eq h (w := 2) hj (by decide)
theorem at_3 (h : gOK G) {j : Nat} (hj : j < 30) : g_inv (gCm' G (d + 1)) mX10_at [.ref 104, .int (nI j), .int 3] σ K = K (some (.int (σ 105 (j * 11 + 3)))) σ := at_eq h (w := 3) hj (by decide)
theorem sets_3 (h : gOK G) {j : Nat} {v : Int32} (hj : j < 30) : g_inv (gCm' G (d + 1)) mX10_sets [.ref 104, .int (nI j), .int 3, .int v] σ K = K none (g_up σ 105 (j * 11 + 3) v) := sets_eq h (w := 3) hj (by decide)
theorem at_4 (h : gOK G) {j : Nat} (hj : j < 30) : g_inv (gCm' G (d + 1)) mX10_at [.ref 104, .int (nI j), .int 4] σ K = K (some (.int (σ 105 (j * 11 + 4)))) σ := at_eq h (w := 4) hj (by decide)
theorem sets_4 (h : gOK G) {j : Nat} {v : Int32} (hj : j < 30) : g_inv (gCm' G (d + 1)) mX10_sets [.ref 104, .int (nI j), .int 4, .int v] σ K = K none (g_up σ 105 (j * 11 + 4) v) := sets_eq h (w := 4) hj (by decide)
theorem at_5 (h : gOK G) {j : Nat} (hj : j < 30) : g_inv (gCm' G (d + 1)) mX10_at [.ref 104, .int (nI j), .int 5] σ K = K (some (.int (σ 105 (j * 11 + 5)))) σ := at_eq h (w := 5) hj (by decide)
theorem sets_5 (h : gOK G) {j : Nat} {v : Int32} (hj : j < 30) : g_inv (gCm' G (d + 1)) mX10_sets [.ref 104, .int (nI j), .int 5, .int v] σ K = K none (g_up σ 105 (j * 11 + 5) v) := sets_eq h (w := 5) hj (by decide)
theorem at_6 (h : gOK G) {j : Nat} (hj : j < 30) : g_inv (gCm' G (d + 1)) mX10_at [.ref 104, .int (nI j), .int 6] σ K = K (some (.int (σ 105 (j * 11 + 6)))) σ := at_eq h (w := 6) hj (by decide)
theorem sets_6 (h : gOK G) {j : Nat} {v : Int32} (hj : j < 30) : g_inv (gCm' G (d + 1)) mX10_sets [.ref 104, .int (nI j), .int 6, .int v] σ K = K none (g_up σ 105 (j * 11 + 6) v) := sets_eq h (w := 6) hj (by decide)
theorem at_7 (h : gOK G) {j : Nat} (hj : j < 30) : g_inv (gCm' G (d + 1)) mX10_at [.ref 104, .int (nI j), .int 7] σ K = K (some (.int (σ 105 (j * 11 + 7)))) σ := at_eq h (w := 7) hj (by decide)
theorem sets_7 (h : gOK G) {j : Nat} {v : Int32} (hj : j < 30) : g_inv (gCm' G (d + 1)) mX10_sets [.ref 104, .int (nI j), .int 7, .int v] σ K = K none (g_up σ 105 (j * 11 + 7) v) := sets_eq h (w := 7) hj (by decide)
theorem at_8 (h : gOK G) {j : Nat} (hj : j < 30) : g_inv (gCm' G (d + 1)) mX10_at [.ref 104, .int (nI j), .int 8] σ K = K (some (.int (σ 105 (j * 11 + 8)))) σ := at_eq h (w := 8) hj (by decide)
theorem sets_8 (h : gOK G) {j : Nat} {v : Int32} (hj : j < 30) : g_inv (gCm' G (d + 1)) mX10_sets [.ref 104, .int (nI j), .int 8, .int v] σ K = K none (g_up σ 105 (j * 11 + 8) v) := sets_eq h (w := 8) hj (by decide)
theorem at_9 (h : gOK G) {j : Nat} (hj : j < 30) : g_inv (gCm' G (d + 1)) mX10_at [.ref 104, .int (nI j), .int 9] σ K = K (some (.int (σ 105 (j * 11 + 9)))) σ := at_eq h (w := 9) hj (by decide)
theorem sets_9 (h : gOK G) {j : Nat} {v : Int32} (hj : j < 30) : g_inv (gCm' G (d + 1)) mX10_sets [.ref 104, .int (nI j), .int 9, .int v] σ K = K none (g_up σ 105 (j * 11 + 9) v) := sets_eq h (w := 9) hj (by decide)
theorem at_10 (h : gOK G) {j : Nat} (hj : j < 30) : g_inv (gCm' G (d + 1)) mX10_at [.ref 104, .int (nI j), .int 10] σ K = K (some (.int (σ 105 (j * 11 + 10)))) σ := at_eq h (w := 10) hj (by decide)
theorem sets_10 (h : gOK G) {j : Nat} {v : Int32} (hj : j < 30) : g_inv (gCm' G (d + 1)) mX10_sets [.ref 104, .int (nI j), .int 10, .int v] σ K = K none (g_up σ 105 (j * 11 + 10) v) := sets_eq h (w := 10) hj (by decide)
theorem live_eq (h : gOK G) {j : Nat} (hj : j < 30) : g_inv (gCm' G (d + 2)) mX10_isLive [.ref 104, .int (nI j)] σ K = if σ 105 (j * 11 + 0) = 1 then K (some (.int 1)) σ else K (some (.int 0)) σ := by
  simp only [EX10_isLive, BX10_isLive_6, Option.toList_some, Option.toList_none, List.cons_append, List.nil_append, Nat.zero_add, Nat.reduceAdd, Option.some.injEq, Value.int.injEq, exists_eq_left', true_and, and_true, g_10, ↓reduceIte, h.2, at_0 h hj]
theorem hof_eq (h : gOK G) {j : Nat} (hj : j < 30) : g_inv (gCm' G (d + 2)) mX10_handleOf [.ref 104, .int (nI j)] σ K = K (some (.int (100 * σ 105 (j * 11 + 1) + nI j))) σ := by
  simp only [EX10_handleOf, BX10_handleOf_8, Option.toList_some, Option.toList_none, List.cons_append, List.nil_append, Nat.zero_add, Nat.reduceAdd, Option.some.injEq, Value.int.injEq, exists_eq_left', true_and, and_true, g_10, ↓reduceIte, h.2, at_1 h hj]
theorem hof9_eq (h : gOK G) {j : Nat} (hj : j < 30) : g_inv (gCm' G (d + 1)) mX0_handleOf [.ref 9, .int (nI j)] σ K = K (some (.int (100 * σ 10 j + nI j))) σ := by
  obtain ⟨e1, e2, e3, e4, e5⟩ := g_ix (n := 29) hj (by decide)
  simp only [EX0_handleOf, Option.toList_some, Option.toList_none, List.cons_append, List.nil_append, Nat.zero_add, Nat.reduceAdd, Option.some.injEq, Value.int.injEq, exists_eq_left', true_and, and_true, g_10, ↓reduceIte, hBlk h, e4, e5]
/-- the slot that a handle names, if it is good -/
def gGood (σ : gM) (x : Int32) (s : Nat) : Prop := s < 30 ∧ σ 11 s = 1 ∧ ∃ n, n < 2 ^ 31 ∧ x = nI n ∧ n % 100 = s ∧ σ 10 s = nI (n / 100)
theorem g_dm {n : Nat} (hn : n < 2 ^ 31) : nI n / 100 = nI (n / 100) ∧ nI n - nI (n / 100) * 100 = nI (n % 100) := by
  have e := pk_div (d := 100) hn (by decide) (by decide)
  have e2 := pk_rem (d := 100) hn (by decide) (by decide)
  rw [e] at e2
  exact ⟨e, e2⟩
theorem good_y (h : gOK G) {B : Nat} {x : Int32} {s : Nat} (hg : gGood σ x s) : (∀ d K, g_inv (gCm' G (d + 2)) mX0_liveSlotOf [.ref 9, .int x] σ K = K (some (.int (nI s))) σ) ∧ ∀ d K σ', (σ' 105 (s * 11 + 0) = σ 11 s) → (σ' 105 (s * 11 + 1) = σ 10 s) → g_inv (gCm' G (d + 3)) mX10_good [.ref 104, .int x] σ' K = K (some (.int (nI s))) σ' := by
  obtain ⟨hs, hl, n, hn, rfl, rfl, hgn⟩ := hg
  obtain ⟨e1, e2, e3, e4, e5⟩ := g_ix (n := 29) hs (by decide)
  have e2 : nI (n % 100) < 30 := e2
  have e0 : ¬ nI n < 0 := nI_pos hn
  have em := g_m1 (j := n % 100) (by omega)
  constructor
  · intro d K
    simp only [EX0_liveSlotOf, BX0_liveSlotOf_5, EX0_slotOf, Option.toList_some, Option.toList_none, List.cons_append, List.nil_append, Nat.zero_add, Nat.reduceAdd, Option.some.injEq, Value.int.injEq, exists_eq_left', true_and, and_true, g_10, ↓reduceIte, hBlk h, g_dm hn, e0, e1, e2, e4, e5, hl, hgn, em]
  · intro d K σ' q1 q2
    simp only [EX10_good, BX10_good_13, BX10_good_25, BX10_good_34, Option.toList_some, Option.toList_none, List.cons_append, List.nil_append, Nat.zero_add, Nat.reduceAdd, Option.some.injEq, Value.int.injEq, exists_eq_left', true_and, and_true, g_10, ↓reduceIte, h.2, g_dm hn, e0, e1, e2, e4, e5, live_eq h hs, at_1 h hs, q1, q2, hl, hgn]
theorem good_n (h : gOK G) {B : Nat} {x : Int32} (hg : ∀ s, ¬ gGood σ x s) : (∀ d K, g_inv (gCm' G (d + 2)) mX0_liveSlotOf [.ref 9, .int x] σ K = K (some (.int (-1))) σ) ∧ ∀ d K σ', (∀ s, s < 30 → σ' 105 (s * 11 + 0) = σ 11 s) → (∀ s, s < 30 → σ' 105 (s * 11 + 1) = σ 10 s) → g_inv (gCm' G (d + 3)) mX10_good [.ref 104, .int x] σ' K = K (some (.int (-2))) σ' := by
  by_cases e0 : x < 0
  · constructor
    · intro d K
      simp only [EX0_liveSlotOf, BX0_liveSlotOf_5, EX0_slotOf, Option.toList_some, Option.toList_none, List.cons_append, List.nil_append, Nat.zero_add, Nat.reduceAdd, Option.some.injEq, Value.int.injEq, exists_eq_left', true_and, and_true, g_10, ↓reduceIte, hBlk h, e0]
    · intro d K σ' q1 q2
      simp only [EX10_good, BX10_good_13, BX10_good_25, BX10_good_34, Option.toList_some, Option.toList_none, List.cons_append, List.nil_append, Nat.zero_add, Nat.reduceAdd, Option.some.injEq, Value.int.injEq, exists_eq_left', true_and, and_true, g_10, ↓reduceIte, h.2, e0, show ¬ (30 : Int32) < 30 by decide]
  · obtain ⟨n, hn, rfl⟩ := nI_of e0
    by_cases hs : n % 100 < 30
    · obtain ⟨e1, e2, e3, e4, e5⟩ := g_ix (n := 29) hs (by decide)
      have e2 : nI (n % 100) < 30 := e2
      have em := g_m1 (j := n % 100) (by omega)
      by_cases hl : σ 11 (n % 100) = 1
      · have hgn : ¬ σ 10 (n % 100) = nI (n / 100) := fun q => hg _ ⟨hs, hl, n, hn, rfl, rfl, q⟩
        constructor
        · intro d K
          simp only [EX0_liveSlotOf, BX0_liveSlotOf_5, EX0_slotOf, Option.toList_some, Option.toList_none, List.cons_append, List.nil_append, Nat.zero_add, Nat.reduceAdd, Option.some.injEq, Value.int.injEq, exists_eq_left', true_and, and_true, g_10, ↓reduceIte, hBlk h, g_dm hn, e0, e1, e2, e4, e5, hl, hgn, em]
        · intro d K σ' q1 q2
          simp only [EX10_good, BX10_good_13, BX10_good_25, BX10_good_34, Option.toList_some, Option.toList_none, List.cons_append, List.nil_append, Nat.zero_add, Nat.reduceAdd, Option.some.injEq, Value.int.injEq, exists_eq_left', true_and, and_true, g_10, ↓reduceIte, h.2, g_dm hn, e0, e1, e2, e4, e5, live_eq h hs, at_1 h hs, q1 _ hs, q2 _ hs, hl, hgn]
      · constructor
        · intro d K
          by_cases h0 : σ 11 (n % 100) = 0
          · simp only [EX0_liveSlotOf, BX0_liveSlotOf_5, EX0_slotOf, Option.toList_some, Option.toList_none, List.cons_append, List.nil_append, Nat.zero_add, Nat.reduceAdd, Option.some.injEq, Value.int.injEq, exists_eq_left', true_and, and_true, g_10, ↓reduceIte, hBlk h, g_dm hn, e0, e1, e2, e4, e5, h0]
          · by_cases hgn : σ 10 (n % 100) = nI (n / 100)
            · simp only [EX0_liveSlotOf, BX0_liveSlotOf_5, EX0_slotOf, Option.toList_some, Option.toList_none, List.cons_append, List.nil_append, Nat.zero_add, Nat.reduceAdd, Option.some.injEq, Value.int.injEq, exists_eq_left', true_and, and_true, g_10, ↓reduceIte, hBlk h, g_dm hn, e0, e1, e2, e4, e5, hl, h0, hgn, em]
            · simp only [EX0_liveSlotOf, BX0_liveSlotOf_5, EX0_slotOf, Option.toList_some, Option.toList_none, List.cons_append, List.nil_append, Nat.zero_add, Nat.reduceAdd, Option.some.injEq, Value.int.injEq, exists_eq_left', true_and, and_true, g_10, ↓reduceIte, hBlk h, g_dm hn, e0, e1, e2, e4, e5, hl, h0, hgn, em]
        · intro d K σ' q1 q2
          simp only [EX10_good, BX10_good_13, BX10_good_25, BX10_good_34, Option.toList_some, Option.toList_none, List.cons_append, List.nil_append, Nat.zero_add, Nat.reduceAdd, Option.some.injEq, Value.int.injEq, exists_eq_left', true_and, and_true, g_10, ↓reduceIte, h.2, g_dm hn, e0, e1, e2, e4, e5, live_eq h hs, q1 _ hs, hl]
    · have e2 : ¬ nI (n % 100) < 30 := nI_nlt (b := 30) (by omega) (by omega)
      constructor
      · intro d K
        simp only [EX0_liveSlotOf, BX0_liveSlotOf_5, EX0_slotOf, Option.toList_some, Option.toList_none, List.cons_append, List.nil_append, Nat.zero_add, Nat.reduceAdd, Option.some.injEq, Value.int.injEq, exists_eq_left', true_and, and_true, g_10, ↓reduceIte, hBlk h, g_dm hn, e0, e2]
      · intro d K σ' q1 q2
        simp only [EX10_good, BX10_good_13, BX10_good_25, BX10_good_34, Option.toList_some, Option.toList_none, List.cons_append, List.nil_append, Nat.zero_add, Nat.reduceAdd, Option.some.injEq, Value.int.injEq, exists_eq_left', true_and, and_true, g_10, ↓reduceIte, h.2, g_dm hn, e0, e2]
end H13
