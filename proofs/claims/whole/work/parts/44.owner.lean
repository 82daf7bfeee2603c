section O44
variable {G : gG} {d B : Nat} {σ : gM} {K : gK}
def lkA (c : Nat → Bool) (k : Int32) : Nat → Nat → Int32 → Int32
  | 0, _, m => if k = -1 then m else -2
  | r + 1, i, m => if c i = true then (if m = k then nI i else lkA c k r (i + 1) (m + 1)) else lkA c k r (i + 1) m
/-- which slots have leaked, and both know it -/
theorem both_lk (h : gOK G) (hB : B < 1000000) (hR : wRel B σ) : ∃ (c : Nat → Bool) (x : gM) (v : Int32), (∀ (d : Nat) (K : gK), g_inv (gCm' G (d + 4)) mX8_fromTagsAndPins [.ref 89, .ref 1] σ K = K none x) ∧ (∀ i, i ≠ 89 → i ≠ 90 → i ≠ 91 → x i = σ i) ∧ (∀ (d : Nat) (K : gK), g_inv (gCm' G (d + 5)) mX10_leakedOnes [.ref 104] x K = K (some (.int v)) x) ∧ (∀ s, s < 30 → ((v >>> (nI s &&& 31)) &&& 1 = 1 ↔ c s = true)) ∧ ∀ s, s < 30 → ∀ (d : Nat) (K : gK), g_inv (gCm' G (d + 1)) mX9_isLeaked [.ref 0, .int (nI s)] x K = K (some (.int (if c s = true then 1 else 0))) x := by
  obtain ⟨x, lab, ord, n, i1, i2, i3, i4⟩ := tagsPins_sp (G := G) h hB hR
  obtain ⟨v, j1, j2⟩ := leaked_sp (G := G) h hR (z := x) (i2.1 105 (by decide) (by decide) (by decide))
  refine ⟨bt v, x, v, i1, i2.1, j1, fun s hs => bt_t hs, fun s hs d K => ?_⟩
  obtain ⟨f1, f2, f3, f4, f5⟩ := g_ix (n := 29) hs (by decide)
  have e11 : x 11 s = σ 11 s := by rw [i2.1 11 (by decide) (by decide) (by decide)]
  have e90 := i2.2.2.1 s hs
  have hr := bF_rch i3 s
  by_cases c1 : σ 11 s = 1
  · cases hl : lab s with
    | none =>
      rw [hl] at e90
      have : bt v s = true := (j2 s hs).mpr ⟨c1, fun z => by have := hr.mpr z; exact this hl⟩
      have e90 : x 90 s = -1 := e90
      simp only [EX9_isLeaked, Option.toList_some, Option.toList_none, List.cons_append, List.nil_append, Nat.zero_add, Nat.reduceAdd, Option.some.injEq, Value.int.injEq, exists_eq_left', true_and, and_true, true_or, or_true, false_or, g_10, ↓reduceIte, h.1, h.2, hNow h, hReg h, hGrd h, hBlk h, hTgo h, hWlk h, hPln h, hTap h, hHol h, f4, f5, e11, c1, e90, this]
    | some n =>
      rw [hl] at e90
      have : bt v s = false := by
        cases e : bt v s with
        | false => rfl
        | true => exact absurd (hr.mp (by rw [hl]; simp)) ((j2 s hs).mp e).2
      have e90 : x 90 s = nI n := e90
      have nm := g_m1 (j := n) (by have := i4 s n hl; omega)
      simp +decide only [EX9_isLeaked, Option.toList_some, Option.toList_none, List.cons_append, List.nil_append, Nat.zero_add, Nat.reduceAdd, Option.some.injEq, Value.int.injEq, exists_eq_left', true_and, and_true, true_or, or_true, false_or, g_10, ↓reduceIte, h.1, h.2, hNow h, hReg h, hGrd h, hBlk h, hTgo h, hWlk h, hPln h, hTap h, hHol h, f4, f5, e11, c1, e90, nm, this]
  · have : bt v s = false := by
      cases e : bt v s with
      | false => rfl
      | true => exact absurd ((j2 s hs).mp e).1 c1
    simp +decide only [EX9_isLeaked, Option.toList_some, Option.toList_none, List.cons_append, List.nil_append, Nat.zero_add, Nat.reduceAdd, Option.some.injEq, Value.int.injEq, exists_eq_left', true_and, and_true, true_or, or_true, false_or, g_10, ↓reduceIte, h.1, h.2, hNow h, hReg h, hGrd h, hBlk h, hTgo h, hWlk h, hPln h, hTap h, hHol h, f4, f5, e11, c1, this]
theorem op_leaked (h : gOK G) (hB : B < 1000000) (hR : wRel B σ) (k : Int32) : gOp G (d + 6) B mX9_leaked mX10_leaked [.int k] σ := by
  unfold gOp
  by_cases ck : k < -1
  · simp only [EX9_leaked, BX9_leaked_18, BX9_leaked_33, EX10_leaked h.2, Option.toList_some, Option.toList_none, List.cons_append, List.nil_append, Nat.zero_add, Nat.reduceAdd, Option.some.injEq, Value.int.injEq, exists_eq_left', true_and, and_true, true_or, or_true, false_or, g_10, ↓reduceIte, h.1, h.2, hNow h, hReg h, hGrd h, hBlk h, hTgo h, hWlk h, hPln h, hTap h, hHol h, ck]
    exact wRel_up hR (by omega)
  obtain ⟨c, x, v, i1, i2, i3, i4, i5⟩ := both_lk (G := G) h hB hR
  have cl : ∀ (rem i : Nat) (m : Int32) (K : gK), i + rem = 30 → gw (gCm' G (d + 5)) G mX9_leaked K 22 [.ref 0, .int k, .int m, .int (nI i)] [] x = K (some (.int (lkA c k rem i m))) x := by
    intro rem
    induction rem with
    | zero =>
      intro i m K hi
      rw [show i = 30 by omega, BX9_leaked_22 h.1]
      unfold lkA
      simp only [show ¬ nI 30 < 30 by decide, Option.toList_some, Option.toList_none, List.cons_append, List.nil_append, Nat.zero_add, Nat.reduceAdd, Option.some.injEq, Value.int.injEq, exists_eq_left', true_and, and_true, true_or, or_true, false_or, g_10, ↓reduceIte]
      split <;> rfl
    | succ rem ih =>
      intro i m K hi
      have hi30 : i < 30 := by omega
      have g0 : nI i < 30 := nI_lt (b := 30) hi30 (by decide)
      rw [BX9_leaked_22 h.1]
      unfold lkA
      by_cases cc : c i = true
      · by_cases cm : m = k
        · simp +decide only [g0, i5 i hi30, BX9_leaked_33 h.1, cc, cm, Option.toList_some, Option.toList_none, List.cons_append, List.nil_append, Nat.zero_add, Nat.reduceAdd, Option.some.injEq, Value.int.injEq, exists_eq_left', true_and, and_true, true_or, or_true, false_or, g_10, ↓reduceIte]
        · simp +decide only [g0, i5 i hi30, BX9_leaked_33 h.1, cc, cm, Option.toList_some, Option.toList_none, List.cons_append, List.nil_append, Nat.zero_add, Nat.reduceAdd, Option.some.injEq, Value.int.injEq, exists_eq_left', true_and, and_true, true_or, or_true, false_or, g_10, ↓reduceIte, nI_1, ih (i + 1) _ _ (show i + 1 + rem = 30 by omega)]
      · simp +decide only [g0, i5 i hi30, BX9_leaked_33 h.1, cc, Option.toList_some, Option.toList_none, List.cons_append, List.nil_append, Nat.zero_add, Nat.reduceAdd, Option.some.injEq, Value.int.injEq, exists_eq_left', true_and, and_true, true_or, or_true, false_or, g_10, ↓reduceIte, nI_1, ih (i + 1) _ _ (show i + 1 + rem = 30 by omega)]
  have tl : ∀ (rem i : Nat) (m : Int32) (K : gK), i + rem = 30 → gw (gCm' G (d + 5)) G mX10_leaked K 17 [.ref 104, .int k, .int v, .int m, .int (nI i)] [] x = K (some (.int (lkA c k rem i m))) x := by
    intro rem
    induction rem with
    | zero =>
      intro i m K hi
      rw [show i = 30 by omega, BX10_leaked_17 h.2]
      unfold lkA
      simp only [show ¬ nI 30 < 30 by decide, Option.toList_some, Option.toList_none, List.cons_append, List.nil_append, Nat.zero_add, Nat.reduceAdd, Option.some.injEq, Value.int.injEq, exists_eq_left', true_and, and_true, true_or, or_true, false_or, g_10, ↓reduceIte]
      split <;> rfl
    | succ rem ih =>
      intro i m K hi
      have hi30 : i < 30 := by omega
      have g0 : nI i < 30 := nI_lt (b := 30) hi30 (by decide)
      rw [BX10_leaked_17 h.2]
      unfold lkA
      by_cases cc : c i = true
      · by_cases cm : m = k
        · simp +decide only [g0, (i4 i hi30).mpr cc, cc, cm, Option.toList_some, Option.toList_none, List.cons_append, List.nil_append, Nat.zero_add, Nat.reduceAdd, Option.some.injEq, Value.int.injEq, exists_eq_left', true_and, and_true, true_or, or_true, false_or, g_10, ↓reduceIte]
        · simp +decide only [g0, (i4 i hi30).mpr cc, cc, cm, Option.toList_some, Option.toList_none, List.cons_append, List.nil_append, Nat.zero_add, Nat.reduceAdd, Option.some.injEq, Value.int.injEq, exists_eq_left', true_and, and_true, true_or, or_true, false_or, g_10, ↓reduceIte, nI_1, ih (i + 1) _ _ (show i + 1 + rem = 30 by omega)]
      · have : ¬ ((v >>> (nI i &&& 31)) &&& 1 = 1) := fun e => cc ((i4 i hi30).mp e)
        simp +decide only [g0, this, cc, Option.toList_some, Option.toList_none, List.cons_append, List.nil_append, Nat.zero_add, Nat.reduceAdd, Option.some.injEq, Value.int.injEq, exists_eq_left', true_and, and_true, true_or, or_true, false_or, g_10, ↓reduceIte, nI_1, ih (i + 1) _ _ (show i + 1 + rem = 30 by omega)]
  have cl := fun K => cl 30 0 0 K (by omega)
  have tl := fun K => tl 30 0 0 K (by omega)
  have cl : ∀ K : gK, gw (gCm' G (d + 5)) G mX9_leaked K 22 [.ref 0, .int k, .int 0, .int 0] [] x = K (some (.int (lkA c k 30 0 0))) x := cl
  have tl : ∀ K : gK, gw (gCm' G (d + 5)) G mX10_leaked K 17 [.ref 104, .int k, .int v, .int 0, .int 0] [] x = K (some (.int (lkA c k 30 0 0))) x := tl
  simp only [EX9_leaked h.1, BX9_leaked_18 h.1, EX10_leaked h.2, BX10_leaked_11 h.2, Option.toList_some, Option.toList_none, List.cons_append, List.nil_append, Nat.zero_add, Nat.reduceAdd, Option.some.injEq, Value.int.injEq, exists_eq_left', true_and, and_true, true_or, or_true, false_or, g_10, ↓reduceIte, h.1, h.2, hNow h, hReg h, hGrd h, hBlk h, hTgo h, hWlk h, hPln h, hTap h, hHol h, ck, i1, i3, cl, tl]
  refine wRel_sc hR (by omega) (fun i h1 h2 => i2 i (by omega) (by omega) (by omega)) (i2 105 (by decide) (by decide) (by decide)) (fun i hi => ?_) ?_ ?_ ?_
  · unfold gRl at hi; exact i2 i (by omega) (by omega) (by omega)
  · rw [i2 95 (by decide) (by decide) (by decide)]
  · rw [i2 104 (by decide) (by decide) (by decide)]
  · rw [i2 104 (by decide) (by decide) (by decide)]
def gLvF (σ : gM) (o : Int32) (i : Nat) (acc : Int32) : Int32 := if σ 11 i = 1 then (if σ 15 i = o then acc + 1 else acc) else acc
theorem op_owner (h : gOK G) (hB : B < 1000000) (hR : wRel B σ) (o w : Int32) : gOp G (d + 7) B mX9_owner mX10_owner [.int o, .int w] σ := by
  unfold gOp
  rcases pk_ix o (n := 10) (by decide) with h1 | h1 | ⟨j, hj, rfl⟩
  · simp only [EX9_owner h.1, BX9_owner_4 h.1, EX10_owner h.2, BX10_owner_7 h.2, EX10_in, EX9_isOwner, Option.toList_some, Option.toList_none, List.cons_append, List.nil_append, Nat.zero_add, Nat.reduceAdd, Option.some.injEq, Value.int.injEq, exists_eq_left', true_and, and_true, true_or, or_true, false_or, g_10, ↓reduceIte, h.1, h.2, hNow h, hReg h, hGrd h, hBlk h, hTgo h, hWlk h, hPln h, hTap h, hHol h, h1]
    exact wRel_up hR (by omega)
  · obtain ⟨e1, e2, e3⟩ := g_ge (n := 9) (by decide) h1
    have e2 : ¬ o < 10 := e2
    have e3 : 9 < o := e3
    simp only [EX9_owner h.1, BX9_owner_4 h.1, EX10_owner h.2, BX10_owner_7 h.2, EX10_in, EX9_isOwner, Option.toList_some, Option.toList_none, List.cons_append, List.nil_append, Nat.zero_add, Nat.reduceAdd, Option.some.injEq, Value.int.injEq, exists_eq_left', true_and, and_true, true_or, or_true, false_or, g_10, ↓reduceIte, h.1, h.2, hNow h, hReg h, hGrd h, hBlk h, hTgo h, hWlk h, hPln h, hTap h, hHol h, e1, e2, e3]
    exact wRel_up hR (by omega)
  obtain ⟨e1, e2, e3, e4, e5⟩ := g_ix (n := 9) hj (by decide)
  have e2 : nI j < 10 := e2
  have e3 : ¬ 9 < nI j := e3
  have ea : (589 : Int32) + nI j = nI (589 + j) := nI_add 589 j
  have ec : vp_in (nI (589 + j)) 607 := vp_c (by omega)
  have ed : (nI (589 + j)).toNatClampNeg = 589 + j := nI_clamp (by omega)
  have bad : ¬ w = 0 → ¬ w = 1 → ¬ w = 2 → ¬ w = 3 → (w < 0 ∨ ¬ w < 0 ∧ 3 < w) → gOp G (d + 7) B mX9_owner mX10_owner [.int (nI j), .int w] σ := fun n0 n1 n2 n3 hw => by
    unfold gOp
    rcases hw with hw | ⟨hw, hw2⟩
    · simp only [EX9_owner h.1, BX9_owner_4 h.1, EX10_owner h.2, BX10_owner_7 h.2, BX10_owner_16 h.2, EX10_in, EX9_isOwner, Option.toList_some, Option.toList_none, List.cons_append, List.nil_append, Nat.zero_add, Nat.reduceAdd, Option.some.injEq, Value.int.injEq, exists_eq_left', true_and, and_true, true_or, or_true, false_or, g_10, ↓reduceIte, h.1, h.2, hNow h, hReg h, hGrd h, hBlk h, hTgo h, hWlk h, hPln h, hTap h, hHol h, e1, e2, e3, n0, n1, n2, n3, hw]
      exact wRel_up hR (by omega)
    · simp only [EX9_owner h.1, BX9_owner_4 h.1, EX10_owner h.2, BX10_owner_7 h.2, BX10_owner_16 h.2, EX10_in, EX9_isOwner, Option.toList_some, Option.toList_none, List.cons_append, List.nil_append, Nat.zero_add, Nat.reduceAdd, Option.some.injEq, Value.int.injEq, exists_eq_left', true_and, and_true, true_or, or_true, false_or, g_10, ↓reduceIte, h.1, h.2, hNow h, hReg h, hGrd h, hBlk h, hTgo h, hWlk h, hPln h, hTap h, hHol h, e1, e2, e3, n0, n1, n2, n3, hw, hw2]
      exact wRel_up hR (by omega)
  rcases pk_ix w (n := 4) (by decide) with w1 | w1 | ⟨k, hk, rfl⟩
  · exact bad (fun e => by subst e; exact absurd w1 (by decide)) (fun e => by subst e; exact absurd w1 (by decide)) (fun e => by subst e; exact absurd w1 (by decide)) (fun e => by subst e; exact absurd w1 (by decide)) (Or.inl w1)
  · obtain ⟨q1, q2, q3⟩ := g_ge (n := 3) (by decide) w1
    have q3 : 3 < w := q3
    exact bad (fun e => by subst e; exact absurd q3 (by decide)) (fun e => by subst e; exact absurd q3 (by decide)) (fun e => by subst e; exact absurd q3 (by decide)) (fun e => by subst e; exact absurd q3 (by decide)) (Or.inr ⟨q1, q3⟩)
  · rcases (by omega : k = 0 ∨ k = 1 ∨ k = 2 ∨ k = 3) with rfl | rfl | rfl | rfl
    · simp +decide only [EX9_owner h.1, BX9_owner_4 h.1, BX9_owner_51 h.1, EX10_owner h.2, BX10_owner_7 h.2, BX10_owner_16 h.2, BX10_owner_99 h.2, BX10_owner_125 h.2, EX10_in, EX9_isOwner, usedBy_eq h, used_eq h hR rfl, Option.toList_some, Option.toList_none, List.cons_append, List.nil_append, Nat.zero_add, Nat.reduceAdd, Option.some.injEq, Value.int.injEq, exists_eq_left', true_and, and_true, true_or, or_true, false_or, g_10, ↓reduceIte, h.1, h.2, hNow h, hReg h, hGrd h, hBlk h, hTgo h, hWlk h, hPln h, hTap h, hHol h, e1, e2, e3]
      exact wRel_up hR (by omega)
    · simp +decide only [EX9_owner h.1, BX9_owner_4 h.1, EX10_owner h.2, BX10_owner_7 h.2, BX10_owner_16 h.2, BX10_owner_125 h.2, EX10_in, EX9_isOwner, Option.toList_some, Option.toList_none, List.cons_append, List.nil_append, Nat.zero_add, Nat.reduceAdd, Option.some.injEq, Value.int.injEq, exists_eq_left', true_and, and_true, true_or, or_true, false_or, g_10, ↓reduceIte, h.1, h.2, hNow h, hReg h, hGrd h, hBlk h, hTgo h, hWlk h, hPln h, hTap h, hHol h, e1, e2, e3, e4, e5, ea, ec, ed, r589 hR _ hj]
      exact wRel_up hR (by omega)
    · obtain ⟨c, x, v, i1, i2, i3, i4, i5⟩ := both_lk (G := G) h hB hR
      have x5 : x 105 = σ 105 := i2 105 (by decide) (by decide) (by decide)
      have cl : ∀ K : gK, gw (gCm' G (d + 5)) G mX9_leakedCellsOf K 15 [.ref 0, .int (nI j), .int 0, .int (nI 0)] [] x = K (some (.int (gFold (fun i (acc : Int32) => if σ 15 i = nI j then (if c i = true then acc + σ 13 i else acc) else acc) 30 0))) x := fun K => by
        refine g_for (W := fun i acc => gw (gCm' G (d + 5)) G mX9_leakedCellsOf K 15 [.ref 0, .int (nI j), .int acc, .int (nI i)] [] x) (R := fun acc => K (some (.int acc)) x) (F := fun i (acc : Int32) => if σ 15 i = nI j then (if c i = true then acc + σ 13 i else acc) else acc) (L := 30) (fun i hi acc => ?_) (fun acc => ?_) 0
        · obtain ⟨f1, f2, f3, f4, f5⟩ := g_ix (n := 29) hi (by decide)
          have f2 : nI i < 30 := f2
          rw [BX9_leakedCellsOf_15 h.1]
          by_cases c1 : σ 15 i = nI j <;> by_cases c2 : c i = true <;>
            simp +decide only [f2, f4, f5, i2 15 (by decide) (by decide) (by decide), i2 13 (by decide) (by decide) (by decide), i5 i hi, BX9_leakedCellsOf_42 h.1, c1, c2, Option.toList_some, Option.toList_none, List.cons_append, List.nil_append, Nat.zero_add, Nat.reduceAdd, Option.some.injEq, Value.int.injEq, exists_eq_left', true_and, and_true, true_or, or_true, false_or, g_10, ↓reduceIte, nI_1]
        · rw [BX9_leakedCellsOf_15 h.1]
          simp only [show ¬ nI 30 < 30 by decide, Option.toList_some, Option.toList_none, List.cons_append, List.nil_append, Nat.zero_add, Nat.reduceAdd, Option.some.injEq, Value.int.injEq, exists_eq_left', true_and, and_true, true_or, or_true, false_or, g_10, ↓reduceIte]
      have tl : ∀ K : gK, gw (gCm' G (d + 6)) G mX10_owner K 37 [.ref 104, .int (nI j), .int (nI 2), .int v, .int 0, .int (nI 0)] [] x = K (some (.int (gFold (fun i (acc : Int32) => if σ 15 i = nI j then (if c i = true then acc + σ 13 i else acc) else acc) 30 0))) x := fun K => by
        refine g_for (W := fun i acc => gw (gCm' G (d + 6)) G mX10_owner K 37 [.ref 104, .int (nI j), .int (nI 2), .int v, .int acc, .int (nI i)] [] x) (R := fun acc => K (some (.int acc)) x) (F := fun i (acc : Int32) => if σ 15 i = nI j then (if c i = true then acc + σ 13 i else acc) else acc) (L := 30) (fun i hi acc => ?_) (fun acc => ?_) 0
        · obtain ⟨f1, f2, f3, f4, f5⟩ := g_ix (n := 29) hi (by decide)
          have f2 : nI i < 30 := f2
          rw [BX10_owner_37 h.2]
          by_cases c2 : c i = true
          · have := (i4 i hi).mpr c2
            by_cases c1 : σ 15 i = nI j <;>
              simp +decide only [f2, this, at_5 h hi, at_3 h hi, x5, rs5 hR _ hi, rs3 hR _ hi, BX10_owner_63 h.2, BX10_owner_74 h.2, c1, c2, Option.toList_some, Option.toList_none, List.cons_append, List.nil_append, Nat.zero_add, Nat.reduceAdd, Option.some.injEq, Value.int.injEq, exists_eq_left', true_and, and_true, true_or, or_true, false_or, g_10, ↓reduceIte, nI_1, Int32.add_zero]
          · have : ¬ ((v >>> (nI i &&& 31)) &&& 1 = 1) := fun e => c2 ((i4 i hi).mp e)
            simp +decide only [f2, this, c2, Option.toList_some, Option.toList_none, List.cons_append, List.nil_append, Nat.zero_add, Nat.reduceAdd, Option.some.injEq, Value.int.injEq, exists_eq_left', true_and, and_true, true_or, or_true, false_or, g_10, ↓reduceIte, nI_1, Int32.add_zero, ite_self]
        · rw [BX10_owner_37 h.2]
          simp only [show ¬ nI 30 < 30 by decide, Option.toList_some, Option.toList_none, List.cons_append, List.nil_append, Nat.zero_add, Nat.reduceAdd, Option.some.injEq, Value.int.injEq, exists_eq_left', true_and, and_true, true_or, or_true, false_or, g_10, ↓reduceIte]
      have cl : ∀ K : gK, gw (gCm' G (d + 5)) G mX9_leakedCellsOf K 15 [.ref 0, .int (nI j), .int 0, .int 0] [] x = K (some (.int (gFold (fun i (acc : Int32) => if σ 15 i = nI j then (if c i = true then acc + σ 13 i else acc) else acc) 30 0))) x := cl
      have tl : ∀ K : gK, gw (gCm' G (d + 6)) G mX10_owner K 37 [.ref 104, .int (nI j), .int (nI 2), .int v, .int 0, .int 0] [] x = K (some (.int (gFold (fun i (acc : Int32) => if σ 15 i = nI j then (if c i = true then acc + σ 13 i else acc) else acc) 30 0))) x := tl
      simp +decide only [EX9_owner h.1, BX9_owner_4 h.1, BX9_owner_67 h.1, EX9_leakedCellsOf h.1, BX9_leakedCellsOf_11 h.1, EX10_owner h.2, BX10_owner_7 h.2, BX10_owner_16 h.2, BX10_owner_30 h.2, EX10_in, EX9_isOwner, Option.toList_some, Option.toList_none, List.cons_append, List.nil_append, Nat.zero_add, Nat.reduceAdd, Option.some.injEq, Value.int.injEq, exists_eq_left', true_and, and_true, true_or, or_true, false_or, g_10, ↓reduceIte, h.1, h.2, hNow h, hReg h, hGrd h, hBlk h, hTgo h, hWlk h, hPln h, hTap h, hHol h, e1, e2, e3, i1, i3, cl, tl]
      refine wRel_sc hR (by omega) (fun i h1 h2 => i2 i (by omega) (by omega) (by omega)) (i2 105 (by decide) (by decide) (by decide)) (fun i hi => ?_) ?_ ?_ ?_
      · unfold gRl at hi; exact i2 i (by omega) (by omega) (by omega)
      · rw [i2 95 (by decide) (by decide) (by decide)]
      · rw [i2 104 (by decide) (by decide) (by decide)]
      · rw [i2 104 (by decide) (by decide) (by decide)]
    · have cl : ∀ K : gK, g_inv (gCm' G (d + 6)) mX0_liveOf [.ref 9, .int (nI j)] σ K = K (some (.int (gFold (gLvF σ (nI j)) 30 0))) σ := fun K => by
        rw [EX0_liveOf (hBlk h)]
        refine g_for (W := fun i acc => gw (gCm' G (d + 5)) G mX0_liveOf K 4 [.ref 9, .int (nI j), .int acc, .int (nI i)] [] σ) (R := fun acc => K (some (.int acc)) σ) (F := gLvF σ (nI j)) (L := 30) (fun i hi acc => ?_) (fun acc => ?_) 0
        · obtain ⟨f1, f2, f3, f4, f5⟩ := g_ix (n := 29) hi (by decide)
          have f2 : nI i < 30 := f2
          rw [BX0_liveOf_4 (hBlk h)]
          unfold gLvF
          by_cases c1 : σ 11 i = 1 <;> by_cases c2 : σ 15 i = nI j <;> simp only [f2, f4, f5, c1, c2, Option.toList_some, Option.toList_none, List.cons_append, List.nil_append, Nat.zero_add, Nat.reduceAdd, Option.some.injEq, Value.int.injEq, exists_eq_left', true_and, and_true, true_or, or_true, false_or, g_10, ↓reduceIte, nI_1]
        · rw [BX0_liveOf_4 (hBlk h)]
          simp only [show ¬ nI 30 < 30 by decide, Option.toList_some, Option.toList_none, List.cons_append, List.nil_append, Nat.zero_add, Nat.reduceAdd, Option.some.injEq, Value.int.injEq, exists_eq_left', true_and, and_true, true_or, or_true, false_or, g_10, ↓reduceIte]
      have tl : ∀ K : gK, g_inv (gCm' G (d + 6)) mX10_liveMany [.ref 104, .int (nI j)] σ K = K (some (.int (gFold (gLvF σ (nI j)) 30 0))) σ := fun K => by
        rw [EX10_liveMany h.2]
        refine g_for (W := fun i acc => gw (gCm' G (d + 5)) G mX10_liveMany K 4 [.ref 104, .int (nI j), .int acc, .int (nI i)] [] σ) (R := fun acc => K (some (.int acc)) σ) (F := gLvF σ (nI j)) (L := 30) (fun i hi acc => ?_) (fun acc => ?_) 0
        · obtain ⟨f1, f2, f3, f4, f5⟩ := g_ix (n := 29) hi (by decide)
          have f2 : nI i < 30 := f2
          rw [BX10_liveMany_4 h.2]
          unfold gLvF
          by_cases c1 : σ 11 i = 1 <;> by_cases c2 : σ 15 i = nI j <;> simp +decide only [f2, live_eq h hi, at_5 h hi, rs0 hR _ hi, rs5 hR _ hi, BX10_liveMany_16 h.2, BX10_liveMany_29 h.2, e1, c1, c2, Option.toList_some, Option.toList_none, List.cons_append, List.nil_append, Nat.zero_add, Nat.reduceAdd, Option.some.injEq, Value.int.injEq, exists_eq_left', true_and, and_true, true_or, or_true, false_or, g_10, ↓reduceIte, nI_1, Int32.add_zero]
        · rw [BX10_liveMany_4 h.2]
          simp only [show ¬ nI 30 < 30 by decide, Option.toList_some, Option.toList_none, List.cons_append, List.nil_append, Nat.zero_add, Nat.reduceAdd, Option.some.injEq, Value.int.injEq, exists_eq_left', true_and, and_true, true_or, or_true, false_or, g_10, ↓reduceIte]
      simp +decide only [EX9_owner h.1, BX9_owner_4 h.1, BX9_owner_79 h.1, EX10_owner h.2, BX10_owner_7 h.2, BX10_owner_16 h.2, BX10_owner_125 h.2, EX10_in, EX9_isOwner, Option.toList_some, Option.toList_none, List.cons_append, List.nil_append, Nat.zero_add, Nat.reduceAdd, Option.some.injEq, Value.int.injEq, exists_eq_left', true_and, and_true, true_or, or_true, false_or, g_10, ↓reduceIte, h.1, h.2, hNow h, hReg h, hGrd h, hBlk h, hTgo h, hWlk h, hPln h, hTap h, hHol h, e1, e2, e3, cl, tl]
      exact wRel_up hR (by omega)
end O44
