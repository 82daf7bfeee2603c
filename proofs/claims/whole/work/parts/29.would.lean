section O29
variable {G : gG} {d B : Nat} {σ : gM} {K : gK}
def gFc (S : Nat → Int32) (l q : Nat) : Int32 := gFold (fun i (acc : Int32) => if S (l + i) = -1 then acc + 1 else acc) q 0
def gLr (S : Nat → Int32) (l q : Nat) : Int32 := gFold (fun i (acc : Int32) => if acc < nI (gRun S (fun i => l + i) (i + 1)) then nI (gRun S (fun i => l + i) (i + 1)) else acc) q 0
def gFr (S : Nat → Int32) (l q : Nat) : Int32 := gFold (fun i (acc : Int32) => if S (l + i) = -1 then (if gRun S (fun i => l + i) i = 0 then acc + 1 else acc) else acc) q 0
theorem gRun_y {S : Nat → Int32} {pos : Nat → Nat} {i : Nat} (c : S (pos i) = -1) : gRun S pos (i + 1) = gRun S pos i + 1 := by
  show (if _ then _ else _) = _; rw [if_pos c]
theorem gRun_n {S : Nat → Int32} {pos : Nat → Nat} {i : Nat} (c : ¬ S (pos i) = -1) : gRun S pos (i + 1) = 0 := by
  show (if _ then _ else _) = _; rw [if_neg c]
theorem freeCells_eq (h : gOK G) {l q : Nat} (hlq : l + q ≤ 240) : g_inv (gCm' G (d + 1)) mX1_freeCells [.ref 7, .int (nI l), .int (nI (l + q))] σ K = K (some (.int (gFc (σ 8) l q))) σ := by
  rw [EX1_freeCells (hGrd h)]
  refine g_for (W := fun i acc => gw (gCm' G d) G mX1_freeCells K 5 [.ref 7, .int (nI l), .int (nI (l + q)), .int acc, .int (nI (l + i))] [] σ) (R := fun acc => K (some (.int acc)) σ) (L := q) (fun i hi acc => ?_) (fun acc => ?_) 0
  · rw [BX1_freeCells_5 (hGrd h)]
    have g1 : nI (l + i) < nI (l + q) := nI_lt (by omega) (by omega)
    have g2 : vp_in (nI (l + i)) 240 := vp_in_nI (by omega) (by decide)
    have g3 : (nI (l + i)).toNatClampNeg = l + i := nI_clamp (by omega)
    simp only [g1, g2, g3, Option.toList_some, Option.toList_none, List.cons_append, List.nil_append, Nat.zero_add, Nat.reduceAdd, Option.some.injEq, Value.int.injEq, exists_eq_left', true_and, and_true, true_or, or_true, false_or, g_10, ↓reduceIte, nI_1, Nat.add_assoc]
    split <;> rfl
  · rw [BX1_freeCells_5 (hGrd h)]
    simp only [show ¬ nI (l + q) < nI (l + q) from nI_nlt (Nat.le_refl _) (by omega), ↓reduceIte]
theorem longest_eq (h : gOK G) {l q : Nat} (hlq : l + q ≤ 240) : g_inv (gCm' G (d + 1)) mX1_longestFreeRow [.ref 7, .int (nI l), .int (nI (l + q))] σ K = K (some (.int (gLr (σ 8) l q))) σ := by
  rw [EX1_longestFreeRow (hGrd h)]
  refine g_for (W := fun i acc => gw (gCm' G d) G mX1_longestFreeRow K 8 [.ref 7, .int (nI l), .int (nI (l + q)), .int acc, .int (nI (gRun (σ 8) (fun i => l + i) i)), .int (nI (l + i))] [] σ) (R := fun acc => K (some (.int acc)) σ) (L := q) (fun i hi acc => ?_) (fun acc => ?_) 0
  · rw [BX1_longestFreeRow_8 (hGrd h)]
    have g1 : nI (l + i) < nI (l + q) := nI_lt (by omega) (by omega)
    have g2 : vp_in (nI (l + i)) 240 := vp_in_nI (by omega) (by decide)
    have g3 : (nI (l + i)).toNatClampNeg = l + i := nI_clamp (by omega)
    by_cases c : σ 8 (l + i) = -1
    · simp only [g1, g2, g3, c, Option.toList_some, Option.toList_none, List.cons_append, List.nil_append, Nat.zero_add, Nat.reduceAdd, Option.some.injEq, Value.int.injEq, exists_eq_left', true_and, and_true, true_or, or_true, false_or, g_10, ↓reduceIte, nI_1, Nat.add_assoc, gRun_y (S := σ 8) (pos := fun i => l + i) c]
    · simp only [g1, g2, g3, c, Option.toList_some, Option.toList_none, List.cons_append, List.nil_append, Nat.zero_add, Nat.reduceAdd, Option.some.injEq, Value.int.injEq, exists_eq_left', true_and, and_true, true_or, or_true, false_or, g_10, ↓reduceIte, nI_1, Nat.add_assoc, gRun_n (S := σ 8) (pos := fun i => l + i) c]
      rfl
  · rw [BX1_longestFreeRow_8 (hGrd h)]
    simp only [show ¬ nI (l + q) < nI (l + q) from nI_nlt (Nat.le_refl _) (by omega), ↓reduceIte]
theorem freeRows_eq (h : gOK G) {l q : Nat} (hlq : l + q ≤ 240) : g_inv (gCm' G (d + 1)) mX1_freeRows [.ref 7, .int (nI l), .int (nI (l + q))] σ K = K (some (.int (gFr (σ 8) l q))) σ := by
  rw [EX1_freeRows (hGrd h)]
  have key := g_for (W := fun i (a : Int32 × Value) => gw (gCm' G d) G mX1_freeRows K 8 [.ref 7, .int (nI l), .int (nI (l + q)), .int a.1, .int (if gRun (σ 8) (fun i => l + i) i = 0 then 0 else 1), .int (nI (l + i)), a.2] [] σ) (R := fun a => K (some (.int a.1)) σ) (F := fun i a => (if σ 8 (l + i) = -1 then (if gRun (σ 8) (fun i => l + i) i = 0 then a.1 + 1 else a.1) else a.1, .int (if gRun (σ 8) (fun i => l + i) (i + 1) = 0 then 0 else 1))) (L := q) (fun i hi a => ?_) (fun a => ?_) (0, .long 0)
  · refine Eq.trans key ?_
    have : ∀ n, (gFold (fun i (a : Int32 × Value) => ((if σ 8 (l + i) = -1 then (if gRun (σ 8) (fun i => l + i) i = 0 then a.1 + 1 else a.1) else a.1, .int (if gRun (σ 8) (fun i => l + i) (i + 1) = 0 then 0 else 1)) : Int32 × Value)) n (0, .long 0)).1 = gFr (σ 8) l n := by
      intro n
      induction n with
      | zero => rfl
      | succ n ih =>
        show (if _ then (if _ then (gFold _ n (0, Value.long 0)).1 + 1 else (gFold _ n (0, Value.long 0)).1) else (gFold _ n (0, Value.long 0)).1) = (if _ then (if _ then gFr (σ 8) l n + 1 else gFr (σ 8) l n) else gFr (σ 8) l n)
        rw [ih]
    rw [this]
  · rw [BX1_freeRows_8 (hGrd h)]
    have g1 : nI (l + i) < nI (l + q) := nI_lt (by omega) (by omega)
    have g2 : vp_in (nI (l + i)) 240 := vp_in_nI (by omega) (by decide)
    have g3 : (nI (l + i)).toNatClampNeg = l + i := nI_clamp (by omega)
    by_cases c : σ 8 (l + i) = -1
    · by_cases c2 : gRun (σ 8) (fun i => l + i) i = 0
      · simp +decide only [g1, g2, g3, c, c2, Option.toList_some, Option.toList_none, List.cons_append, List.nil_append, Nat.zero_add, Nat.reduceAdd, Option.some.injEq, Value.int.injEq, exists_eq_left', true_and, and_true, true_or, or_true, false_or, g_10, ↓reduceIte, nI_1, Nat.add_assoc, gRun_y (S := σ 8) (pos := fun i => l + i) c, BX1_freeRows_30 (hGrd h)]
      · have c3 : ¬ gRun (σ 8) (fun i => l + i) i + 1 = 0 := by omega
        simp +decide only [g1, g2, g3, c, c2, c3, Option.toList_some, Option.toList_none, List.cons_append, List.nil_append, Nat.zero_add, Nat.reduceAdd, Option.some.injEq, Value.int.injEq, exists_eq_left', true_and, and_true, true_or, or_true, false_or, g_10, ↓reduceIte, nI_1, Nat.add_assoc, gRun_y (S := σ 8) (pos := fun i => l + i) c, BX1_freeRows_30 (hGrd h)]
    · by_cases c2 : gRun (σ 8) (fun i => l + i) i = 0
      · simp +decide only [g1, g2, g3, c, c2, Option.toList_some, Option.toList_none, List.cons_append, List.nil_append, Nat.zero_add, Nat.reduceAdd, Option.some.injEq, Value.int.injEq, exists_eq_left', true_and, and_true, true_or, or_true, false_or, g_10, ↓reduceIte, nI_1, Nat.add_assoc, gRun_n (S := σ 8) (pos := fun i => l + i) c, BX1_freeRows_30 (hGrd h)]
      · simp +decide only [g1, g2, g3, c, c2, Option.toList_some, Option.toList_none, List.cons_append, List.nil_append, Nat.zero_add, Nat.reduceAdd, Option.some.injEq, Value.int.injEq, exists_eq_left', true_and, and_true, true_or, or_true, false_or, g_10, ↓reduceIte, nI_1, Nat.add_assoc, gRun_n (S := σ 8) (pos := fun i => l + i) c, BX1_freeRows_30 (hGrd h)]
  · rw [BX1_freeRows_8 (hGrd h)]
    simp only [show ¬ nI (l + q) < nI (l + q) from nI_nlt (Nat.le_refl _) (by omega), ↓reduceIte]
theorem freeIn_eq (h : gOK G) (hR : wRel B σ) {z : gM} (hz : z 105 = σ 105) {S : Nat → Int32} {r : Nat} {w : Int32} (hr : r < gN (σ 3 0)) (hS : ∀ c, gN (σ 4 r) ≤ c → c < gN (σ 4 r) + gN (σ 5 r) → (z 109 c = 100 ↔ S c = -1)) : g_inv (gCm' G (d + 2)) mX10_freeIn [.ref 104, .int (nI r), .int w] z K = K (some (.int (if w = 1 then gFc S (gN (σ 4 r)) (gN (σ 5 r)) else if w = 2 then gLr S (gN (σ 4 r)) (gN (σ 5 r)) else gFr S (gN (σ 4 r)) (gN (σ 5 r))))) z := by
  obtain ⟨h6, l, q, a1, a2, a3, a4, a5, a6, a7, a8⟩ := rReg hR hr
  rw [a3, a4] at hS ⊢
  have ea : (571 : Int32) + nI r = nI (571 + r) := nI_add 571 r
  have ec : vp_in (nI (571 + r)) 607 := vp_c (by omega)
  have ed : (nI (571 + r)).toNatClampNeg = 571 + r := nI_clamp (by omega)
  have hend : ∀ K : gK, g_inv (gCm' G (d + 1)) mX10_end [.ref 104, .int (nI r)] z K = K (some (.int (nI (l + q)))) z := fun K => by rw [mEnd_eq h hR hz hr, a3, a4]
  rw [EX10_freeIn h.2]
  simp only [ea, ec, ed, hz, r571 hR _ h6, a1, Option.toList_some, Option.toList_none, List.cons_append, List.nil_append, Nat.zero_add, Nat.reduceAdd, Option.some.injEq, Value.int.injEq, exists_eq_left', true_and, and_true, true_or, or_true, false_or, g_10, ↓reduceIte]
  have key : ∀ i, i ≤ q → ∃ v : Value, gw (gCm' G (d + 1)) G mX10_freeIn K 23 [.ref 104, .int (nI r), .int w, .int 0, .int 0, .int 0, .int 0, .int (nI l), .long 0] [] z = gw (gCm' G (d + 1)) G mX10_freeIn K 23 [.ref 104, .int (nI r), .int w, .int (gFc S l i), .int (nI (gRun S (fun i => l + i) i)), .int (gLr S l i), .int (gFr S l i), .int (nI (l + i)), v] [] z := by
    intro i
    induction i with
    | zero => intro _; exact ⟨.long 0, rfl⟩
    | succ i ih =>
      intro hi
      obtain ⟨v, ih⟩ := ih (by omega)
      rw [ih, BX10_freeIn_23 h.2]
      have g1 : nI (l + i) < nI (l + q) := nI_lt (by omega) (by omega)
      have g2 : vp_in (nI (l + i)) 240 := vp_in_nI (by omega) (by decide)
      have g3 : (nI (l + i)).toNatClampNeg = l + i := nI_clamp (by omega)
      have hSc := hS (l + i) (by omega) (by omega)
      have gl := gRun_le (S := S) (pos := fun i => l + i) i
      by_cases c : S (l + i) = -1
      · have c' := hSc.mpr c
        have f1 : gFc S l (i + 1) = gFc S l i + 1 := by show (if _ then _ else _) = _; rw [if_pos c]; rfl
        have f2 : gLr S l (i + 1) = if gLr S l i < nI (gRun S (fun i => l + i) (i + 1)) then nI (gRun S (fun i => l + i) (i + 1)) else gLr S l i := rfl
        by_cases c2 : gRun S (fun i => l + i) i = 0
        · have f3 : gFr S l (i + 1) = gFr S l i + 1 := by show (if _ then (if _ then _ else _) else _) = _; rw [if_pos c, if_pos c2]; rfl
          have n0 : nI (gRun S (fun i => l + i) i) = 0 := by rw [c2]; rfl
          refine ⟨.int 1, ?_⟩
          rw [f1, f3, f2]
          simp only [hend, BX10_freeIn_30 h.2, BX10_freeIn_50 h.2, BX10_freeIn_63 h.2, BX10_freeIn_81 h.2, BX10_freeIn_82 h.2, BX10_freeIn_98 h.2, g1, g2, g3, c', gRun_y (S := S) (pos := fun i => l + i) c, c2, show nI 0 = 0 from rfl, show (0 : Int32) + 1 = nI 1 from rfl, Option.toList_some, Option.toList_none, List.cons_append, List.nil_append, Nat.zero_add, Nat.reduceAdd, Option.some.injEq, Value.int.injEq, exists_eq_left', true_and, and_true, true_or, or_true, false_or, g_10, ↓reduceIte, nI_1, Nat.add_assoc]
          split <;> rfl
        · have f3 : gFr S l (i + 1) = gFr S l i := by show (if _ then (if _ then _ else _) else _) = _; rw [if_pos c, if_neg c2]; rfl
          have n0 : ¬ nI (gRun S (fun i => l + i) i) = 0 := nI_ne0 (by omega) (by omega)
          refine ⟨.int 1, ?_⟩
          rw [f1, f3, f2]
          simp only [hend, BX10_freeIn_30 h.2, BX10_freeIn_50 h.2, BX10_freeIn_63 h.2, BX10_freeIn_81 h.2, BX10_freeIn_82 h.2, BX10_freeIn_98 h.2, g1, g2, g3, c', n0, gRun_y (S := S) (pos := fun i => l + i) c, Option.toList_some, Option.toList_none, List.cons_append, List.nil_append, Nat.zero_add, Nat.reduceAdd, Option.some.injEq, Value.int.injEq, exists_eq_left', true_and, and_true, true_or, or_true, false_or, g_10, ↓reduceIte, nI_1, Nat.add_assoc, Int32.add_zero]
          split <;> rfl
      · have c' : ¬ z 109 (l + i) = 100 := fun z => c (hSc.mp z)
        have f1 : gFc S l (i + 1) = gFc S l i := by show (if _ then _ else _) = _; rw [if_neg c]; rfl
        have f2 : gLr S l (i + 1) = if gLr S l i < nI (gRun S (fun i => l + i) (i + 1)) then nI (gRun S (fun i => l + i) (i + 1)) else gLr S l i := rfl
        have f3 : gFr S l (i + 1) = gFr S l i := by show (if _ then (if _ then _ else _) else _) = _; rw [if_neg c]; rfl
        refine ⟨.int 0, ?_⟩
        rw [f1, f3, f2]
        simp only [hend, BX10_freeIn_30 h.2, BX10_freeIn_50 h.2, BX10_freeIn_63 h.2, BX10_freeIn_81 h.2, BX10_freeIn_82 h.2, BX10_freeIn_98 h.2, g1, g2, g3, c', gRun_n (S := S) (pos := fun i => l + i) c, Option.toList_some, Option.toList_none, List.cons_append, List.nil_append, Nat.zero_add, Nat.reduceAdd, Option.some.injEq, Value.int.injEq, exists_eq_left', true_and, and_true, true_or, or_true, false_or, g_10, ↓reduceIte, nI_1, Nat.add_assoc, Int32.add_zero, show nI 0 = 0 from rfl]
        split <;> rfl
  obtain ⟨v, key⟩ := key q (Nat.le_refl _)
  rw [key, BX10_freeIn_23 h.2]
  simp only [hend, BX10_freeIn_30 h.2, show ¬ nI (l + q) < nI (l + q) from nI_nlt (Nat.le_refl _) (by omega), Option.toList_some, Option.toList_none, List.cons_append, List.nil_append, Nat.zero_add, Nat.reduceAdd, Option.some.injEq, Value.int.injEq, exists_eq_left', true_and, and_true, true_or, or_true, false_or, g_10, ↓reduceIte]
  split
  · rfl
  · split <;> rfl
theorem op_would (h : gOK G) (hB : B < 1000000) (hR : wRel B σ) (a n w : Int32) : gOp G (d + 5) B mX9_would mX10_would [.int a, .int n, .int w] σ := by
  unfold gOp
  have hl : ∀ K, g_inv (gCm' G (d + 4)) mX10_laid [.ref 104] σ K = K none (g_ln σ σ) := fun K => laid_eq h hR rfl
  have fin : wRel (B + 1) (g_ln σ σ) := wRel_sc hR (by omega) (fun i h1 h2 => g_ln_o (by omega)) (g_ln_o (by decide)) (fun i hi => g_ln_o (by unfold gRl at hi; omega)) (by rw [g_ln_o (by decide)]) (by rw [g_ln_o (by decide)]) (by rw [g_ln_o (by decide)])
  rcases reg_cases hR a with (c | ⟨c, c2⟩) | ⟨r, hr, rfl, c, c2⟩
  · simp only [EX9_would, BX9_would_11, BX9_would_41, BX9_would_80, BX9_would_92, BX9_would_95, BX9_would_114, BX9_would_129, BX9_would_144, EX10_would, BX10_would_5, BX10_would_14, BX10_would_28, BX10_would_33, BX10_would_37, BX10_would_47, BX10_would_56, has_eq h hR, isReg_eq h hR rfl, Option.toList_some, Option.toList_none, List.cons_append, List.nil_append, Nat.zero_add, Nat.reduceAdd, Option.some.injEq, Value.int.injEq, exists_eq_left', true_and, and_true, true_or, or_true, false_or, g_10, ↓reduceIte, h.1, h.2, hNow h, hReg h, hGrd h, hBlk h, hTgo h, hWlk h, hPln h, hTap h, hHol h, c]
    exact wRel_up hR (by omega)
  · simp only [EX9_would, BX9_would_11, BX9_would_41, BX9_would_80, BX9_would_92, BX9_would_95, BX9_would_114, BX9_would_129, BX9_would_144, EX10_would, BX10_would_5, BX10_would_14, BX10_would_28, BX10_would_33, BX10_would_37, BX10_would_47, BX10_would_56, has_eq h hR, isReg_eq h hR rfl, Option.toList_some, Option.toList_none, List.cons_append, List.nil_append, Nat.zero_add, Nat.reduceAdd, Option.some.injEq, Value.int.injEq, exists_eq_left', true_and, and_true, true_or, or_true, false_or, g_10, ↓reduceIte, h.1, h.2, hNow h, hReg h, hGrd h, hBlk h, hTgo h, hWlk h, hPln h, hTap h, hHol h, c, c2]
    exact wRel_up hR (by omega)
  · obtain ⟨h6, l, q, a1, a2, a3, a4, a5, a6, a7, a8⟩ := rReg hR hr
    obtain ⟨e1, e2, e3, e4, e5⟩ := g_ix (n := 5) h6 (by decide)
    have bad : ¬ w = 0 → ¬ w = 1 → ¬ w = 2 → ¬ w = 3 → (w < 0 ∨ ¬ w < 0 ∧ 3 < w) → gOp G (d + 5) B mX9_would mX10_would [.int (nI r), .int n, .int w] σ := fun n0 n1 n2 n3 hw => by
      unfold gOp
      rcases hw with hw | ⟨hw, hw2⟩
      · simp only [EX9_would, BX9_would_11, BX9_would_41, BX9_would_80, BX9_would_92, BX9_would_95, BX9_would_114, BX9_would_129, BX9_would_144, EX10_would, BX10_would_5, BX10_would_14, BX10_would_28, BX10_would_33, BX10_would_37, BX10_would_47, BX10_would_56, EX10_in, EX5_highOf, has_eq h hR, isReg_eq h hR rfl, Option.toList_some, Option.toList_none, List.cons_append, List.nil_append, Nat.zero_add, Nat.reduceAdd, Option.some.injEq, Value.int.injEq, exists_eq_left', true_and, and_true, true_or, or_true, false_or, g_10, ↓reduceIte, h.1, h.2, hNow h, hReg h, hGrd h, hBlk h, hTgo h, hWlk h, hPln h, hTap h, hHol h, c, c2, e4, e5, n0, n1, n2, n3, hw]
        exact wRel_up hR (by omega)
      · simp only [EX9_would, BX9_would_11, BX9_would_41, BX9_would_80, BX9_would_92, BX9_would_95, BX9_would_114, BX9_would_129, BX9_would_144, EX10_would, BX10_would_5, BX10_would_14, BX10_would_28, BX10_would_33, BX10_would_37, BX10_would_47, BX10_would_56, EX10_in, EX5_highOf, has_eq h hR, isReg_eq h hR rfl, Option.toList_some, Option.toList_none, List.cons_append, List.nil_append, Nat.zero_add, Nat.reduceAdd, Option.some.injEq, Value.int.injEq, exists_eq_left', true_and, and_true, true_or, or_true, false_or, g_10, ↓reduceIte, h.1, h.2, hNow h, hReg h, hGrd h, hBlk h, hTgo h, hWlk h, hPln h, hTap h, hHol h, c, c2, e4, e5, n0, n1, n2, n3, hw, hw2]
        exact wRel_up hR (by omega)
    rcases pk_ix w (n := 4) (by decide) with w1 | w1 | ⟨k, hk, rfl⟩
    · exact bad (fun e => by subst e; exact absurd w1 (by decide)) (fun e => by subst e; exact absurd w1 (by decide)) (fun e => by subst e; exact absurd w1 (by decide)) (fun e => by subst e; exact absurd w1 (by decide)) (Or.inl w1)
    · obtain ⟨q1, q2, q3⟩ := g_ge (n := 3) (by decide) w1
      have q3 : 3 < w := q3
      exact bad (fun e => by subst e; exact absurd q3 (by decide)) (fun e => by subst e; exact absurd q3 (by decide)) (fun e => by subst e; exact absurd q3 (by decide)) (fun e => by subst e; exact absurd q3 (by decide)) (Or.inr ⟨q1, q3⟩)
    · have fi : ∀ (w : Int32) (K : gK), g_inv (gCm' G (d + 4)) mX10_freeIn [.ref 104, .int (nI r), .int w] (g_ln σ σ) K = K (some (.int (if w = 1 then gFc (σ 8) l q else if w = 2 then gLr (σ 8) l q else gFr (σ 8) l q))) (g_ln σ σ) := fun w K => by
        rw [freeIn_eq h hR (g_ln_o (by decide)) hr (fun c h1 h2 => ln_free hR hr h1 h2), a3, a4]
      rcases (by omega : k = 0 ∨ k = 1 ∨ k = 2 ∨ k = 3) with rfl | rfl | rfl | rfl
      · by_cases n1 : n < 1
        · simp +decide only [EX9_would, BX9_would_11, BX9_would_41, BX9_would_80, BX9_would_92, BX9_would_95, BX9_would_114, BX9_would_129, BX9_would_144, EX10_would, BX10_would_5, BX10_would_14, BX10_would_28, BX10_would_33, BX10_would_37, BX10_would_47, BX10_would_56, EX10_in, EX5_highOf, EX9_isBlockLength, has_eq h hR, isReg_eq h hR rfl, Option.toList_some, Option.toList_none, List.cons_append, List.nil_append, Nat.zero_add, Nat.reduceAdd, Option.some.injEq, Value.int.injEq, exists_eq_left', true_and, and_true, true_or, or_true, false_or, g_10, ↓reduceIte, h.1, h.2, hNow h, hReg h, hGrd h, hBlk h, hTgo h, hWlk h, hPln h, hTap h, hHol h, c, c2, e4, e5, n1]
          exact wRel_up hR (by omega)
        by_cases n2 : 40 < n
        · simp +decide only [EX9_would, BX9_would_11, BX9_would_41, BX9_would_80, BX9_would_92, BX9_would_95, BX9_would_114, BX9_would_129, BX9_would_144, EX10_would, BX10_would_5, BX10_would_14, BX10_would_28, BX10_would_33, BX10_would_37, BX10_would_47, BX10_would_56, EX10_in, EX5_highOf, EX9_isBlockLength, has_eq h hR, isReg_eq h hR rfl, Option.toList_some, Option.toList_none, List.cons_append, List.nil_append, Nat.zero_add, Nat.reduceAdd, Option.some.injEq, Value.int.injEq, exists_eq_left', true_and, and_true, true_or, or_true, false_or, g_10, ↓reduceIte, h.1, h.2, hNow h, hReg h, hGrd h, hBlk h, hTgo h, hWlk h, hPln h, hTap h, hHol h, c, c2, e4, e5, n1, n2]
          exact wRel_up hR (by omega)
        obtain ⟨m, hm, hm2, rfl⟩ := g_rng (a := 1) (b := 40) (by decide) (by decide) n1 n2
        have pf : ∀ K : gK, g_inv (gCm' G (d + 4)) mX3_placeFor [.ref 1, .int (nI r), .int (nI m)] σ K = K (some (.int (gAns (gPl (σ 8) l q (gIs (σ 6 r) 0) m) (-1)))) σ := fun K => by
          rw [placeFor_eq h hR hr hm (by omega), a3, a4]
        have pm : ∀ K : gK, g_inv (gCm' G (d + 4)) mX10_placed [.ref 104, .int (nI r), .int (nI m)] (g_ln σ σ) K = K (some (.int (gAns (gPl (σ 8) l q (gIs (σ 6 r) 0) m) (-2)))) (g_ln σ σ) := fun K => by
          rw [placed_eq h hR (g_ln_o (by decide)) hr (fun c h1 h2 => ln_free hR hr h1 h2) hm (by omega), a3, a4]
        cases hp : gPl (σ 8) l q (gIs (σ 6 r) 0) m with
        | none =>
          rw [hp] at pf pm
          simp +decide only [EX9_would, BX9_would_11, BX9_would_41, BX9_would_80, BX9_would_92, BX9_would_95, BX9_would_114, BX9_would_129, BX9_would_144, EX10_would, BX10_would_5, BX10_would_14, BX10_would_28, BX10_would_33, BX10_would_37, BX10_would_47, BX10_would_56, EX10_in, EX5_highOf, EX9_isBlockLength, EX9_notIfNone, has_eq h hR, isReg_eq h hR rfl, Option.toList_some, Option.toList_none, List.cons_append, List.nil_append, Nat.zero_add, Nat.reduceAdd, Option.some.injEq, Value.int.injEq, exists_eq_left', true_and, and_true, true_or, or_true, false_or, g_10, ↓reduceIte, h.1, h.2, hNow h, hReg h, hGrd h, hBlk h, hTgo h, hWlk h, hPln h, hTap h, hHol h, c, c2, e4, e5, n1, n2, pf, pm, hl, gAns]
          exact fin
        | some v =>
          rw [hp] at pf pm
          obtain ⟨v1, v2, -⟩ := gPl_some hm hp
          have em := g_m1 (j := v) (by omega)
          simp +decide only [EX9_would, BX9_would_11, BX9_would_41, BX9_would_80, BX9_would_92, BX9_would_95, BX9_would_114, BX9_would_129, BX9_would_144, EX10_would, BX10_would_5, BX10_would_14, BX10_would_28, BX10_would_33, BX10_would_37, BX10_would_47, BX10_would_56, EX10_in, EX5_highOf, EX9_isBlockLength, EX9_notIfNone, has_eq h hR, isReg_eq h hR rfl, Option.toList_some, Option.toList_none, List.cons_append, List.nil_append, Nat.zero_add, Nat.reduceAdd, Option.some.injEq, Value.int.injEq, exists_eq_left', true_and, and_true, true_or, or_true, false_or, g_10, ↓reduceIte, h.1, h.2, hNow h, hReg h, hGrd h, hBlk h, hTgo h, hWlk h, hPln h, hTap h, hHol h, c, c2, e4, e5, n1, n2, pf, pm, hl, gAns, em]
          exact fin
      · simp +decide only [EX9_would, BX9_would_11, BX9_would_41, BX9_would_80, BX9_would_92, BX9_would_95, BX9_would_114, BX9_would_129, BX9_would_144, EX10_would, BX10_would_5, BX10_would_14, BX10_would_28, BX10_would_33, BX10_would_37, BX10_would_47, BX10_would_56, EX10_in, EX5_highOf, has_eq h hR, isReg_eq h hR rfl, Option.toList_some, Option.toList_none, List.cons_append, List.nil_append, Nat.zero_add, Nat.reduceAdd, Option.some.injEq, Value.int.injEq, exists_eq_left', true_and, and_true, true_or, or_true, false_or, g_10, ↓reduceIte, h.1, h.2, hNow h, hReg h, hGrd h, hBlk h, hTgo h, hWlk h, hPln h, hTap h, hHol h, c, c2, e4, e5, a1, a2, nI_add, freeCells_eq h a7, hl, fi]
        exact fin
      · simp +decide only [EX9_would, BX9_would_11, BX9_would_41, BX9_would_80, BX9_would_92, BX9_would_95, BX9_would_114, BX9_would_129, BX9_would_144, EX10_would, BX10_would_5, BX10_would_14, BX10_would_28, BX10_would_33, BX10_would_37, BX10_would_47, BX10_would_56, EX10_in, EX5_highOf, has_eq h hR, isReg_eq h hR rfl, Option.toList_some, Option.toList_none, List.cons_append, List.nil_append, Nat.zero_add, Nat.reduceAdd, Option.some.injEq, Value.int.injEq, exists_eq_left', true_and, and_true, true_or, or_true, false_or, g_10, ↓reduceIte, h.1, h.2, hNow h, hReg h, hGrd h, hBlk h, hTgo h, hWlk h, hPln h, hTap h, hHol h, c, c2, e4, e5, a1, a2, nI_add, longest_eq h a7, hl, fi]
        exact fin
      · simp +decide only [EX9_would, BX9_would_11, BX9_would_41, BX9_would_80, BX9_would_92, BX9_would_95, BX9_would_114, BX9_would_129, BX9_would_144, EX10_would, BX10_would_5, BX10_would_14, BX10_would_28, BX10_would_33, BX10_would_37, BX10_would_47, BX10_would_56, EX10_in, EX5_highOf, has_eq h hR, isReg_eq h hR rfl, Option.toList_some, Option.toList_none, List.cons_append, List.nil_append, Nat.zero_add, Nat.reduceAdd, Option.some.injEq, Value.int.injEq, exists_eq_left', true_and, and_true, true_or, or_true, false_or, g_10, ↓reduceIte, h.1, h.2, hNow h, hReg h, hGrd h, hBlk h, hTgo h, hWlk h, hPln h, hTap h, hHol h, c, c2, e4, e5, a1, a2, nI_add, freeRows_eq h a7, hl, fi]
        exact fin
end O29
