section O56
variable {G : gG} {d B : Nat} {σ : gM} {K : gK}
theorem lh_eq (h : gOK G) (hR : wRel B σ) {n : Nat} (hn : n < 1000) : ∃ hd : Int32, (∀ (x : gM) (d : Nat) (K : gK), gAg cA x σ → g_inv (gCm' G (d + 2)) mX0_liveHandleOf [.ref 9, .int (nI n)] x K = K (some (.int hd)) x) ∧ ∀ (z : gM) (d : Nat) (K : gK), gAg tA z σ → g_inv (gCm' G (d + 3)) mX10_goodOf [.ref 104, .int (nI n)] z K = K (some (.int hd)) z := by
  have n0 : ¬ nI n < 0 := nI_pos (by omega)
  by_cases c : n < 30
  · obtain ⟨f1, f2, f3, f4, f5⟩ := g_ix (n := 29) (show n < 29 + 1 by omega) (by decide)
    have f2 : nI n < 30 := f2
    have f3 : ¬ 29 < nI n := f3
    by_cases l : σ 11 n = 1
    · refine ⟨100 * σ 10 n + nI n, fun x d K hx => ?_, fun z d K hz => ?_⟩
      · have l1 : x 11 n = 1 := by rw [hx 11 (by decide)]; exact l
        have l2 : x 10 = σ 10 := hx 10 (by decide)
        simp +decide only [EX0_liveHandleOf (hBlk h), f1, f2, f4, f5, l1, hof9_eq h c, l2, BX0_liveHandleOf_27 (hBlk h), Option.toList_some, Option.toList_none, List.cons_append, List.nil_append, Nat.zero_add, Nat.reduceAdd, Option.some.injEq, Value.int.injEq, exists_eq_left', true_and, and_true, true_or, or_true, false_or, g_10, ↓reduceIte]
      · have l1 : z 105 = σ 105 := hz 105 (by decide)
        simp +decide only [EX10_goodOf h.2, EX10_in, f1, f3, BX10_goodOf_7 h.2, live_eq h c, l1, rs0 hR _ c, l, BX10_goodOf_15 h.2, hof_eq h c, rs1 hR _ c, BX10_goodOf_23 h.2, Option.toList_some, Option.toList_none, List.cons_append, List.nil_append, Nat.zero_add, Nat.reduceAdd, Option.some.injEq, Value.int.injEq, exists_eq_left', true_and, and_true, true_or, or_true, false_or, g_10, ↓reduceIte]
    · refine ⟨-1, fun x d K hx => ?_, fun z d K hz => ?_⟩
      · have l1 : ¬ x 11 n = 1 := by rw [hx 11 (by decide)]; exact l
        simp +decide only [EX0_liveHandleOf (hBlk h), f1, f2, f4, f5, l1, Option.toList_some, Option.toList_none, List.cons_append, List.nil_append, Nat.zero_add, Nat.reduceAdd, Option.some.injEq, Value.int.injEq, exists_eq_left', true_and, and_true, true_or, or_true, false_or, g_10, ↓reduceIte]
      · have l1 : z 105 = σ 105 := hz 105 (by decide)
        simp +decide only [EX10_goodOf h.2, EX10_in, f1, f3, BX10_goodOf_7 h.2, live_eq h c, l1, rs0 hR _ c, l, BX10_goodOf_15 h.2, Option.toList_some, Option.toList_none, List.cons_append, List.nil_append, Nat.zero_add, Nat.reduceAdd, Option.some.injEq, Value.int.injEq, exists_eq_left', true_and, and_true, true_or, or_true, false_or, g_10, ↓reduceIte]
  · have f2 : ¬ nI n < 30 := nI_nlt (b := 30) (by omega) (by omega)
    have f3 : 29 < nI n := nI_lt (a := 29) (by omega) (by omega)
    refine ⟨-1, fun x d K hx => ?_, fun z d K hz => ?_⟩
    · simp +decide only [EX0_liveHandleOf (hBlk h), n0, f2, Option.toList_some, Option.toList_none, List.cons_append, List.nil_append, Nat.zero_add, Nat.reduceAdd, Option.some.injEq, Value.int.injEq, exists_eq_left', true_and, and_true, true_or, or_true, false_or, g_10, ↓reduceIte]
    · simp +decide only [EX10_goodOf h.2, EX10_in, n0, f3, BX10_goodOf_7 h.2, Option.toList_some, Option.toList_none, List.cons_append, List.nil_append, Nat.zero_add, Nat.reduceAdd, Option.some.injEq, Value.int.injEq, exists_eq_left', true_and, and_true, true_or, or_true, false_or, g_10, ↓reduceIte]
/-- one line, in both -/
def lnOK (G : gG) (d B : Nat) (σ : gM) (i : Nat) (L : Int32) : Prop := ∃ (r : Int32) (σ2 : gM), wRel (B + 1) σ2 ∧ (∀ b, 126 ≤ b → σ2 b = σ b) ∧ (∀ x, gAg cA x σ → ∀ K : gK, K (some (.int r)) (gMg cA σ2 x) → g_inv (gCm' G (d + 6)) mX9_doLine [.ref 0, .int (nI i)] x K) ∧ ∀ z, gAg tA z σ → ∀ K : gK, K (some (.int r)) (gMg tA σ2 z) → g_inv (gCm' G (d + 6)) mX10_does [.ref 104, .int L] z K
theorem dl_beg (h : gOK G) {i : Nat} {x : gM} (hi : i < 60) : g_inv (gCm' G (d + 6)) mX9_doLine [.ref 0, .int (nI i)] x K = gw (gCm' G (d + 5)) G mX9_doLine K 29 [.ref 0, .int (nI i), .int (x 98 (3 * i + 0)), .int (x 98 (3 * i + 1)), .long 0] [.int (x 98 (3 * i + 2))] x := by
  have e : ∀ k, k < 3 → (3 : Int32) * nI i + nI k = nI (3 * i + k) ∧ vp_in (nI (3 * i + k)) 180 ∧ (nI (3 * i + k)).toNatClampNeg = 3 * i + k := fun k hk => ⟨by rw [show (3 : Int32) = nI 3 from rfl, pk_mul, nI_add], vp_in_nI (by omega) (by decide), nI_clamp (by omega)⟩
  obtain ⟨a1, a2, a3⟩ := e 0 (by decide)
  obtain ⟨b1, b2, b3⟩ := e 1 (by decide)
  obtain ⟨c1, c2, c3⟩ := e 2 (by decide)
  have a1 : (3 : Int32) * nI i + 0 = nI (3 * i + 0) := a1
  have b1 : (3 : Int32) * nI i + 1 = nI (3 * i + 1) := b1
  have c1 : (3 : Int32) * nI i + 2 = nI (3 * i + 2) := c1
  rw [EX9_doLine h.1]
  simp only [EX7_number (hTap h), a1, b1, c1, a2, b2, c2, a3, b3, c3, BX9_doLine_9 h.1, BX9_doLine_19 h.1, Option.toList_some, Option.toList_none, List.cons_append, List.nil_append, Nat.zero_add, Nat.reduceAdd, Option.some.injEq, Value.int.injEq, exists_eq_left', true_and, and_true, true_or, or_true, false_or, g_10, ↓reduceIte]
theorem dln_region (h : gOK G) (hc : gSep G) (hB : B < 1000000) (hR : wRel B σ) {i : Nat} (hi : i < 60) (hL : σ 97 i = 114) (hn : ∀ k, k < 2 → σ 125 k = σ 98 (3 * i + k)) (hr : ∀ k, k < 2 → ∃ n, n < 1000 ∧ σ 98 (3 * i + k) = nI n) : lnOK G d B σ i 114 := by
  have z3 : vp_in 0 3 ∧ vp_in 1 3 ∧ vp_in 2 3 := ⟨vp_in_nI (n := 0) (by decide) (by decide), vp_in_nI (n := 1) (by decide) (by decide), vp_in_nI (n := 2) (by decide) (by decide)⟩
  obtain ⟨z30, z31, z32⟩ := z3
  have q0 : (0 : Int32).toNatClampNeg = 0 := by decide
  have q1 : (1 : Int32).toNatClampNeg = 1 := by decide
  have q2 : (2 : Int32).toNatClampNeg = 2 := by decide
  obtain ⟨f1, f2, f3, f4, f5⟩ := g_ix (n := 59) (show i < 59 + 1 by omega) (by decide)
  have xl : ∀ x, gAg cA x σ → x 97 i = 114 ∧ x 98 = σ 98 := fun x hx => ⟨by rw [hx 97 (by decide)]; exact hL, hx 98 (by decide)⟩
  have zl : ∀ z, gAg tA z σ → z 125 = σ 125 := fun z hz => hz 125 (by decide)
  have n0 := hn 0 (by decide)
  have n1 := hn 1 (by decide)
  obtain ⟨r, σ2, s1, s2, s3, s4⟩ := gOp_split (d := d + 5) hc (as := [.int (σ 98 (3 * i + 0)), .int (σ 98 (3 * i + 1))]) (fun v hv => by simp only [List.mem_cons, List.not_mem_nil, or_false] at hv; rcases hv with rfl | rfl <;> exact ⟨_, rfl⟩) (op_region (d := d + 1) h hB hR _ _)
  refine ⟨r, σ2, s1, s2, fun x hx K hk => ?_, fun z hz K hk => ?_⟩
  · obtain ⟨e1, e2⟩ := xl x hx
    rw [dl_beg h hi, BX9_doLine_29 h.1]
    simp +decide only [f4, f5, e1, e2, Option.toList_some, Option.toList_none, List.cons_append, List.nil_append, Nat.zero_add, Nat.reduceAdd, Option.some.injEq, Value.int.injEq, exists_eq_left', true_and, and_true, true_or, or_true, false_or, g_10, ↓reduceIte]
    refine s3 x hx _ ?_
    simp only [BX9_doLine_142 h.1, Option.toList_some, Option.toList_none, List.cons_append, List.nil_append, Nat.zero_add, Nat.reduceAdd, Option.some.injEq, Value.int.injEq, exists_eq_left', true_and, and_true, true_or, or_true, false_or, g_10, ↓reduceIte]
    exact hk
  · have e1 := zl z hz
    rw [EX10_does h.2]
    simp +decide only [z30, z31, z32, q0, q1, q2, e1, n0, n1, Option.toList_some, Option.toList_none, List.cons_append, List.nil_append, Nat.zero_add, Nat.reduceAdd, Option.some.injEq, Value.int.injEq, exists_eq_left', true_and, and_true, true_or, or_true, false_or, g_10, ↓reduceIte]
    refine s4 z hz _ ?_
    simp only [BX10_does_114 h.2, Option.toList_some, Option.toList_none, List.cons_append, List.nil_append, Nat.zero_add, Nat.reduceAdd, Option.some.injEq, Value.int.injEq, exists_eq_left', true_and, and_true, true_or, or_true, false_or, g_10, ↓reduceIte]
    exact hk
theorem dln_block (h : gOK G) (hc : gSep G) (hB : B < 1000000) (hR : wRel B σ) {i : Nat} (hi : i < 60) (hL : σ 97 i = 98) (hn : ∀ k, k < 3 → σ 125 k = σ 98 (3 * i + k)) (hr : ∀ k, k < 3 → ∃ n, n < 1000 ∧ σ 98 (3 * i + k) = nI n) : lnOK G d B σ i 98 := by
  have z3 : vp_in 0 3 ∧ vp_in 1 3 ∧ vp_in 2 3 := ⟨vp_in_nI (n := 0) (by decide) (by decide), vp_in_nI (n := 1) (by decide) (by decide), vp_in_nI (n := 2) (by decide) (by decide)⟩
  obtain ⟨z30, z31, z32⟩ := z3
  have q0 : (0 : Int32).toNatClampNeg = 0 := by decide
  have q1 : (1 : Int32).toNatClampNeg = 1 := by decide
  have q2 : (2 : Int32).toNatClampNeg = 2 := by decide
  obtain ⟨f1, f2, f3, f4, f5⟩ := g_ix (n := 59) (show i < 59 + 1 by omega) (by decide)
  have xl : ∀ x, gAg cA x σ → x 97 i = 98 ∧ x 98 = σ 98 := fun x hx => ⟨by rw [hx 97 (by decide)]; exact hL, hx 98 (by decide)⟩
  have zl : ∀ z, gAg tA z σ → z 125 = σ 125 := fun z hz => hz 125 (by decide)
  have n0 := hn 0 (by decide)
  have n1 := hn 1 (by decide)
  have n2 := hn 2 (by decide)
  obtain ⟨r, σ2, s1, s2, s3, s4⟩ := gOp_split (d := d + 5) hc (as := [.int (σ 98 (3 * i + 0)), .int (σ 98 (3 * i + 1)), .int (σ 98 (3 * i + 2))]) (fun v hv => by simp only [List.mem_cons, List.not_mem_nil, or_false] at hv; rcases hv with rfl | rfl | rfl <;> exact ⟨_, rfl⟩) (op_block (d := d) h hB hR _ _ _)
  refine ⟨r, σ2, s1, s2, fun x hx K hk => ?_, fun z hz K hk => ?_⟩
  · obtain ⟨e1, e2⟩ := xl x hx
    rw [dl_beg h hi, BX9_doLine_29 h.1]
    simp +decide only [f4, f5, e1, e2, Option.toList_some, Option.toList_none, List.cons_append, List.nil_append, Nat.zero_add, Nat.reduceAdd, Option.some.injEq, Value.int.injEq, exists_eq_left', true_and, and_true, true_or, or_true, false_or, g_10, ↓reduceIte]
    refine s3 x hx _ ?_
    simp only [BX9_doLine_151 h.1, Option.toList_some, Option.toList_none, List.cons_append, List.nil_append, Nat.zero_add, Nat.reduceAdd, Option.some.injEq, Value.int.injEq, exists_eq_left', true_and, and_true, true_or, or_true, false_or, g_10, ↓reduceIte]
    exact hk
  · have e1 := zl z hz
    rw [EX10_does h.2]
    simp +decide only [z30, z31, z32, q0, q1, q2, e1, n0, n1, n2, Option.toList_some, Option.toList_none, List.cons_append, List.nil_append, Nat.zero_add, Nat.reduceAdd, Option.some.injEq, Value.int.injEq, exists_eq_left', true_and, and_true, true_or, or_true, false_or, g_10, ↓reduceIte]
    refine s4 z hz _ ?_
    simp only [BX10_does_127 h.2, Option.toList_some, Option.toList_none, List.cons_append, List.nil_append, Nat.zero_add, Nat.reduceAdd, Option.some.injEq, Value.int.injEq, exists_eq_left', true_and, and_true, true_or, or_true, false_or, g_10, ↓reduceIte]
    exact hk
theorem dln_advance (h : gOK G) (hc : gSep G) (hB : B < 1000000) (hR : wRel B σ) {i : Nat} (hi : i < 60) (hL : σ 97 i = 101) (hn : ∀ k, k < 0 → σ 125 k = σ 98 (3 * i + k)) (hr : ∀ k, k < 0 → ∃ n, n < 1000 ∧ σ 98 (3 * i + k) = nI n) : lnOK G d B σ i 101 := by
  have z3 : vp_in 0 3 ∧ vp_in 1 3 ∧ vp_in 2 3 := ⟨vp_in_nI (n := 0) (by decide) (by decide), vp_in_nI (n := 1) (by decide) (by decide), vp_in_nI (n := 2) (by decide) (by decide)⟩
  obtain ⟨z30, z31, z32⟩ := z3
  have q0 : (0 : Int32).toNatClampNeg = 0 := by decide
  have q1 : (1 : Int32).toNatClampNeg = 1 := by decide
  have q2 : (2 : Int32).toNatClampNeg = 2 := by decide
  obtain ⟨f1, f2, f3, f4, f5⟩ := g_ix (n := 59) (show i < 59 + 1 by omega) (by decide)
  have xl : ∀ x, gAg cA x σ → x 97 i = 101 ∧ x 98 = σ 98 := fun x hx => ⟨by rw [hx 97 (by decide)]; exact hL, hx 98 (by decide)⟩
  have zl : ∀ z, gAg tA z σ → z 125 = σ 125 := fun z hz => hz 125 (by decide)
  obtain ⟨r, σ2, s1, s2, s3, s4⟩ := gOp_split (d := d + 5) hc (as := []) (fun v hv => by simp only [List.mem_cons, List.not_mem_nil, or_false] at hv) (op_advance (d := d + 1) h hB hR)
  refine ⟨r, σ2, s1, s2, fun x hx K hk => ?_, fun z hz K hk => ?_⟩
  · obtain ⟨e1, e2⟩ := xl x hx
    rw [dl_beg h hi, BX9_doLine_29 h.1]
    simp +decide only [f4, f5, e1, e2, Option.toList_some, Option.toList_none, List.cons_append, List.nil_append, Nat.zero_add, Nat.reduceAdd, Option.some.injEq, Value.int.injEq, exists_eq_left', true_and, and_true, true_or, or_true, false_or, g_10, ↓reduceIte]
    refine s3 x hx _ ?_
    simp only [BX9_doLine_244 h.1, Option.toList_some, Option.toList_none, List.cons_append, List.nil_append, Nat.zero_add, Nat.reduceAdd, Option.some.injEq, Value.int.injEq, exists_eq_left', true_and, and_true, true_or, or_true, false_or, g_10, ↓reduceIte]
    exact hk
  · have e1 := zl z hz
    rw [EX10_does h.2]
    simp +decide only [z30, z31, z32, q0, q1, q2, e1, Option.toList_some, Option.toList_none, List.cons_append, List.nil_append, Nat.zero_add, Nat.reduceAdd, Option.some.injEq, Value.int.injEq, exists_eq_left', true_and, and_true, true_or, or_true, false_or, g_10, ↓reduceIte]
    refine s4 z hz _ ?_
    simp only [BX10_does_232 h.2, Option.toList_some, Option.toList_none, List.cons_append, List.nil_append, Nat.zero_add, Nat.reduceAdd, Option.some.injEq, Value.int.injEq, exists_eq_left', true_and, and_true, true_or, or_true, false_or, g_10, ↓reduceIte]
    exact hk
theorem dln_enter (h : gOK G) (hc : gSep G) (hB : B < 1000000) (hR : wRel B σ) {i : Nat} (hi : i < 60) (hL : σ 97 i = 105) (hn : ∀ k, k < 1 → σ 125 k = σ 98 (3 * i + k)) (hr : ∀ k, k < 1 → ∃ n, n < 1000 ∧ σ 98 (3 * i + k) = nI n) : lnOK G d B σ i 105 := by
  have z3 : vp_in 0 3 ∧ vp_in 1 3 ∧ vp_in 2 3 := ⟨vp_in_nI (n := 0) (by decide) (by decide), vp_in_nI (n := 1) (by decide) (by decide), vp_in_nI (n := 2) (by decide) (by decide)⟩
  obtain ⟨z30, z31, z32⟩ := z3
  have q0 : (0 : Int32).toNatClampNeg = 0 := by decide
  have q1 : (1 : Int32).toNatClampNeg = 1 := by decide
  have q2 : (2 : Int32).toNatClampNeg = 2 := by decide
  obtain ⟨f1, f2, f3, f4, f5⟩ := g_ix (n := 59) (show i < 59 + 1 by omega) (by decide)
  have xl : ∀ x, gAg cA x σ → x 97 i = 105 ∧ x 98 = σ 98 := fun x hx => ⟨by rw [hx 97 (by decide)]; exact hL, hx 98 (by decide)⟩
  have zl : ∀ z, gAg tA z σ → z 125 = σ 125 := fun z hz => hz 125 (by decide)
  have n0 := hn 0 (by decide)
  obtain ⟨r, σ2, s1, s2, s3, s4⟩ := gOp_split (d := d + 5) hc (as := [.int (σ 98 (3 * i + 0))]) (fun v hv => by simp only [List.mem_cons, List.not_mem_nil, or_false] at hv; rcases hv with rfl <;> exact ⟨_, rfl⟩) (op_enter (d := d + 2) h hB hR _)
  refine ⟨r, σ2, s1, s2, fun x hx K hk => ?_, fun z hz K hk => ?_⟩
  · obtain ⟨e1, e2⟩ := xl x hx
    rw [dl_beg h hi, BX9_doLine_29 h.1]
    simp +decide only [f4, f5, e1, e2, Option.toList_some, Option.toList_none, List.cons_append, List.nil_append, Nat.zero_add, Nat.reduceAdd, Option.some.injEq, Value.int.injEq, exists_eq_left', true_and, and_true, true_or, or_true, false_or, g_10, ↓reduceIte]
    refine s3 x hx _ ?_
    simp only [BX9_doLine_233 h.1, Option.toList_some, Option.toList_none, List.cons_append, List.nil_append, Nat.zero_add, Nat.reduceAdd, Option.some.injEq, Value.int.injEq, exists_eq_left', true_and, and_true, true_or, or_true, false_or, g_10, ↓reduceIte]
    exact hk
  · have e1 := zl z hz
    rw [EX10_does h.2]
    simp +decide only [z30, z31, z32, q0, q1, q2, e1, n0, Option.toList_some, Option.toList_none, List.cons_append, List.nil_append, Nat.zero_add, Nat.reduceAdd, Option.some.injEq, Value.int.injEq, exists_eq_left', true_and, and_true, true_or, or_true, false_or, g_10, ↓reduceIte]
    refine s4 z hz _ ?_
    simp only [BX10_does_221 h.2, Option.toList_some, Option.toList_none, List.cons_append, List.nil_append, Nat.zero_add, Nat.reduceAdd, Option.some.injEq, Value.int.injEq, exists_eq_left', true_and, and_true, true_or, or_true, false_or, g_10, ↓reduceIte]
    exact hk
theorem dln_leave (h : gOK G) (hc : gSep G) (hB : B < 1000000) (hR : wRel B σ) {i : Nat} (hi : i < 60) (hL : σ 97 i = 111) (hn : ∀ k, k < 1 → σ 125 k = σ 98 (3 * i + k)) (hr : ∀ k, k < 1 → ∃ n, n < 1000 ∧ σ 98 (3 * i + k) = nI n) : lnOK G d B σ i 111 := by
  have z3 : vp_in 0 3 ∧ vp_in 1 3 ∧ vp_in 2 3 := ⟨vp_in_nI (n := 0) (by decide) (by decide), vp_in_nI (n := 1) (by decide) (by decide), vp_in_nI (n := 2) (by decide) (by decide)⟩
  obtain ⟨z30, z31, z32⟩ := z3
  have q0 : (0 : Int32).toNatClampNeg = 0 := by decide
  have q1 : (1 : Int32).toNatClampNeg = 1 := by decide
  have q2 : (2 : Int32).toNatClampNeg = 2 := by decide
  obtain ⟨f1, f2, f3, f4, f5⟩ := g_ix (n := 59) (show i < 59 + 1 by omega) (by decide)
  have xl : ∀ x, gAg cA x σ → x 97 i = 111 ∧ x 98 = σ 98 := fun x hx => ⟨by rw [hx 97 (by decide)]; exact hL, hx 98 (by decide)⟩
  have zl : ∀ z, gAg tA z σ → z 125 = σ 125 := fun z hz => hz 125 (by decide)
  have n0 := hn 0 (by decide)
  obtain ⟨r, σ2, s1, s2, s3, s4⟩ := gOp_split (d := d + 5) hc (as := [.int (σ 98 (3 * i + 0))]) (fun v hv => by simp only [List.mem_cons, List.not_mem_nil, or_false] at hv; rcases hv with rfl <;> exact ⟨_, rfl⟩) (op_leave (d := d + 2) h hB hR _)
  refine ⟨r, σ2, s1, s2, fun x hx K hk => ?_, fun z hz K hk => ?_⟩
  · obtain ⟨e1, e2⟩ := xl x hx
    rw [dl_beg h hi, BX9_doLine_29 h.1]
    simp +decide only [f4, f5, e1, e2, Option.toList_some, Option.toList_none, List.cons_append, List.nil_append, Nat.zero_add, Nat.reduceAdd, Option.some.injEq, Value.int.injEq, exists_eq_left', true_and, and_true, true_or, or_true, false_or, g_10, ↓reduceIte]
    refine s3 x hx _ ?_
    simp only [BX9_doLine_239 h.1, Option.toList_some, Option.toList_none, List.cons_append, List.nil_append, Nat.zero_add, Nat.reduceAdd, Option.some.injEq, Value.int.injEq, exists_eq_left', true_and, and_true, true_or, or_true, false_or, g_10, ↓reduceIte]
    exact hk
  · have e1 := zl z hz
    rw [EX10_does h.2]
    simp +decide only [z30, z31, z32, q0, q1, q2, e1, n0, Option.toList_some, Option.toList_none, List.cons_append, List.nil_append, Nat.zero_add, Nat.reduceAdd, Option.some.injEq, Value.int.injEq, exists_eq_left', true_and, and_true, true_or, or_true, false_or, g_10, ↓reduceIte]
    refine s4 z hz _ ?_
    simp only [BX10_does_227 h.2, Option.toList_some, Option.toList_none, List.cons_append, List.nil_append, Nat.zero_add, Nat.reduceAdd, Option.some.injEq, Value.int.injEq, exists_eq_left', true_and, and_true, true_or, or_true, false_or, g_10, ↓reduceIte]
    exact hk
theorem dln_moves (h : gOK G) (hc : gSep G) (hB : B < 1000000) (hR : wRel B σ) {i : Nat} (hi : i < 60) (hL : σ 97 i = 109) (hn : ∀ k, k < 2 → σ 125 k = σ 98 (3 * i + k)) (hr : ∀ k, k < 2 → ∃ n, n < 1000 ∧ σ 98 (3 * i + k) = nI n) : lnOK G d B σ i 109 := by
  have z3 : vp_in 0 3 ∧ vp_in 1 3 ∧ vp_in 2 3 := ⟨vp_in_nI (n := 0) (by decide) (by decide), vp_in_nI (n := 1) (by decide) (by decide), vp_in_nI (n := 2) (by decide) (by decide)⟩
  obtain ⟨z30, z31, z32⟩ := z3
  have q0 : (0 : Int32).toNatClampNeg = 0 := by decide
  have q1 : (1 : Int32).toNatClampNeg = 1 := by decide
  have q2 : (2 : Int32).toNatClampNeg = 2 := by decide
  obtain ⟨f1, f2, f3, f4, f5⟩ := g_ix (n := 59) (show i < 59 + 1 by omega) (by decide)
  have xl : ∀ x, gAg cA x σ → x 97 i = 109 ∧ x 98 = σ 98 := fun x hx => ⟨by rw [hx 97 (by decide)]; exact hL, hx 98 (by decide)⟩
  have zl : ∀ z, gAg tA z σ → z 125 = σ 125 := fun z hz => hz 125 (by decide)
  have n0 := hn 0 (by decide)
  have n1 := hn 1 (by decide)
  obtain ⟨r, σ2, s1, s2, s3, s4⟩ := gOp_split (d := d + 5) hc (as := [.int (σ 98 (3 * i + 0)), .int (σ 98 (3 * i + 1))]) (fun v hv => by simp only [List.mem_cons, List.not_mem_nil, or_false] at hv; rcases hv with rfl | rfl <;> exact ⟨_, rfl⟩) (op_moves (d := d) h hB hR _ _)
  refine ⟨r, σ2, s1, s2, fun x hx K hk => ?_, fun z hz K hk => ?_⟩
  · obtain ⟨e1, e2⟩ := xl x hx
    rw [dl_beg h hi, BX9_doLine_29 h.1]
    simp +decide only [f4, f5, e1, e2, Option.toList_some, Option.toList_none, List.cons_append, List.nil_append, Nat.zero_add, Nat.reduceAdd, Option.some.injEq, Value.int.injEq, exists_eq_left', true_and, and_true, true_or, or_true, false_or, g_10, ↓reduceIte]
    refine s3 x hx _ ?_
    simp only [BX9_doLine_227 h.1, Option.toList_some, Option.toList_none, List.cons_append, List.nil_append, Nat.zero_add, Nat.reduceAdd, Option.some.injEq, Value.int.injEq, exists_eq_left', true_and, and_true, true_or, or_true, false_or, g_10, ↓reduceIte]
    exact hk
  · have e1 := zl z hz
    rw [EX10_does h.2]
    simp +decide only [z30, z31, z32, q0, q1, q2, e1, n0, n1, Option.toList_some, Option.toList_none, List.cons_append, List.nil_append, Nat.zero_add, Nat.reduceAdd, Option.some.injEq, Value.int.injEq, exists_eq_left', true_and, and_true, true_or, or_true, false_or, g_10, ↓reduceIte]
    refine s4 z hz _ ?_
    simp only [BX10_does_215 h.2, Option.toList_some, Option.toList_none, List.cons_append, List.nil_append, Nat.zero_add, Nat.reduceAdd, Option.some.injEq, Value.int.injEq, exists_eq_left', true_and, and_true, true_or, or_true, false_or, g_10, ↓reduceIte]
    exact hk
theorem dln_free (h : gOK G) (hc : gSep G) (hB : B < 1000000) (hR : wRel B σ) {i : Nat} (hi : i < 60) (hL : σ 97 i = 102) (hn : ∀ k, k < 1 → σ 125 k = σ 98 (3 * i + k)) (hr : ∀ k, k < 1 → ∃ n, n < 1000 ∧ σ 98 (3 * i + k) = nI n) : lnOK G d B σ i 102 := by
  have z3 : vp_in 0 3 ∧ vp_in 1 3 ∧ vp_in 2 3 := ⟨vp_in_nI (n := 0) (by decide) (by decide), vp_in_nI (n := 1) (by decide) (by decide), vp_in_nI (n := 2) (by decide) (by decide)⟩
  obtain ⟨z30, z31, z32⟩ := z3
  have q0 : (0 : Int32).toNatClampNeg = 0 := by decide
  have q1 : (1 : Int32).toNatClampNeg = 1 := by decide
  have q2 : (2 : Int32).toNatClampNeg = 2 := by decide
  obtain ⟨f1, f2, f3, f4, f5⟩ := g_ix (n := 59) (show i < 59 + 1 by omega) (by decide)
  have xl : ∀ x, gAg cA x σ → x 97 i = 102 ∧ x 98 = σ 98 := fun x hx => ⟨by rw [hx 97 (by decide)]; exact hL, hx 98 (by decide)⟩
  have zl : ∀ z, gAg tA z σ → z 125 = σ 125 := fun z hz => hz 125 (by decide)
  have n0 := hn 0 (by decide)
  obtain ⟨nn, n9, ne⟩ := hr 0 (by decide)
  obtain ⟨hd, l1, l2⟩ := lh_eq h hR n9
  rw [← ne] at l1 l2
  obtain ⟨r, σ2, s1, s2, s3, s4⟩ := gOp_split (d := d + 5) hc (as := [.int hd]) (fun v hv => by simp only [List.mem_cons, List.not_mem_nil, or_false] at hv; subst hv <;> exact ⟨_, rfl⟩) (op_free (d := d + 1) h hB hR _)
  refine ⟨r, σ2, s1, s2, fun x hx K hk => ?_, fun z hz K hk => ?_⟩
  · obtain ⟨e1, e2⟩ := xl x hx
    rw [dl_beg h hi, BX9_doLine_29 h.1]
    simp +decide only [f4, f5, e1, e2, l1 x _ _ hx, BX9_doLine_164 h.1, Option.toList_some, Option.toList_none, List.cons_append, List.nil_append, Nat.zero_add, Nat.reduceAdd, Option.some.injEq, Value.int.injEq, exists_eq_left', true_and, and_true, true_or, or_true, false_or, g_10, ↓reduceIte]
    refine s3 x hx _ ?_
    simp only [BX9_doLine_167 h.1, Option.toList_some, Option.toList_none, List.cons_append, List.nil_append, Nat.zero_add, Nat.reduceAdd, Option.some.injEq, Value.int.injEq, exists_eq_left', true_and, and_true, true_or, or_true, false_or, g_10, ↓reduceIte]
    exact hk
  · have e1 := zl z hz
    rw [EX10_does h.2]
    simp +decide only [z30, z31, z32, q0, q1, q2, e1, n0, l2 z _ _ hz, BX10_does_134 h.2, Option.toList_some, Option.toList_none, List.cons_append, List.nil_append, Nat.zero_add, Nat.reduceAdd, Option.some.injEq, Value.int.injEq, exists_eq_left', true_and, and_true, true_or, or_true, false_or, g_10, ↓reduceIte]
    refine s4 z hz _ ?_
    simp only [BX10_does_137 h.2, Option.toList_some, Option.toList_none, List.cons_append, List.nil_append, Nat.zero_add, Nat.reduceAdd, Option.some.injEq, Value.int.injEq, exists_eq_left', true_and, and_true, true_or, or_true, false_or, g_10, ↓reduceIte]
    exact hk
theorem dln_pin (h : gOK G) (hc : gSep G) (hB : B < 1000000) (hR : wRel B σ) {i : Nat} (hi : i < 60) (hL : σ 97 i = 112) (hn : ∀ k, k < 1 → σ 125 k = σ 98 (3 * i + k)) (hr : ∀ k, k < 1 → ∃ n, n < 1000 ∧ σ 98 (3 * i + k) = nI n) : lnOK G d B σ i 112 := by
  have z3 : vp_in 0 3 ∧ vp_in 1 3 ∧ vp_in 2 3 := ⟨vp_in_nI (n := 0) (by decide) (by decide), vp_in_nI (n := 1) (by decide) (by decide), vp_in_nI (n := 2) (by decide) (by decide)⟩
  obtain ⟨z30, z31, z32⟩ := z3
  have q0 : (0 : Int32).toNatClampNeg = 0 := by decide
  have q1 : (1 : Int32).toNatClampNeg = 1 := by decide
  have q2 : (2 : Int32).toNatClampNeg = 2 := by decide
  obtain ⟨f1, f2, f3, f4, f5⟩ := g_ix (n := 59) (show i < 59 + 1 by omega) (by decide)
  have xl : ∀ x, gAg cA x σ → x 97 i = 112 ∧ x 98 = σ 98 := fun x hx => ⟨by rw [hx 97 (by decide)]; exact hL, hx 98 (by decide)⟩
  have zl : ∀ z, gAg tA z σ → z 125 = σ 125 := fun z hz => hz 125 (by decide)
  have n0 := hn 0 (by decide)
  obtain ⟨nn, n9, ne⟩ := hr 0 (by decide)
  obtain ⟨hd, l1, l2⟩ := lh_eq h hR n9
  rw [← ne] at l1 l2
  obtain ⟨r, σ2, s1, s2, s3, s4⟩ := gOp_split (d := d + 5) hc (as := [.int hd, .int 1]) (fun v hv => by simp only [List.mem_cons, List.not_mem_nil, or_false] at hv; rcases hv with rfl | rfl <;> exact ⟨_, rfl⟩) (op_pin (d := d + 1) h hB hR _ _)
  refine ⟨r, σ2, s1, s2, fun x hx K hk => ?_, fun z hz K hk => ?_⟩
  · obtain ⟨e1, e2⟩ := xl x hx
    rw [dl_beg h hi, BX9_doLine_29 h.1]
    simp +decide only [f4, f5, e1, e2, l1 x _ _ hx, BX9_doLine_180 h.1, Option.toList_some, Option.toList_none, List.cons_append, List.nil_append, Nat.zero_add, Nat.reduceAdd, Option.some.injEq, Value.int.injEq, exists_eq_left', true_and, and_true, true_or, or_true, false_or, g_10, ↓reduceIte]
    refine s3 x hx _ ?_
    simp only [BX9_doLine_184 h.1, Option.toList_some, Option.toList_none, List.cons_append, List.nil_append, Nat.zero_add, Nat.reduceAdd, Option.some.injEq, Value.int.injEq, exists_eq_left', true_and, and_true, true_or, or_true, false_or, g_10, ↓reduceIte]
    exact hk
  · have e1 := zl z hz
    rw [EX10_does h.2]
    simp +decide only [z30, z31, z32, q0, q1, q2, e1, n0, l2 z _ _ hz, BX10_does_144 h.2, Option.toList_some, Option.toList_none, List.cons_append, List.nil_append, Nat.zero_add, Nat.reduceAdd, Option.some.injEq, Value.int.injEq, exists_eq_left', true_and, and_true, true_or, or_true, false_or, g_10, ↓reduceIte]
    refine s4 z hz _ ?_
    simp only [BX10_does_148 h.2, Option.toList_some, Option.toList_none, List.cons_append, List.nil_append, Nat.zero_add, Nat.reduceAdd, Option.some.injEq, Value.int.injEq, exists_eq_left', true_and, and_true, true_or, or_true, false_or, g_10, ↓reduceIte]
    exact hk
theorem dln_unpin (h : gOK G) (hc : gSep G) (hB : B < 1000000) (hR : wRel B σ) {i : Nat} (hi : i < 60) (hL : σ 97 i = 117) (hn : ∀ k, k < 1 → σ 125 k = σ 98 (3 * i + k)) (hr : ∀ k, k < 1 → ∃ n, n < 1000 ∧ σ 98 (3 * i + k) = nI n) : lnOK G d B σ i 117 := by
  have z3 : vp_in 0 3 ∧ vp_in 1 3 ∧ vp_in 2 3 := ⟨vp_in_nI (n := 0) (by decide) (by decide), vp_in_nI (n := 1) (by decide) (by decide), vp_in_nI (n := 2) (by decide) (by decide)⟩
  obtain ⟨z30, z31, z32⟩ := z3
  have q0 : (0 : Int32).toNatClampNeg = 0 := by decide
  have q1 : (1 : Int32).toNatClampNeg = 1 := by decide
  have q2 : (2 : Int32).toNatClampNeg = 2 := by decide
  obtain ⟨f1, f2, f3, f4, f5⟩ := g_ix (n := 59) (show i < 59 + 1 by omega) (by decide)
  have xl : ∀ x, gAg cA x σ → x 97 i = 117 ∧ x 98 = σ 98 := fun x hx => ⟨by rw [hx 97 (by decide)]; exact hL, hx 98 (by decide)⟩
  have zl : ∀ z, gAg tA z σ → z 125 = σ 125 := fun z hz => hz 125 (by decide)
  have n0 := hn 0 (by decide)
  obtain ⟨nn, n9, ne⟩ := hr 0 (by decide)
  obtain ⟨hd, l1, l2⟩ := lh_eq h hR n9
  rw [← ne] at l1 l2
  obtain ⟨r, σ2, s1, s2, s3, s4⟩ := gOp_split (d := d + 5) hc (as := [.int hd, .int (-1)]) (fun v hv => by simp only [List.mem_cons, List.not_mem_nil, or_false] at hv; rcases hv with rfl | rfl <;> exact ⟨_, rfl⟩) (op_pin (d := d + 1) h hB hR _ _)
  refine ⟨r, σ2, s1, s2, fun x hx K hk => ?_, fun z hz K hk => ?_⟩
  · obtain ⟨e1, e2⟩ := xl x hx
    rw [dl_beg h hi, BX9_doLine_29 h.1]
    simp +decide only [f4, f5, e1, e2, l1 x _ _ hx, BX9_doLine_197 h.1, Option.toList_some, Option.toList_none, List.cons_append, List.nil_append, Nat.zero_add, Nat.reduceAdd, Option.some.injEq, Value.int.injEq, exists_eq_left', true_and, and_true, true_or, or_true, false_or, g_10, ↓reduceIte]
    refine s3 x hx _ ?_
    simp only [BX9_doLine_201 h.1, Option.toList_some, Option.toList_none, List.cons_append, List.nil_append, Nat.zero_add, Nat.reduceAdd, Option.some.injEq, Value.int.injEq, exists_eq_left', true_and, and_true, true_or, or_true, false_or, g_10, ↓reduceIte]
    exact hk
  · have e1 := zl z hz
    rw [EX10_does h.2]
    simp +decide only [z30, z31, z32, q0, q1, q2, e1, n0, l2 z _ _ hz, BX10_does_155 h.2, Option.toList_some, Option.toList_none, List.cons_append, List.nil_append, Nat.zero_add, Nat.reduceAdd, Option.some.injEq, Value.int.injEq, exists_eq_left', true_and, and_true, true_or, or_true, false_or, g_10, ↓reduceIte]
    refine s4 z hz _ ?_
    simp only [BX10_does_159 h.2, Option.toList_some, Option.toList_none, List.cons_append, List.nil_append, Nat.zero_add, Nat.reduceAdd, Option.some.injEq, Value.int.injEq, exists_eq_left', true_and, and_true, true_or, or_true, false_or, g_10, ↓reduceIte]
    exact hk
theorem dln_tag (h : gOK G) (hc : gSep G) (hB : B < 1000000) (hR : wRel B σ) {i : Nat} (hi : i < 60) (hL : σ 97 i = 116) (hn : ∀ k, k < 3 → σ 125 k = σ 98 (3 * i + k)) (hr : ∀ k, k < 3 → ∃ n, n < 1000 ∧ σ 98 (3 * i + k) = nI n) : lnOK G d B σ i 116 := by
  have z3 : vp_in 0 3 ∧ vp_in 1 3 ∧ vp_in 2 3 := ⟨vp_in_nI (n := 0) (by decide) (by decide), vp_in_nI (n := 1) (by decide) (by decide), vp_in_nI (n := 2) (by decide) (by decide)⟩
  obtain ⟨z30, z31, z32⟩ := z3
  have q0 : (0 : Int32).toNatClampNeg = 0 := by decide
  have q1 : (1 : Int32).toNatClampNeg = 1 := by decide
  have q2 : (2 : Int32).toNatClampNeg = 2 := by decide
  obtain ⟨f1, f2, f3, f4, f5⟩ := g_ix (n := 59) (show i < 59 + 1 by omega) (by decide)
  have xl : ∀ x, gAg cA x σ → x 97 i = 116 ∧ x 98 = σ 98 := fun x hx => ⟨by rw [hx 97 (by decide)]; exact hL, hx 98 (by decide)⟩
  have zl : ∀ z, gAg tA z σ → z 125 = σ 125 := fun z hz => hz 125 (by decide)
  have n0 := hn 0 (by decide)
  have n1 := hn 1 (by decide)
  have n2 := hn 2 (by decide)
  obtain ⟨nn, n9, ne⟩ := hr 0 (by decide)
  obtain ⟨bn, b9, be⟩ := hr 1 (by decide)
  obtain ⟨cn, c9, ce⟩ := hr 2 (by decide)
  obtain ⟨hd, l1, l2⟩ := lh_eq h hR n9
  rw [← ne] at l1 l2
  have b0 : ¬ nI bn < 0 := nI_pos (by omega)
  have c0 : ¬ nI cn < 0 := nI_pos (by omega)
  by_cases cb : bn < 5
  case neg =>
    have cb1 : ¬ nI bn < 5 := nI_nlt (b := 5) (by omega) (by omega)
    have cb2 : 4 < nI bn := nI_lt (a := 4) (by omega) (by omega)
    refine ⟨-1, σ, wRel_up hR (by omega), fun _ _ => rfl, fun x hx K hk => ?_, fun z hz K hk => ?_⟩
    · obtain ⟨e1, e2⟩ := xl x hx
      rw [gMg_self hx] at hk
      rw [dl_beg h hi, BX9_doLine_29 h.1]
      simp +decide only [f4, f5, e1, e2, l1 x _ _ hx, BX9_doLine_214 h.1, EX9_tagByLine h.1, be, cb1, BX9_doLine_220 h.1, Option.toList_some, Option.toList_none, List.cons_append, List.nil_append, Nat.zero_add, Nat.reduceAdd, Option.some.injEq, Value.int.injEq, exists_eq_left', true_and, and_true, true_or, or_true, false_or, g_10, ↓reduceIte]
      exact hk
    · have e1 := zl z hz
      rw [gMg_self hz] at hk
      rw [EX10_does h.2]
      simp +decide only [z30, z31, z32, q0, q1, q2, e1, n0, n1, n2, be, EX10_in, b0, cb2, BX10_does_166 h.2, BX10_does_208 h.2, Option.toList_some, Option.toList_none, List.cons_append, List.nil_append, Nat.zero_add, Nat.reduceAdd, Option.some.injEq, Value.int.injEq, exists_eq_left', true_and, and_true, true_or, or_true, false_or, g_10, ↓reduceIte]
      exact hk
  by_cases cc : cn < 100
  case neg =>
    have cb1 : nI bn < 5 := nI_lt (b := 5) (by omega) (by omega)
    have cb2 : ¬ 4 < nI bn := nI_nlt (a := 4) (by omega) (by omega)
    have cc1 : ¬ nI cn < 100 := nI_nlt (b := 100) (by omega) (by omega)
    have cc2 : 99 < nI cn := nI_lt (a := 99) (by omega) (by omega)
    refine ⟨-1, σ, wRel_up hR (by omega), fun _ _ => rfl, fun x hx K hk => ?_, fun z hz K hk => ?_⟩
    · obtain ⟨e1, e2⟩ := xl x hx
      rw [gMg_self hx] at hk
      rw [dl_beg h hi, BX9_doLine_29 h.1]
      simp +decide only [f4, f5, e1, e2, l1 x _ _ hx, BX9_doLine_214 h.1, EX9_tagByLine h.1, be, ce, cb1, cc1, BX9_doLine_220 h.1, Option.toList_some, Option.toList_none, List.cons_append, List.nil_append, Nat.zero_add, Nat.reduceAdd, Option.some.injEq, Value.int.injEq, exists_eq_left', true_and, and_true, true_or, or_true, false_or, g_10, ↓reduceIte]
      exact hk
    · have e1 := zl z hz
      rw [gMg_self hz] at hk
      rw [EX10_does h.2]
      simp +decide only [z30, z31, z32, q0, q1, q2, e1, n0, n1, n2, be, ce, EX10_in, b0, cb2, c0, cc2, BX10_does_166 h.2, BX10_does_181 h.2, BX10_does_208 h.2, Option.toList_some, Option.toList_none, List.cons_append, List.nil_append, Nat.zero_add, Nat.reduceAdd, Option.some.injEq, Value.int.injEq, exists_eq_left', true_and, and_true, true_or, or_true, false_or, g_10, ↓reduceIte]
      exact hk
  have cb1 : nI bn < 5 := nI_lt (b := 5) (by omega) (by omega)
  have cb2 : ¬ 4 < nI bn := nI_nlt (a := 4) (by omega) (by omega)
  have cc1 : nI cn < 100 := nI_lt (b := 100) (by omega) (by omega)
  have cc2 : ¬ 99 < nI cn := nI_nlt (a := 99) (by omega) (by omega)
  obtain ⟨r, σ2, s1, s2, s3, s4⟩ := gOp_split (d := d + 4) hc (as := [.int hd, .int (100 * nI bn + nI cn)]) (fun v hv => by simp only [List.mem_cons, List.not_mem_nil, or_false] at hv; rcases hv with rfl | rfl <;> exact ⟨_, rfl⟩) (op_tag (d := d) h hB hR _ _)
  refine ⟨r, σ2, s1, s2, fun x hx K hk => ?_, fun z hz K hk => ?_⟩
  · obtain ⟨e1, e2⟩ := xl x hx
    rw [dl_beg h hi, BX9_doLine_29 h.1]
    simp +decide only [f4, f5, e1, e2, l1 x _ _ hx, BX9_doLine_214 h.1, EX9_tagByLine h.1, be, ce, cb1, cc1, Option.toList_some, Option.toList_none, List.cons_append, List.nil_append, Nat.zero_add, Nat.reduceAdd, Option.some.injEq, Value.int.injEq, exists_eq_left', true_and, and_true, true_or, or_true, false_or, g_10, ↓reduceIte]
    refine s3 x hx _ ?_
    simp only [BX9_tagByLine_24 h.1, BX9_doLine_220 h.1, Option.toList_some, Option.toList_none, List.cons_append, List.nil_append, Nat.zero_add, Nat.reduceAdd, Option.some.injEq, Value.int.injEq, exists_eq_left', true_and, and_true, true_or, or_true, false_or, g_10, ↓reduceIte]
    exact hk
  · have e1 := zl z hz
    rw [EX10_does h.2]
    simp +decide only [z30, z31, z32, q0, q1, q2, e1, n0, n1, n2, be, ce, EX10_in, b0, cb2, c0, cc2, BX10_does_166 h.2, BX10_does_181 h.2, l2 z _ _ hz, BX10_does_194 h.2, Option.toList_some, Option.toList_none, List.cons_append, List.nil_append, Nat.zero_add, Nat.reduceAdd, Option.some.injEq, Value.int.injEq, exists_eq_left', true_and, and_true, true_or, or_true, false_or, g_10, ↓reduceIte]
    refine g_inv_d (gCm_d (d + 4)) (s4 z hz _ ?_)
    simp only [BX10_does_208 h.2, Option.toList_some, Option.toList_none, List.cons_append, List.nil_append, Nat.zero_add, Nat.reduceAdd, Option.some.injEq, Value.int.injEq, exists_eq_left', true_and, and_true, true_or, or_true, false_or, g_10, ↓reduceIte]
    exact hk
theorem op_line (h : gOK G) (hc : gSep G) (hB : B < 1000000) (hR : wRel B σ) {i w : Nat} {L : Int32} (hi : i < 60) (hL : σ 97 i = L) (hw : wan L = some w) (hn : ∀ k, k < w → σ 125 k = σ 98 (3 * i + k)) (hr : ∀ k, k < w → ∃ n, n < 1000 ∧ σ 98 (3 * i + k) = nI n) : lnOK G d B σ i L := by
  by_cases e98 : L = 98
  · subst e98
    have e : w = 3 := by rw [show wan 98 = some 3 by decide] at hw; cases hw; rfl
    subst e
    exact dln_block h hc hB hR hi hL hn hr
  by_cases e101 : L = 101
  · subst e101
    have e : w = 0 := by rw [show wan 101 = some 0 by decide] at hw; cases hw; rfl
    subst e
    exact dln_advance h hc hB hR hi hL hn hr
  by_cases e102 : L = 102
  · subst e102
    have e : w = 1 := by rw [show wan 102 = some 1 by decide] at hw; cases hw; rfl
    subst e
    exact dln_free h hc hB hR hi hL hn hr
  by_cases e105 : L = 105
  · subst e105
    have e : w = 1 := by rw [show wan 105 = some 1 by decide] at hw; cases hw; rfl
    subst e
    exact dln_enter h hc hB hR hi hL hn hr
  by_cases e109 : L = 109
  · subst e109
    have e : w = 2 := by rw [show wan 109 = some 2 by decide] at hw; cases hw; rfl
    subst e
    exact dln_moves h hc hB hR hi hL hn hr
  by_cases e111 : L = 111
  · subst e111
    have e : w = 1 := by rw [show wan 111 = some 1 by decide] at hw; cases hw; rfl
    subst e
    exact dln_leave h hc hB hR hi hL hn hr
  by_cases e112 : L = 112
  · subst e112
    have e : w = 1 := by rw [show wan 112 = some 1 by decide] at hw; cases hw; rfl
    subst e
    exact dln_pin h hc hB hR hi hL hn hr
  by_cases e114 : L = 114
  · subst e114
    have e : w = 2 := by rw [show wan 114 = some 2 by decide] at hw; cases hw; rfl
    subst e
    exact dln_region h hc hB hR hi hL hn hr
  by_cases e116 : L = 116
  · subst e116
    have e : w = 3 := by rw [show wan 116 = some 3 by decide] at hw; cases hw; rfl
    subst e
    exact dln_tag h hc hB hR hi hL hn hr
  by_cases e117 : L = 117
  · subst e117
    have e : w = 1 := by rw [show wan 117 = some 1 by decide] at hw; cases hw; rfl
    subst e
    exact dln_unpin h hc hB hR hi hL hn hr
  exfalso
  unfold wan at hw
  rw [if_neg e98, if_neg e101, if_neg e102, if_neg e105, if_neg e109, if_neg e111, if_neg e112, if_neg e114, if_neg e116, if_neg e117] at hw
  cases hw
end O56
