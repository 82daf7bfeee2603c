section O37
variable {G : gG} {d B : Nat} {σ : gM} {K : gK}
theorem gFst_all {c : Nat → Bool} {n : Nat} : gFst c n 0 = none ↔ ∀ i, i < n → c i = false := by
  constructor
  · intro h i hi; exact gFst_none h i (by omega) (by omega)
  · intro h
    cases e : gFst c n 0 with
    | none => rfl
    | some k =>
      obtain ⟨-, h1, h2, -⟩ := gFst_some e
      rw [h k (by omega)] at h2; cases h2
theorem isFree_eq (h : gOK G) {a n : Nat} (han : a + n ≤ 240) : g_inv (gCm' G (d + 1)) mX1_isFree [.ref 7, .int (nI a), .int (nI n)] σ K = match gFst (fun i => decide (¬ σ 8 (a + i) = -1)) n 0 with
    | some _ => K (some (.int 0)) σ
    | none => K (some (.int 1)) σ := by
  rw [EX1_isFree (hGrd h)]
  refine g_find (W := fun i (_ : Unit) => gw (gCm' G d) G mX1_isFree K 2 [.ref 7, .int (nI a), .int (nI n), .int (nI (a + i))] [] σ) (F := fun _ _ => ()) (c := fun i => decide (¬ σ 8 (a + i) = -1)) (R := fun _ => K (some (.int 0)) σ) (E := K (some (.int 1)) σ) (L := n) (fun i hi v => ?_) (fun v => ?_) ()
  · have g1 : nI (a + i) < nI (a + n) := nI_lt (by omega) (by omega)
    have g2 : vp_in (nI (a + i)) 240 := vp_in_nI (by omega) (by decide)
    have g3 : (nI (a + i)).toNatClampNeg = a + i := nI_clamp (by omega)
    rw [BX1_isFree_2 (hGrd h)]
    by_cases c : σ 8 (a + i) = -1 <;> simp only [nI_add, g1, g2, g3, Option.toList_some, Option.toList_none, List.cons_append, List.nil_append, Nat.zero_add, Nat.reduceAdd, Option.some.injEq, Value.int.injEq, exists_eq_left', true_and, and_true, true_or, or_true, false_or, g_10, ↓reduceIte, nI_1, c, not_true_eq_false, not_false_eq_true, decide_true, decide_false, Nat.add_assoc, Bool.false_eq_true]
  · rw [BX1_isFree_2 (hGrd h)]
    simp only [nI_add, show ¬ nI (a + n) < nI (a + n) from nI_nlt (Nat.le_refl _) (by omega), Option.toList_some, Option.toList_none, List.cons_append, List.nil_append, Nat.zero_add, Nat.reduceAdd, Option.some.injEq, Value.int.injEq, exists_eq_left', true_and, and_true, true_or, or_true, false_or, g_10, ↓reduceIte]
theorem isFB_eq (h : gOK G) (hR : wRel B σ) {z : gM} (hz : z 105 = σ 105) {s l q r n : Nat} (hs : s < 30) (el : σ 12 s = nI l) (eq : σ 13 s = nI q) (er : σ 14 s = nI r) (hr : r < gN (σ 3 0)) (hn : n ≤ 40) (h1 : gN (σ 4 r) ≤ l) (hlq : l + q ≤ 240) : g_inv (gCm' G (d + 2)) mX10_isFreeBehind [.ref 104, .int (nI s), .int (nI n)] (g_ln z σ) K = match gFst (fun i => decide (¬ (l + q + i < gN (σ 4 r) + gN (σ 5 r) ∧ σ 8 (l + q + i) = -1))) n 0 with
    | some _ => K (some (.int 0)) (g_ln z σ)
    | none => K (some (.int 1)) (g_ln z σ) := by
  obtain ⟨h6, a, b, a1, a2, a3, a4, a5, a6, a7, a8⟩ := rReg hR hr
  have zz : (g_ln z σ) 105 = σ 105 := by rw [g_ln_o (by decide)]; exact hz
  rw [EX10_isFreeBehind h.2]
  simp only [at_2 h hs, at_3 h hs, BX10_isFreeBehind_6 h.2, BX10_isFreeBehind_12 h.2, zz, rs2 hR _ hs, rs3 hR _ hs, el, eq, nI_add, Option.toList_some, Option.toList_none, List.cons_append, List.nil_append, Nat.zero_add, Nat.reduceAdd, Option.some.injEq, Value.int.injEq, exists_eq_left', true_and, and_true, true_or, or_true, false_or, g_10, ↓reduceIte]
  refine g_find (W := fun i (_ : Unit) => gw (gCm' G (d + 1)) G mX10_isFreeBehind K 17 [.ref 104, .int (nI s), .int (nI n), .int (nI (l + q)), .int (nI i)] [] (g_ln z σ)) (F := fun _ _ => ()) (c := fun i => decide (¬ (l + q + i < gN (σ 4 r) + gN (σ 5 r) ∧ σ 8 (l + q + i) = -1))) (R := fun _ => K (some (.int 0)) (g_ln z σ)) (E := K (some (.int 1)) (g_ln z σ)) (L := n) (fun i hi v => ?_) (fun v => ?_) ()
  · have g0 : nI i < nI n := nI_lt hi (by omega)
    rw [BX10_isFreeBehind_17 h.2]
    rw [a3, a4]
    by_cases c : l + q + i < a + b
    · have g1 : nI (l + q + i) < nI (a + b) := nI_lt c (by omega)
      have g2 : vp_in (nI (l + q + i)) 240 := vp_in_nI (by omega) (by decide)
      have g3 : (nI (l + q + i)).toNatClampNeg = l + q + i := nI_clamp (by omega)
      have fr := ln_free hR (z := z) hr (c := l + q + i) (by omega) (by rw [a3, a4]; exact c)
      by_cases c2 : σ 8 (l + q + i) = -1
      · have c3 := fr.mpr c2
        simp +decide only [g0, at_4 h hs, BX10_isFreeBehind_34 h.2, BX10_isFreeBehind_37 h.2, mEnd_eq h hR zz hr, zz, rs4 hR _ hs, er, a3, a4, nI_add, g1, g2, g3, c, c2, c3, Option.toList_some, Option.toList_none, List.cons_append, List.nil_append, Nat.zero_add, Nat.reduceAdd, Option.some.injEq, Value.int.injEq, exists_eq_left', true_and, and_true, true_or, or_true, false_or, g_10, ↓reduceIte, nI_1]
      · have c3 : ¬ (g_ln z σ) 109 (l + q + i) = 100 := fun e => c2 (fr.mp e)
        simp +decide only [g0, at_4 h hs, BX10_isFreeBehind_34 h.2, BX10_isFreeBehind_37 h.2, mEnd_eq h hR zz hr, zz, rs4 hR _ hs, er, a3, a4, nI_add, g1, g2, g3, c, c2, c3, Option.toList_some, Option.toList_none, List.cons_append, List.nil_append, Nat.zero_add, Nat.reduceAdd, Option.some.injEq, Value.int.injEq, exists_eq_left', true_and, and_true, true_or, or_true, false_or, g_10, ↓reduceIte, nI_1]
    · have g1 : ¬ nI (l + q + i) < nI (a + b) := nI_nlt (by omega) (by omega)
      simp +decide only [g0, at_4 h hs, BX10_isFreeBehind_34 h.2, BX10_isFreeBehind_37 h.2, mEnd_eq h hR zz hr, zz, rs4 hR _ hs, er, a3, a4, nI_add, g1, c, Option.toList_some, Option.toList_none, List.cons_append, List.nil_append, Nat.zero_add, Nat.reduceAdd, Option.some.injEq, Value.int.injEq, exists_eq_left', true_and, and_true, true_or, or_true, false_or, g_10, ↓reduceIte, nI_1, false_and]
  · rw [BX10_isFreeBehind_17 h.2]
    simp only [show ¬ nI n < nI n from nI_nlt (Nat.le_refl _) (by omega), Option.toList_some, Option.toList_none, List.cons_append, List.nil_append, Nat.zero_add, Nat.reduceAdd, Option.some.injEq, Value.int.injEq, exists_eq_left', true_and, and_true, true_or, or_true, false_or, g_10, ↓reduceIte]
theorem op_grow (h : gOK G) (hB : B < 1000000) (hR : wRel B σ) (x n : Int32) : gOp G (d + 6) B mX9_grow mX10_grow [.int x, .int n] σ := by
  unfold gOp
  by_cases n1 : n < 1
  · simp only [EX9_grow, BX9_grow_24, BX9_grow_71, BX9_grow_94, BX9_grow_109, BX9_grow_121, EX10_grow, BX10_grow_7, BX10_grow_17, BX10_grow_32, BX10_grow_45, BX10_grow_48, BX10_grow_63, BX10_grow_77, BX10_grow_85, BX10_grow_91, BX10_grow_104, BX10_grow_114, BX10_grow_119, BX10_grow_143, BX10_grow_149, BX10_grow_187, EX10_in, Option.toList_some, Option.toList_none, List.cons_append, List.nil_append, Nat.zero_add, Nat.reduceAdd, Option.some.injEq, Value.int.injEq, exists_eq_left', true_and, and_true, true_or, or_true, false_or, g_10, ↓reduceIte, h.1, h.2, hNow h, hReg h, hGrd h, hBlk h, hTgo h, hWlk h, hPln h, hTap h, hHol h, n1]
    exact wRel_up hR (by omega)
  by_cases n2 : 39 < n
  · have n3 : ¬ n < 40 := fun z => by
      rw [Int32.lt_iff_toInt_lt] at n2 z
      have e1 : (39 : Int32).toInt = 39 := by decide
      have e2 : (40 : Int32).toInt = 40 := by decide
      omega
    simp only [EX9_grow, BX9_grow_24, BX9_grow_71, BX9_grow_94, BX9_grow_109, BX9_grow_121, EX10_grow, BX10_grow_7, BX10_grow_17, BX10_grow_32, BX10_grow_45, BX10_grow_48, BX10_grow_63, BX10_grow_77, BX10_grow_85, BX10_grow_91, BX10_grow_104, BX10_grow_114, BX10_grow_119, BX10_grow_143, BX10_grow_149, BX10_grow_187, EX10_in, Option.toList_some, Option.toList_none, List.cons_append, List.nil_append, Nat.zero_add, Nat.reduceAdd, Option.some.injEq, Value.int.injEq, exists_eq_left', true_and, and_true, true_or, or_true, false_or, g_10, ↓reduceIte, h.1, h.2, hNow h, hReg h, hGrd h, hBlk h, hTgo h, hWlk h, hPln h, hTap h, hHol h, n1, n2, n3]
    exact wRel_up hR (by omega)
  obtain ⟨n, hn, hn2, rfl⟩ := g_rng (a := 1) (b := 39) (by decide) (by decide) n1 n2
  have n3 : nI n < 40 := nI_lt (b := 40) (by omega) (by decide)
  rcases Classical.em (∃ s, gGood σ x s) with ⟨s, hg⟩ | hg
  case inr =>
    obtain ⟨g1, g2⟩ := good_n' h hR (not_exists.mp hg)
    simp +decide only [EX9_grow, BX9_grow_24, BX9_grow_71, BX9_grow_94, BX9_grow_109, BX9_grow_121, EX10_grow, BX10_grow_7, BX10_grow_17, BX10_grow_32, BX10_grow_45, BX10_grow_48, BX10_grow_63, BX10_grow_77, BX10_grow_85, BX10_grow_91, BX10_grow_104, BX10_grow_114, BX10_grow_119, BX10_grow_143, BX10_grow_149, BX10_grow_187, EX10_in, Option.toList_some, Option.toList_none, List.cons_append, List.nil_append, Nat.zero_add, Nat.reduceAdd, Option.some.injEq, Value.int.injEq, exists_eq_left', true_and, and_true, true_or, or_true, false_or, g_10, ↓reduceIte, h.1, h.2, hNow h, hReg h, hGrd h, hBlk h, hTgo h, hWlk h, hPln h, hTap h, hHol h, n1, n2, n3, g1, g2]
    exact wRel_up hR (by omega)
  obtain ⟨hs, hl1, -⟩ := id hg
  obtain ⟨y1, y2⟩ := good_y (G := G) (B := B) h hg
  obtain ⟨f1, f2, f3, f4, f5⟩ := g_ix (n := 29) hs (by decide)
  have sm := g_m1 (j := s) (by omega)
  obtain ⟨l, q, r, o, p, b1, b2, b3, b4, b5, b6, b7, b8, b9, b10, b11, b12, b13, b14⟩ := rBlk hR hs (by rw [hl1]; decide)
  by_cases p0 : p = 0
  case neg =>
    have p1 : 0 < nI p := nI_lt (a := 0) (by omega) (by omega)
    simp +decide only [EX9_grow, BX9_grow_24, BX9_grow_71, BX9_grow_94, BX9_grow_109, BX9_grow_121, EX10_grow, BX10_grow_7, BX10_grow_17, BX10_grow_32, BX10_grow_45, BX10_grow_48, BX10_grow_63, BX10_grow_77, BX10_grow_85, BX10_grow_91, BX10_grow_104, BX10_grow_114, BX10_grow_119, BX10_grow_143, BX10_grow_149, BX10_grow_187, EX10_in, at_6 h hs, rs6 hR _ hs, Option.toList_some, Option.toList_none, List.cons_append, List.nil_append, Nat.zero_add, Nat.reduceAdd, Option.some.injEq, Value.int.injEq, exists_eq_left', true_and, and_true, true_or, or_true, false_or, g_10, ↓reduceIte, h.1, h.2, hNow h, hReg h, hGrd h, hBlk h, hTgo h, hWlk h, hPln h, hTap h, hHol h, n1, n2, n3, y1, y2, rs0 hR _ hs, rs1 hR _ hs, f1, f4, f5, sm, b5, p1]
    exact wRel_up hR (by omega)
  subst p0
  obtain ⟨e1, e2, e3, e4, e5⟩ := g_ix (n := 9) (show o < 9 + 1 by omega) (by decide)
  have ea : (589 : Int32) + nI o = nI (589 + o) := nI_add 589 o
  have ec : vp_in (nI (589 + o)) 607 := vp_c (by omega)
  have ed : (nI (589 + o)).toNatClampNeg = 589 + o := nI_clamp (by omega)
  by_cases c3 : σ 21 o < gUsed σ (nI o) + nI n
  · simp +decide only [EX9_grow, BX9_grow_24, BX9_grow_71, BX9_grow_94, BX9_grow_109, BX9_grow_121, EX10_grow, BX10_grow_7, BX10_grow_17, BX10_grow_32, BX10_grow_45, BX10_grow_48, BX10_grow_63, BX10_grow_77, BX10_grow_85, BX10_grow_91, BX10_grow_104, BX10_grow_114, BX10_grow_119, BX10_grow_143, BX10_grow_149, BX10_grow_187, EX10_in, EX3_quotaAllows, BX3_quotaAllows_8, at_6 h hs, at_5 h hs, rs6 hR _ hs, rs5 hR _ hs, usedBy_eq h, used_eq h hR rfl, Option.toList_some, Option.toList_none, List.cons_append, List.nil_append, Nat.zero_add, Nat.reduceAdd, Option.some.injEq, Value.int.injEq, exists_eq_left', true_and, and_true, true_or, or_true, false_or, g_10, ↓reduceIte, h.1, h.2, hNow h, hReg h, hGrd h, hBlk h, hTgo h, hWlk h, hPln h, hTap h, hHol h, n1, n2, n3, y1, y2, rs0 hR _ hs, rs1 hR _ hs, f1, f4, f5, sm, b5, b4, e4, e5, ea, ec, ed, r589 hR o (by omega), c3]
    exact wRel_up hR (by omega)
  obtain ⟨h6, la, qa, a1, a2, a3, a4, a5, a6, a7, a8⟩ := rReg hR b9
  rw [a3] at b13
  rw [a3, a4] at b14
  have hl : ∀ (z : gM) (K : gK), z 105 = σ 105 → g_inv (gCm' G (d + 5)) mX10_laid [.ref 104] z K = K none (g_ln z σ) := fun z K hz => laid_eq h hR hz
  have pf : ∀ K : gK, g_inv (gCm' G (d + 4)) mX3_placeFor [.ref 1, .int (nI r), .int (nI (q + n))] σ K = K (some (.int (gAns (gPl (σ 8) la qa (gIs (σ 6 r) 0) (q + n)) (-1)))) σ := fun K => by
    rw [placeFor_eq h hR b9 (by omega) (by omega), a3, a4]
  have pm : ∀ (z : gM) (K : gK), z 105 = σ 105 → g_inv (gCm' G (d + 5)) mX10_placed [.ref 104, .int (nI r), .int (nI (q + n))] (g_ln z σ) K = K (some (.int (gAns (gPl (σ 8) la qa (gIs (σ 6 r) 0) (q + n)) (-2)))) (g_ln z σ) := fun z K hz => by
    rw [placed_eq h hR ((g_ln_o (by decide)).trans hz) b9 (fun c h1 h2 => ln_free hR b9 h1 h2) (by omega) (by omega), a3, a4]
  have fb : ∀ (z : gM) (K : gK), z 105 = σ 105 → g_inv (gCm' G (d + 5)) mX10_isFreeBehind [.ref 104, .int (nI s), .int (nI n)] (g_ln z σ) K = match gFst (fun i => decide (¬ (l + q + i < la + qa ∧ σ 8 (l + q + i) = -1))) n 0 with
      | some _ => K (some (.int 0)) (g_ln z σ)
      | none => K (some (.int 1)) (g_ln z σ) := fun z K hz => by
    rw [isFB_eq h hR hz hs b1 b2 b3 b9 (by omega) (by rw [a3]; omega) b8, a3, a4]
  have fin0 : wRel (B + 1) (g_ln σ σ) := wRel_sc hR (by omega) (fun i h1 h2 => g_ln_o (by omega)) (g_ln_o (by decide)) (fun i hi => g_ln_o (by unfold gRl at hi; omega)) (by rw [g_ln_o (by decide)]) (by rw [g_ln_o (by decide)]) (by rw [g_ln_o (by decide)])
  have lt1 : ¬ nI (q + n) < 1 := nI_nlt (b := 1) (a := q + n) (by omega) (by omega)
  have ml : ∀ (z : gM) (w : Nat), w < 11 → z 105 = σ 105 → (g_ln z σ) 105 (s * 11 + w) = σ 105 (s * 11 + w) := fun z w _ hz => by rw [g_ln_o (by decide), hz]
  -- what the twin does up to where it decides
  have tw : ∀ (z : gM) (K : gK), z 105 = σ 105 → g_inv (gCm' G (d + 6)) mX10_grow [.ref 104, .int x, .int (nI n)] z K = match gFst (fun i => decide (¬ (l + q + i < la + qa ∧ σ 8 (l + q + i) = -1))) n 0 with
      | some _ => gw (gCm' G (d + 5)) G mX10_grow K 119 [.ref 104, .int x, .int (nI n), .int (nI s), .int (nI (q + n)), .int 0, .long 0, .long 0] [.int (gAns (gPl (σ 8) la qa (gIs (σ 6 r) 0) (q + n)) (-2))] (g_ln z σ)
      | none => gw (gCm' G (d + 5)) G mX10_grow K 119 [.ref 104, .int x, .int (nI n), .int (nI s), .int (nI (q + n)), .int 1, .long 0, .long 0] [.int (nI l)] (g_ln z σ) := fun z K hz => by
    have zg : ∀ K : gK, g_inv (gCm' G (d + 5)) mX10_good [.ref 104, .int x] z K = K (some (.int (nI s))) z := fun K => y2 _ _ _ (by rw [hz]; exact rs0 hR _ hs) (by rw [hz]; exact rs1 hR _ hs)
    rw [EX10_grow h.2]
    simp +decide only [EX10_in, BX10_grow_7 h.2, BX10_grow_17 h.2, BX10_grow_32 h.2, BX10_grow_45 h.2, BX10_grow_48 h.2, BX10_grow_63 h.2, BX10_grow_77 h.2, BX10_grow_85 h.2, at_6 h hs, at_5 h hs, at_3 h hs, hz, rs6 hR _ hs, rs5 hR _ hs, rs3 hR _ hs, used_eq h hR hz, Option.toList_some, Option.toList_none, List.cons_append, List.nil_append, Nat.zero_add, Nat.reduceAdd, Option.some.injEq, Value.int.injEq, exists_eq_left', true_and, and_true, true_or, or_true, false_or, g_10, ↓reduceIte, n1, n2, zg, f1, b5, b4, b2, e4, e5, ea, ec, ed, r589 hR o (by omega), c3, nI_add, hl _ _ hz, fb _ _ hz]
    cases gFst (fun i => decide (¬ (l + q + i < la + qa ∧ σ 8 (l + q + i) = -1))) n 0 with
    | none => simp +decide only [BX10_grow_91 h.2, BX10_grow_104 h.2, at_2 h hs, ml z _ _ hz, rs2 hR _ hs, b1, Option.toList_some, Option.toList_none, List.cons_append, List.nil_append, Nat.zero_add, Nat.reduceAdd, Option.some.injEq, Value.int.injEq, exists_eq_left', true_and, and_true, true_or, or_true, false_or, g_10, ↓reduceIte]
    | some k => simp +decide only [BX10_grow_91 h.2, BX10_grow_114 h.2, at_4 h hs, ml z _ _ hz, rs4 hR _ hs, b3, pm _ _ hz, Option.toList_some, Option.toList_none, List.cons_append, List.nil_append, Nat.zero_add, Nat.reduceAdd, Option.some.injEq, Value.int.injEq, exists_eq_left', true_and, and_true, true_or, or_true, false_or, g_10, ↓reduceIte]
  have cl : ∀ (K : gK), g_inv (gCm' G (d + 6)) mX9_grow [.ref 0, .int x, .int (nI n)] σ K = if 40 < nI (q + n) then K (some (.int (-3))) σ else g_inv (gCm' G (d + 5)) mX3_growInPlace [.ref 1, .int (nI s), .int (nI n)] σ fun r σ' => gw (gCm' G (d + 5)) G mX9_grow K 109 [.ref 0, .int x, .int (nI n), .int (nI s)] (r.toList ++ []) σ' := fun K => by
    by_cases c4 : 40 < nI (q + n)
    · simp +decide only [EX9_grow, BX9_grow_24, BX9_grow_71, BX9_grow_94, BX9_grow_109, BX9_grow_121, EX9_isBlockLength, EX3_quotaAllows, BX3_quotaAllows_8, usedBy_eq h, Option.toList_some, Option.toList_none, List.cons_append, List.nil_append, Nat.zero_add, Nat.reduceAdd, Option.some.injEq, Value.int.injEq, exists_eq_left', true_and, and_true, true_or, or_true, false_or, g_10, ↓reduceIte, h.1, h.2, hNow h, hReg h, hGrd h, hBlk h, hTgo h, hWlk h, hPln h, hTap h, hHol h, n1, n3, y1, f1, f4, f5, sm, b5, b4, b2, e4, e5, c3, nI_add, lt1, c4]
    · simp +decide only [EX9_grow h.1, BX9_grow_24 h.1, BX9_grow_71 h.1, BX9_grow_94 h.1, EX9_isBlockLength, EX3_quotaAllows, BX3_quotaAllows_8, usedBy_eq h, Option.toList_some, Option.toList_none, List.cons_append, List.nil_append, Nat.zero_add, Nat.reduceAdd, Option.some.injEq, Value.int.injEq, exists_eq_left', true_and, and_true, true_or, or_true, false_or, g_10, ↓reduceIte, h.1, h.2, hNow h, hReg h, hGrd h, hBlk h, hTgo h, hWlk h, hPln h, hTap h, hHol h, n1, n3, y1, f1, f4, f5, sm, b5, b4, b2, e4, e5, c3, nI_add, lt1, c4]
  rw [cl]
  by_cases c4 : 40 < nI (q + n)
  · rw [if_pos c4]
    refine ⟨_, rfl, ?_⟩
    rw [tw _ _ rfl]
    cases gFst (fun i => decide (¬ (l + q + i < la + qa ∧ σ 8 (l + q + i) = -1))) n 0 with
    | none => simp only [BX10_grow_119 h.2, c4, Option.toList_some, Option.toList_none, List.cons_append, List.nil_append, Nat.zero_add, Nat.reduceAdd, Option.some.injEq, Value.int.injEq, exists_eq_left', true_and, and_true, true_or, or_true, false_or, g_10, ↓reduceIte]; exact fin0
    | some k => simp only [BX10_grow_119 h.2, c4, Option.toList_some, Option.toList_none, List.cons_append, List.nil_append, Nat.zero_add, Nat.reduceAdd, Option.some.injEq, Value.int.injEq, exists_eq_left', true_and, and_true, true_or, or_true, false_or, g_10, ↓reduceIte]; exact fin0
  rw [if_neg c4]
  have hqn : q + n ≤ 40 := by
    rcases Nat.lt_or_ge 40 (q + n) with z | z
    · exact absurd (nI_lt (a := 40) z (by omega)) c4
    · exact z
  have inb : ∀ j, j < 240 → ((l ≤ j ∧ j < l + q) ↔ σ 8 j = nI s) := fun j hj => by
    have := (rGrd hR hj).2 s hs (by rw [hl1]; decide)
    rw [b1, b2, gN_nI (by omega), gN_nI (by omega)] at this
    exact this
  have fin : ∀ (y : gM) (c : Nat) (w : Int32), la ≤ c → c + (q + n) ≤ la + qa → (∀ j, c ≤ j → j < c + (q + n) → σ 8 j = -1 ∨ σ 8 j = nI s) → (∀ i, i ≠ 2 → i ≠ 8 → i ≠ 12 → i ≠ 13 → y i = σ i) → (∀ t, t ≠ s → y 12 t = σ 12 t ∧ y 13 t = σ 13 t) → y 12 s = nI c → y 13 s = nI (q + n) → (∀ j, j < 240 → y 8 j = if c ≤ j ∧ j < c + (q + n) then nI s else if σ 8 j = nI s then -1 else σ 8 j) → (∀ j, j < 240 → y 2 j = if c + q ≤ j ∧ j < c + q + n then 0 else if c ≤ j ∧ j < c + q then σ 2 (l + (j - c)) else σ 2 j) → gw (gCm' G (d + 5)) G mX10_grow (fun r2 σ2 => r2 = some (.int (nI (q + n))) ∧ wRel (B + 1) σ2) 119 [.ref 104, .int x, .int (nI n), .int (nI s), .int (nI (q + n)), .int w, .long 0, .long 0] [.int (nI c)] (g_ln y σ) := fun y c w k1 k2 k3 k4 k5 k6 k7 k8 k9 => by
    have y5 : y 105 = σ 105 := k4 105 (by decide) (by decide) (by decide) (by decide)
    have cn : ¬ nI c < 0 := nI_pos (by omega)
    have ge := goes_eq (G := G) (d := d + 3) (K := fun r σ' => gw (gCm' G (d + 5)) G mX10_grow (fun r2 σ2 => r2 = some (.int (nI (q + n))) ∧ wRel (B + 1) σ2) 143 [.ref 104, .int x, .int (nI n), .int (nI s), .int (nI (q + n)), .int w, .int (nI c), .long 0] (r.toList ++ []) σ') h (z := g_ln y σ) (s := s) (l := l) (q := q) (c := c) hs (by rw [ml y 2 (by decide) y5, rs2 hR _ hs, b1]) (by rw [ml y 3 (by decide) y5, rs3 hR _ hs, b2]) b8 (by omega)
    have g3 : (gGo (g_ln y σ) s l q c) 105 (s * 11 + 3) = nI q := by
      have v1 : ¬ (330 + c ≤ s * 11 + 3 ∧ s * 11 + 3 < 330 + c + q) := by omega
      have v2 : ¬ s * 11 + 3 = s * 11 + 2 := by omega
      simp only [gGo, v1, v2, ↓reduceIte]
      rw [ml y 3 (by decide) y5, rs3 hR _ hs, b2]
    have lp : ∀ K : gK, gw (gCm' G (d + 5)) G mX10_grow K 151 [.ref 104, .int x, .int (nI n), .int (nI s), .int (nI (q + n)), .int w, .int (nI c), .int (nI q)] [] (gGo (g_ln y σ) s l q c) = K (some (.int (nI (q + n)))) (g_up (g_fl (gGo (g_ln y σ) s l q c) 105 (330 + c + q) n 0) 105 (s * 11 + 3) (nI (q + n))) := fun K => by
      have : ∀ k, k ≤ n → gw (gCm' G (d + 5)) G mX10_grow K 151 [.ref 104, .int x, .int (nI n), .int (nI s), .int (nI (q + n)), .int w, .int (nI c), .int (nI q)] [] (gGo (g_ln y σ) s l q c) = gw (gCm' G (d + 5)) G mX10_grow K 151 [.ref 104, .int x, .int (nI n), .int (nI s), .int (nI (q + n)), .int w, .int (nI c), .int (nI (q + k))] [] (gFold (fun i (y : gM) => g_up y 105 (330 + c + q + i) 0) k (gGo (g_ln y σ) s l q c)) := by
        intro k
        induction k with
        | zero => intro _; rfl
        | succ k ih =>
          intro hk
          rw [ih (by omega), BX10_grow_151 h.2]
          have g1 : nI (q + k) < nI (q + n) := nI_lt (by omega) (by omega)
          have g2 : (330 : Int32) + nI c + nI (q + k) = nI (330 + c + q + k) := by rw [show (330 : Int32) = nI 330 from rfl, nI_add, nI_add]; congr 1; omega
          have g3 : vp_in (nI (330 + c + q + k)) 607 := vp_c (by omega)
          have g4 : (nI (330 + c + q + k)).toNatClampNeg = 330 + c + q + k := nI_clamp (by omega)
          simp only [g1, g2, g3, g4, Option.toList_some, Option.toList_none, List.cons_append, List.nil_append, Nat.zero_add, Nat.reduceAdd, Option.some.injEq, Value.int.injEq, exists_eq_left', true_and, and_true, true_or, or_true, false_or, g_10, ↓reduceIte, nI_1]
          rfl
      rw [this n (Nat.le_refl _), gFold_fl, BX10_grow_151 h.2]
      simp only [show ¬ nI (q + n) < nI (q + n) from nI_nlt (Nat.le_refl _) (by omega), sets_3 h hs, BX10_grow_187 h.2, Option.toList_some, Option.toList_none, List.cons_append, List.nil_append, Nat.zero_add, Nat.reduceAdd, Option.some.injEq, Value.int.injEq, exists_eq_left', true_and, and_true, true_or, or_true, false_or, g_10, ↓reduceIte]
    rw [BX10_grow_119 h.2]
    simp only [c4, cn, Option.toList_some, Option.toList_none, List.cons_append, List.nil_append, Nat.zero_add, Nat.reduceAdd, Option.some.injEq, Value.int.injEq, exists_eq_left', true_and, and_true, true_or, or_true, false_or, g_10, ↓reduceIte, ge, BX10_grow_143 h.2, BX10_grow_149 h.2, at_3 h hs, g3, lp]
    obtain ⟨v, hv⟩ : ∃ v, v = g_up (g_fl (gGo (g_ln y σ) s l q c) 105 (330 + c + q) n 0) 105 (s * 11 + 3) (nI (q + n)) := ⟨_, rfl⟩
    rw [← hv]
    have vo : ∀ i, i ≠ 105 → i ≠ 109 → i ≠ 110 → v i = y i := fun i h1 h2 h3 => by
      rw [hv, g_up_o h1, g_fl_o h1]
      funext j
      simp only [gGo, h1, h3, false_and, ↓reduceIte, g_ln_o h2]
    have vv : ∀ i, v 105 i = if i = s * 11 + 3 then nI (q + n) else if 330 + c + q ≤ i ∧ i < 330 + c + q + n then 0 else if 330 + c ≤ i ∧ i < 330 + c + q then σ 105 (330 + l + (i - (330 + c))) else if i = s * 11 + 2 then nI c else σ 105 i := fun i => by
      rw [hv, g_up_d, g_fl_d]
      simp only [↓reduceIte, gGo, g_ln_o (show (105 : Nat) ≠ 109 by decide), y5]
    have vi : ∀ i, (i < s * 11 ∨ s * 11 + 11 ≤ i) → (i < 330 ∨ 570 ≤ i) → v 105 i = σ 105 i := fun i h1 h2 => by
      rw [vv, if_neg (by omega), if_neg (by omega), if_neg (by omega), if_neg (by omega)]
    have vk : ∀ w, w < 11 → w ≠ 2 → w ≠ 3 → v 105 (s * 11 + w) = σ 105 (s * 11 + w) := fun w h1 h2 h3 => by
      rw [vv, if_neg (by omega), if_neg (by omega), if_neg (by omega), if_neg (by omega)]
    have mi : ∀ k t, k < 22 → gMem v 1 k t = y (1 + k) t := fun k t hk => by rw [gMem_k hk, vo _ (by omega) (by omega) (by omega)]
    have mo : ∀ i, i ≠ 1 → i ≠ 7 → i ≠ 11 → i ≠ 12 → gMem v 1 i = gMem σ 1 i := fun i h1 h2 h3 h4 => by
      funext t
      by_cases hi2 : i < 22
      · rw [mi i t hi2, k4 _ (by omega) (by omega) (by omega) (by omega), gMem_k hi2]
      · simp [gMem, hi2]
    have mt : ∀ k t, 9 ≤ k → k ≤ 17 → t ≠ s → gMem v 1 k t = gMem σ 1 k t := fun k t h1 h2 ht => by
      rcases (by omega : k = 11 ∨ k = 12 ∨ (k ≠ 11 ∧ k ≠ 12)) with rfl | rfl | ⟨g1, g2⟩
      · rw [mi 11 t (by decide)]; exact (k5 t ht).1
      · rw [mi 12 t (by decide)]; exact (k5 t ht).2
      · rw [mo k (by omega) (by omega) g1 g2]
    refine wRel_fr hR (by omega) (wMem_up (wMem_lay (s := s) (r := r) (c := c) (n := q + n) hR.1 hs (by show σ 11 s ≠ 0; rw [hl1]; decide) b3 b9 (by omega) hqn (by show gN (σ 4 r) ≤ c; rw [a3]; exact k1) (by show c + (q + n) ≤ gN (σ 4 r) + gN (σ 5 r); rw [a3, a4]; exact k2) k3 (fun i hi => mo i (by omega) (by omega) (by omega) (by omega)) mt ?_ ?_ (fun j hj => ?_) (wEq_sl (s := s) hR.1.2.2 hs (fun i hi => mo i (by omega) (by omega) (by omega) (by omega)) mt (fun i h1 h2 _ => vi i h1 h2) (fun i hi => ?_) ⟨?_, ?_, ?_, ?_, ?_, ?_, ?_, ?_, ?_⟩) (vi _ (by omega) (by omega)) (fun t ht => ?_)) (by omega)) (fun i hi => ?_) ?_ ?_ ?_
    · rw [mi 11 s (by decide)]; exact k6
    · rw [mi 12 s (by decide)]; exact k7
    · rw [mi 7 j (by decide)]; exact k8 j hj
    · rw [mi 1 i (by decide), vv, if_neg (by omega)]
      show _ = y 2 i
      rw [k9 i hi]
      by_cases v1 : c + q ≤ i ∧ i < c + q + n
      · rw [if_pos v1, if_pos (by omega)]
      · rw [if_neg v1, if_neg (by omega)]
        by_cases v2 : c ≤ i ∧ i < c + q
        · rw [if_pos v2, if_pos (by omega), show 330 + l + (330 + i - (330 + c)) = 330 + (l + (i - c)) by omega]
          exact r330 hR _ (by omega)
        · rw [if_neg v2, if_neg (by omega), if_neg (by omega)]
          exact r330 hR i hi
    · rw [vk _ (by decide) (by decide) (by decide), mo 10 (by decide) (by decide) (by decide) (by decide)]; exact rs0 hR s hs
    · rw [vk _ (by decide) (by decide) (by decide), mo 9 (by decide) (by decide) (by decide) (by decide)]; exact rs1 hR s hs
    · rw [vv, if_neg (by omega), if_neg (by omega), if_neg (by omega), if_pos rfl, mi 11 s (by decide)]; exact k6.symm
    · rw [vv, if_pos rfl, mi 12 s (by decide)]; exact k7.symm
    · rw [vk _ (by decide) (by decide) (by decide), mo 13 (by decide) (by decide) (by decide) (by decide)]; exact rs4 hR s hs
    · rw [vk _ (by decide) (by decide) (by decide), mo 14 (by decide) (by decide) (by decide) (by decide)]; exact rs5 hR s hs
    · rw [vk _ (by decide) (by decide) (by decide), mo 15 (by decide) (by decide) (by decide) (by decide)]; exact rs6 hR s hs
    · rw [vk _ (by decide) (by decide) (by decide), mo 16 (by decide) (by decide) (by decide) (by decide)]; exact rs7 hR s hs
    · rw [vk _ (by decide) (by decide) (by decide), mo 17 (by decide) (by decide) (by decide) (by decide)]; exact rs9 hR s hs
    · by_cases e : t = s
      · subst e; exact vk 8 (by decide) (by decide) (by decide)
      · exact vi _ (by omega) (by omega)
    · unfold gRl at hi; rw [vo i (by omega) (by omega) (by omega), k4 i (by omega) (by omega) (by omega) (by omega)]
    · rw [vo 95 (by decide) (by decide) (by decide), k4 95 (by decide) (by decide) (by decide) (by decide)]
    · rw [vo 104 (by decide) (by decide) (by decide), k4 104 (by decide) (by decide) (by decide) (by decide)]
    · rw [vo 104 (by decide) (by decide) (by decide), k4 104 (by decide) (by decide) (by decide) (by decide)]
  obtain ⟨r1, r2, r3, r4, r5⟩ := g_ix (n := 5) (show r < 5 + 1 by omega) (by decide)
  by_cases st : l + q + n ≤ la + qa ∧ gFst (fun i => decide (¬ σ 8 (l + q + i) = -1)) n 0 = none
  · obtain ⟨st1, st2⟩ := st
    have st3 : ∀ i, i < n → σ 8 (l + q + i) = -1 := fun i hi => by simpa using gFst_all.mp st2 i hi
    have st4 : gFst (fun i => decide (¬ (l + q + i < la + qa ∧ σ 8 (l + q + i) = -1))) n 0 = none := gFst_all.mpr fun i hi => by
      have := st3 i hi
      have : l + q + i < la + qa := by omega
      simp [*]
    have nh : ¬ nI (la + qa) < nI (l + q + n) := nI_nlt (by omega) (by omega)
    have fr := fun (K : gK) => isFree_eq (G := G) (d := d + 3) (K := K) h (σ := σ) (a := l + q) (n := n) (by omega)
    rw [st2] at fr
    have ft : ∀ (K : gK) (σ : gM), g_inv (gCm' G (d + 3)) mX9_fill [.ref 8, .int (nI (l + q)), .int (nI n), .int (nI s)] σ K = K none (g_fl σ 8 (l + q) n (nI s)) := fun K σ => fill_eq (aX1_0 (hGrd h)) (nX1_0 (hGrd h)) (by decide) (by omega)
    have fc : ∀ (K : gK) (σ : gM), g_inv (gCm' G (d + 4)) mX9_fill [.ref 2, .int (nI (l + q)), .int (nI n), .int 0] σ K = K none (g_fl σ 2 (l + q) n 0) := fun K σ => fill_eq (aX3_1 (hNow h)) (nX3_1 (hNow h)) (by decide) (by omega)
    obtain ⟨y, hy⟩ : ∃ y, y = g_up (g_fl (g_fl σ 8 (l + q) n (nI s)) 2 (l + q) n 0) 13 s (nI (q + n)) := ⟨_, rfl⟩
    have y13 : y 13 s = nI (q + n) := by rw [hy, g_up_3]
    simp +decide only [EX3_growInPlace, BX3_growInPlace_39, BX3_growInPlace_53, BX3_growInPlace_68, BX3_growInPlace_78, EX5_highOf, EX1_take, BX1_take_10, Option.toList_some, Option.toList_none, List.cons_append, List.nil_append, Nat.zero_add, Nat.reduceAdd, Option.some.injEq, Value.int.injEq, exists_eq_left', true_and, and_true, true_or, or_true, false_or, g_10, ↓reduceIte, g_up_d, Nat.reduceEqDiff, h.1, h.2, hNow h, hReg h, hGrd h, hBlk h, hTgo h, hWlk h, hPln h, hTap h, hHol h, g_fl_d, f4, f5, r4, r5, b1, b2, b3, a1, a2, nI_add, nh, fr, ft, fc]
    rw [← hy]
    simp +decide only [BX9_grow_109 h.1, Option.toList_some, Option.toList_none, List.cons_append, List.nil_append, Nat.zero_add, Nat.reduceAdd, Option.some.injEq, Value.int.injEq, exists_eq_left', true_and, and_true, true_or, or_true, false_or, g_10, ↓reduceIte, h.1, h.2, hNow h, hReg h, hGrd h, hBlk h, hTgo h, hWlk h, hPln h, hTap h, hHol h, f4, f5, y13]
    rw [tw y _ (by rw [hy, g_up_o (by decide), g_fl_o (by decide), g_fl_o (by decide)]), st4]
    refine fin y l 1 b13 (by omega) (fun j h1 h2 => ?_) (fun i h1 h2 h3 h4 => by rw [hy, g_up_o h4, g_fl_o h1, g_fl_o h2]) (fun t ht => ⟨by rw [hy, g_up_o (by decide), g_fl_o (by decide), g_fl_o (by decide)], by rw [hy, g_up_2 ht, g_fl_o (by decide), g_fl_o (by decide)]⟩) (by rw [hy, g_up_o (by decide), g_fl_o (by decide), g_fl_o (by decide)]; exact b1) y13 (fun j hj => ?_) (fun j hj => ?_)
    · by_cases v1 : j < l + q
      · exact Or.inr ((inb j (by omega)).mp ⟨h1, v1⟩)
      · have := st3 (j - (l + q)) (by omega)
        rw [show l + q + (j - (l + q)) = j by omega] at this
        exact Or.inl this
    · rw [hy, g_up_o (by decide), g_fl_o (by decide), g_fl_d, if_pos rfl]
      by_cases v1 : l + q ≤ j ∧ j < l + q + n
      · rw [if_pos v1, if_pos (by omega)]
      · rw [if_neg v1]
        by_cases v2 : σ 8 j = nI s
        · have := (inb j hj).mpr v2
          rw [if_pos (by omega)]; exact v2
        · have : ¬ (l ≤ j ∧ j < l + (q + n)) := fun z => by
            by_cases v3 : j < l + q
            · exact v2 ((inb j hj).mp ⟨z.1, v3⟩)
            · exact v1 ⟨by omega, by omega⟩
          rw [if_neg this, if_neg v2]
    · rw [hy, g_up_o (by decide), g_fl_d, if_pos rfl, g_fl_o (by decide)]
      by_cases v1 : l + q ≤ j ∧ j < l + q + n
      · rw [if_pos v1, if_pos v1]
      · rw [if_neg v1, if_neg v1]
        by_cases v2 : l ≤ j ∧ j < l + q
        · rw [if_pos v2, show l + (j - l) = j by omega]
        · rw [if_neg v2]
  · have st4 : ∃ k, gFst (fun i => decide (¬ (l + q + i < la + qa ∧ σ 8 (l + q + i) = -1))) n 0 = some k := by
      cases hk : gFst (fun i => decide (¬ (l + q + i < la + qa ∧ σ 8 (l + q + i) = -1))) n 0 with
      | some k => exact ⟨k, rfl⟩
      | none =>
        exfalso
        have hall := gFst_all.mp hk
        refine st ⟨?_, gFst_all.mpr fun i hi => ?_⟩
        · have := hall (n - 1) (by omega)
          simp only [decide_eq_false_iff_not, Classical.not_not] at this
          omega
        · have := hall i hi
          simp only [decide_eq_false_iff_not, Classical.not_not] at this
          simp [this.2]
    obtain ⟨kk, st4⟩ := st4
    have gip : ∀ K : gK, g_inv (gCm' G (d + 5)) mX3_growInPlace [.ref 1, .int (nI s), .int (nI n)] σ K = K (some (.int 0)) σ := fun K => by
      by_cases nh : nI (la + qa) < nI (l + q + n)
      · simp +decide only [EX3_growInPlace, BX3_growInPlace_39, BX3_growInPlace_53, BX3_growInPlace_68, BX3_growInPlace_78, EX5_highOf, Option.toList_some, Option.toList_none, List.cons_append, List.nil_append, Nat.zero_add, Nat.reduceAdd, Option.some.injEq, Value.int.injEq, exists_eq_left', true_and, and_true, true_or, or_true, false_or, g_10, ↓reduceIte, h.1, h.2, hNow h, hReg h, hGrd h, hBlk h, hTgo h, hWlk h, hPln h, hTap h, hHol h, f4, f5, r4, r5, b1, b2, b3, a1, a2, nI_add, nh]
      · have hle : l + q + n ≤ la + qa := by
          rcases Nat.lt_or_ge (la + qa) (l + q + n) with z | z
          · exact absurd (nI_lt z (by omega)) nh
          · exact z
        have fr := fun (K : gK) => isFree_eq (G := G) (d := d + 3) (K := K) h (σ := σ) (a := l + q) (n := n) (by omega)
        cases hk : gFst (fun i => decide (¬ σ 8 (l + q + i) = -1)) n 0 with
        | none => exact absurd ⟨hle, hk⟩ st
        | some k =>
          rw [hk] at fr
          simp +decide only [EX3_growInPlace, BX3_growInPlace_39, BX3_growInPlace_53, BX3_growInPlace_68, BX3_growInPlace_78, EX5_highOf, Option.toList_some, Option.toList_none, List.cons_append, List.nil_append, Nat.zero_add, Nat.reduceAdd, Option.some.injEq, Value.int.injEq, exists_eq_left', true_and, and_true, true_or, or_true, false_or, g_10, ↓reduceIte, h.1, h.2, hNow h, hReg h, hGrd h, hBlk h, hTgo h, hWlk h, hPln h, hTap h, hHol h, f4, f5, r4, r5, b1, b2, b3, a1, a2, nI_add, nh, fr]
    rw [gip]
    cases hp : gPl (σ 8) la qa (gIs (σ 6 r) 0) (q + n) with
    | none =>
      rw [hp] at pf
      have pf : ∀ K : gK, g_inv (gCm' G (d + 4)) mX3_placeFor [.ref 1, .int (nI r), .int (nI (q + n))] σ K = K (some (.int (-1))) σ := pf
      simp +decide only [BX9_grow_109 h.1, BX9_grow_121 h.1, EX3_growElsewhere, BX3_growElsewhere_26, BX3_growElsewhere_43, BX3_growElsewhere_55, BX3_growElsewhere_68, BX3_growElsewhere_81, Option.toList_some, Option.toList_none, List.cons_append, List.nil_append, Nat.zero_add, Nat.reduceAdd, Option.some.injEq, Value.int.injEq, exists_eq_left', true_and, and_true, true_or, or_true, false_or, g_10, ↓reduceIte, h.1, h.2, hNow h, hReg h, hGrd h, hBlk h, hTgo h, hWlk h, hPln h, hTap h, hHol h, f4, f5, b2, b3, nI_add, pf]
      rw [tw _ _ rfl, st4, hp]
      simp +decide only [BX10_grow_119 h.2, c4, gAns, Option.toList_some, Option.toList_none, List.cons_append, List.nil_append, Nat.zero_add, Nat.reduceAdd, Option.some.injEq, Value.int.injEq, exists_eq_left', true_and, and_true, true_or, or_true, false_or, g_10, ↓reduceIte]
      exact fin0
    | some c =>
      rw [hp] at pf
      have pf : ∀ K : gK, g_inv (gCm' G (d + 4)) mX3_placeFor [.ref 1, .int (nI r), .int (nI (q + n))] σ K = K (some (.int (nI c))) σ := pf
      obtain ⟨v1, v2, v3⟩ := gPl_some (by omega) hp
      have vm := g_m1 (j := c) (by omega)
      have la' : ∀ K : gK, g_inv (gCm' G (d + 4)) mX3_layAt [.ref 1, .int (nI s), .int (nI c)] σ K = K none (gLay σ 1 s l q c) := fun K => lay_eq (hNow h) hs b1 b2 b8 (by omega)
      have ft : ∀ (K : gK) (σ : gM), g_inv (gCm' G (d + 3)) mX9_fill [.ref 8, .int (nI (c + q)), .int (nI n), .int (nI s)] σ K = K none (g_fl σ 8 (c + q) n (nI s)) := fun K σ => fill_eq (aX1_0 (hGrd h)) (nX1_0 (hGrd h)) (by decide) (by omega)
      have fc : ∀ (K : gK) (σ : gM), g_inv (gCm' G (d + 4)) mX9_fill [.ref 2, .int (nI (c + q)), .int (nI n), .int 0] σ K = K none (g_fl σ 2 (c + q) n 0) := fun K σ => fill_eq (aX3_1 (hNow h)) (nX3_1 (hNow h)) (by decide) (by omega)
      obtain ⟨y, hy⟩ : ∃ y, y = g_fl (g_fl (g_up (gLay σ 1 s l q c) 13 s (nI (q + n))) 8 (c + q) n (nI s)) 2 (c + q) n 0 := ⟨_, rfl⟩
      have y13 : y 13 s = nI (q + n) := by rw [hy, g_fl_o (by decide), g_fl_o (by decide), g_up_3]
      simp +decide only [BX9_grow_109 h.1, EX3_growElsewhere, BX3_growElsewhere_26, BX3_growElsewhere_43, BX3_growElsewhere_55, BX3_growElsewhere_68, BX3_growElsewhere_81, EX1_take, BX1_take_10, Option.toList_some, Option.toList_none, List.cons_append, List.nil_append, Nat.zero_add, Nat.reduceAdd, Option.some.injEq, Value.int.injEq, exists_eq_left', true_and, and_true, true_or, or_true, false_or, g_10, ↓reduceIte, h.1, h.2, hNow h, hReg h, hGrd h, hBlk h, hTgo h, hWlk h, hPln h, hTap h, hHol h, f4, f5, b2, b3, nI_add, pf, vm, la', ft, fc]
      rw [← hy]
      simp +decide only [BX9_grow_121 h.1, Option.toList_some, Option.toList_none, List.cons_append, List.nil_append, Nat.zero_add, Nat.reduceAdd, Option.some.injEq, Value.int.injEq, exists_eq_left', true_and, and_true, true_or, or_true, false_or, g_10, ↓reduceIte, h.1, h.2, hNow h, hReg h, hGrd h, hBlk h, hTgo h, hWlk h, hPln h, hTap h, hHol h, f4, f5, y13]
      have yl : ∀ i, i ≠ 2 → i ≠ 8 → i ≠ 12 → i ≠ 13 → y i = σ i := fun i h1 h2 h3 h4 => by
        rw [hy, g_fl_o h1, g_fl_o h2, g_up_o h4]
        unfold gLay
        rw [g_up_o h3, g_fl_o h2, g_fl_o h2]
        funext j
        unfold g_cp
        rw [if_neg (fun z => h1 z.1)]
      rw [tw y _ (yl 105 (by decide) (by decide) (by decide) (by decide)), st4, hp]
      refine fin y c 0 v1 (by omega) (fun j h1 h2 => Or.inl (v3 j h1 h2)) yl (fun t ht => ⟨?_, ?_⟩) ?_ y13 (fun j hj => ?_) (fun j hj => ?_)
      · rw [hy, g_fl_o (by decide), g_fl_o (by decide), g_up_o (by decide)]
        unfold gLay
        rw [g_up_2 ht, g_fl_o (by decide), g_fl_o (by decide)]
        unfold g_cp
        rw [if_neg (by omega)]
      · rw [hy, g_fl_o (by decide), g_fl_o (by decide), g_up_2 ht]
        unfold gLay
        rw [g_up_o (by decide), g_fl_o (by decide), g_fl_o (by decide)]
        unfold g_cp
        rw [if_neg (by omega)]
      · rw [hy, g_fl_o (by decide), g_fl_o (by decide), g_up_o (by decide)]
        unfold gLay
        rw [g_up_3]
      · rw [hy, g_fl_o (by decide), g_fl_d, if_pos rfl, g_up_o (by decide)]
        unfold gLay
        rw [g_up_o (by decide), g_fl_d, if_pos rfl, g_fl_d, if_pos rfl]
        unfold g_cp
        rw [if_neg (show ¬ ((8 : Nat) = 1 + 1 ∧ _) from fun z => absurd z.1 (by decide))]
        by_cases w1 : c + q ≤ j ∧ j < c + q + n
        · rw [if_pos w1, if_pos (by omega)]
        · rw [if_neg w1]
          by_cases w2 : c ≤ j ∧ j < c + q
          · rw [if_pos w2, if_pos (by omega)]
          · rw [if_neg w2, if_neg (show ¬ (c ≤ j ∧ j < c + (q + n)) by omega)]
            by_cases w3 : l ≤ j ∧ j < l + q
            · rw [if_pos w3, if_pos ((inb j hj).mp w3)]
            · rw [if_neg w3, if_neg (fun z => w3 ((inb j hj).mpr z))]
      · rw [hy, g_fl_d, if_pos rfl, g_fl_o (by decide), g_up_o (by decide)]
        unfold gLay
        rw [g_up_o (by decide), g_fl_o (by decide), g_fl_o (by decide)]
        unfold g_cp
        by_cases w1 : c + q ≤ j ∧ j < c + q + n
        · rw [if_pos w1, if_pos w1]
        · rw [if_neg w1, if_neg w1]
          by_cases w2 : c ≤ j ∧ j < c + q
          · rw [if_pos ⟨rfl, w2⟩, if_pos w2]
          · rw [if_neg (fun z => w2 z.2), if_neg w2]
end O37
