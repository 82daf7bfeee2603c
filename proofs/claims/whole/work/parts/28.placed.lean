section O28
variable {G : gG} {d B : Nat} {σ : gM} {K : gK}
theorem has_eq (h : gOK G) (hR : wRel B σ) {a : Int32} : g_inv (gCm' G (d + 1)) mX5_has [.ref 3, .int a] σ K = if a < 0 then K (some (.int 0)) σ else if a < nI (gN (σ 3 0)) then K (some (.int 1)) σ else K (some (.int 0)) σ := by
  obtain ⟨n, hn⟩ : ∃ n, n = gN (σ 3 0) := ⟨_, rfl⟩
  have en : σ 3 0 = nI n := by rw [hn]; exact hR.1.1.1.1.1
  have n6 : n ≤ 6 := by rw [hn]; exact hR.1.1.1.1.2
  rw [← hn]
  by_cases c1 : a < 0
  · simp only [EX5_has, Option.toList_some, Option.toList_none, List.cons_append, List.nil_append, Nat.zero_add, Nat.reduceAdd, Option.some.injEq, Value.int.injEq, exists_eq_left', true_and, and_true, true_or, or_true, false_or, g_10, ↓reduceIte, h.1, h.2, hNow h, hReg h, hGrd h, hBlk h, hTgo h, hWlk h, hPln h, hTap h, hHol h, c1]
  · obtain ⟨k, hk, rfl⟩ := nI_of c1
    by_cases c2 : k < n
    · have g1 : nI k < nI n := nI_lt c2 (by omega)
      have g2 : nI k < 6 := nI_lt (b := 6) (by omega) (by decide)
      simp only [EX5_has, Option.toList_some, Option.toList_none, List.cons_append, List.nil_append, Nat.zero_add, Nat.reduceAdd, Option.some.injEq, Value.int.injEq, exists_eq_left', true_and, and_true, true_or, or_true, false_or, g_10, ↓reduceIte, h.1, h.2, hNow h, hReg h, hGrd h, hBlk h, hTgo h, hWlk h, hPln h, hTap h, hHol h, c1, en, g1, g2]
    · have g1 : ¬ nI k < nI n := nI_nlt (by omega) hk
      simp only [EX5_has, Option.toList_some, Option.toList_none, List.cons_append, List.nil_append, Nat.zero_add, Nat.reduceAdd, Option.some.injEq, Value.int.injEq, exists_eq_left', true_and, and_true, true_or, or_true, false_or, g_10, ↓reduceIte, h.1, h.2, hNow h, hReg h, hGrd h, hBlk h, hTgo h, hWlk h, hPln h, hTap h, hHol h, c1, en, g1]
theorem isReg_eq (h : gOK G) (hR : wRel B σ) {z : gM} (hz : z 105 = σ 105) {a : Int32} : g_inv (gCm' G (d + 2)) mX10_isRegion [.ref 104, .int a] z K = if a < 0 then K (some (.int 0)) z else if a < nI (gN (σ 3 0)) then K (some (.int 1)) z else K (some (.int 0)) z := by
  obtain ⟨n, hn⟩ : ∃ n, n = gN (σ 3 0) := ⟨_, rfl⟩
  have en : σ 3 0 = nI n := by rw [hn]; exact hR.1.1.1.1.1
  have n6 : n ≤ 6 := by rw [hn]; exact hR.1.1.1.1.2
  rw [← hn]
  by_cases c1 : a < 0
  · simp only [EX10_isRegion, BX10_isRegion_15, EX10_in, Option.toList_some, Option.toList_none, List.cons_append, List.nil_append, Nat.zero_add, Nat.reduceAdd, Option.some.injEq, Value.int.injEq, exists_eq_left', true_and, and_true, true_or, or_true, false_or, g_10, ↓reduceIte, h.1, h.2, hNow h, hReg h, hGrd h, hBlk h, hTgo h, hWlk h, hPln h, hTap h, hHol h, c1, vp570, cl570, hz, r570 hR, en]
  · obtain ⟨k, hk, rfl⟩ := nI_of c1
    by_cases c2 : k < n
    · have g1 : nI k < nI n := nI_lt c2 (by omega)
      have g2 : ¬ nI (n - 1) < nI k := nI_nlt (by omega) (by omega)
      simp only [EX10_isRegion, BX10_isRegion_15, EX10_in, Option.toList_some, Option.toList_none, List.cons_append, List.nil_append, Nat.zero_add, Nat.reduceAdd, Option.some.injEq, Value.int.injEq, exists_eq_left', true_and, and_true, true_or, or_true, false_or, g_10, ↓reduceIte, h.1, h.2, hNow h, hReg h, hGrd h, hBlk h, hTgo h, hWlk h, hPln h, hTap h, hHol h, c1, vp570, cl570, hz, r570 hR, en, g_pred (show 1 ≤ n by omega), g1, g2]
    · have g1 : ¬ nI k < nI n := nI_nlt (by omega) hk
      have g2 : nI n - 1 < nI k := by
        by_cases e : n = 0
        · subst e
          rw [Int32.lt_iff_toInt_lt, nI_toInt hk, show (nI 0 - 1).toInt = -1 by decide]; omega
        · rw [g_pred (by omega)]; exact nI_lt (by omega) hk
      simp only [EX10_isRegion, BX10_isRegion_15, EX10_in, Option.toList_some, Option.toList_none, List.cons_append, List.nil_append, Nat.zero_add, Nat.reduceAdd, Option.some.injEq, Value.int.injEq, exists_eq_left', true_and, and_true, true_or, or_true, false_or, g_10, ↓reduceIte, h.1, h.2, hNow h, hReg h, hGrd h, hBlk h, hTgo h, hWlk h, hPln h, hTap h, hHol h, c1, vp570, cl570, hz, r570 hR, en, g1, g2]
/-- the three ways in which a region's number can be -/
theorem reg_cases (hR : wRel B σ) (a : Int32) : (a < 0 ∨ ¬ a < 0 ∧ ¬ a < nI (gN (σ 3 0))) ∨ ∃ r, r < gN (σ 3 0) ∧ a = nI r ∧ ¬ nI r < 0 ∧ nI r < nI (gN (σ 3 0)) := by
  have n6 : gN (σ 3 0) ≤ 6 := hR.1.1.1.1.2
  by_cases c1 : a < 0
  · exact Or.inl (Or.inl c1)
  · obtain ⟨k, hk, rfl⟩ := nI_of c1
    by_cases c2 : k < gN (σ 3 0)
    · exact Or.inr ⟨k, c2, rfl, c1, nI_lt c2 (by omega)⟩
    · exact Or.inl (Or.inr ⟨c1, nI_nlt (by omega) hk⟩)
theorem placeFor_eq (h : gOK G) (hR : wRel B σ) {r n : Nat} (hr : r < gN (σ 3 0)) (hn : 1 ≤ n) (hn2 : n ≤ 200) : g_inv (gCm' G (d + 3)) mX3_placeFor [.ref 1, .int (nI r), .int (nI n)] σ K = K (some (.int (gAns (gPl (σ 8) (gN (σ 4 r)) (gN (σ 5 r)) (gIs (σ 6 r) 0) n) (-1)))) σ := by
  obtain ⟨h6, l, q, a1, a2, a3, a4, a5, a6, a7, a8⟩ := rReg hR hr
  have key : ∀ K : gK, g_inv (gCm' G (d + 2)) mX1_placeIn [.ref 7, .ref 3, .int (nI r), .int (nI n)] σ K = K (some (.int (gAns (gPl (σ 8) l q (gIs (σ 6 r) 0) n) (-1)))) σ := fun K => placeIn_eq (hGrd h) (hReg h) h6 a1 a2 a8 (by omega) a7 hn hn2
  simp only [EX3_placeFor, BX3_placeFor_13, Option.toList_some, Option.toList_none, List.cons_append, List.nil_append, Nat.zero_add, Nat.reduceAdd, Option.some.injEq, Value.int.injEq, exists_eq_left', true_and, and_true, true_or, or_true, false_or, g_10, ↓reduceIte, h.1, h.2, hNow h, hReg h, hGrd h, hBlk h, hTgo h, hWlk h, hPln h, hTap h, hHol h, key, a3, a4]
theorem placed_eq (h : gOK G) (hR : wRel B σ) {z : gM} (hz : z 105 = σ 105) {S : Nat → Int32} {r n : Nat} (hr : r < gN (σ 3 0)) (hS : ∀ c, gN (σ 4 r) ≤ c → c < gN (σ 4 r) + gN (σ 5 r) → (z 109 c = 100 ↔ S c = -1)) (hn : 1 ≤ n) (hn2 : n ≤ 200) : g_inv (gCm' G (d + 2)) mX10_placed [.ref 104, .int (nI r), .int (nI n)] z K = K (some (.int (gAns (gPl S (gN (σ 4 r)) (gN (σ 5 r)) (gIs (σ 6 r) 0) n) (-2)))) z := by
  obtain ⟨h6, l, q, a1, a2, a3, a4, a5, a6, a7, a8⟩ := rReg hR hr
  rw [a3, a4] at hS ⊢
  have ea : (571 : Int32) + nI r = nI (571 + r) := nI_add 571 r
  have eb : (577 : Int32) + nI r = nI (577 + r) := nI_add 577 r
  have eg : (583 : Int32) + nI r = nI (583 + r) := nI_add 583 r
  have ec : vp_in (nI (571 + r)) 607 := vp_c (by omega)
  have ed : (nI (571 + r)).toNatClampNeg = 571 + r := nI_clamp (by omega)
  have ee : vp_in (nI (577 + r)) 607 := vp_c (by omega)
  have ef : (nI (577 + r)).toNatClampNeg = 577 + r := nI_clamp (by omega)
  have eh : vp_in (nI (583 + r)) 607 := vp_c (by omega)
  have ei : (nI (583 + r)).toNatClampNeg = 583 + r := nI_clamp (by omega)
  have hend : ∀ K : gK, g_inv (gCm' G (d + 1)) mX10_end [.ref 104, .int (nI r)] z K = K (some (.int (nI (l + q)))) z := fun K => by rw [mEnd_eq h hR hz hr, a3, a4]
  rw [EX10_placed h.2]
  simp only [eg, eh, ei, hz, r583 hR _ h6, Option.toList_some, Option.toList_none, List.cons_append, List.nil_append, Nat.zero_add, Nat.reduceAdd, Option.some.injEq, Value.int.injEq, exists_eq_left', true_and, and_true, true_or, or_true, false_or, g_10, ↓reduceIte]
  rcases a8 with a8 | a8
  · have hb : gIs (σ 6 r) 0 = true := by rw [a8]; rfl
    rw [hb, if_pos a8]
    refine Eq.trans (g_find (W := fun i (v : Value) => gw (gCm' G (d + 1)) G mX10_placed K 25 [.ref 104, .int (nI r), .int (nI n), .int 1, .int (nI (gRun S (fun i => l + i) i)), .int (nI i), v] [] z) (F := fun i _ => .int (nI (l + i))) (c := fun i => decide (gRun S (fun i => l + i) (i + 1) = n)) (R := fun k => K (some (.int (nI (l + k + 1 - n)))) z) (E := K (some (.int (-2))) z) (L := q) (fun i hi v => ?_) (fun v => ?_) (.long 0)) ?_
    · rw [BX10_placed_25 h.2]
      have g1 : nI i < nI q := nI_lt (by omega) (by omega)
      have g2 : vp_in (nI (l + i)) 240 := vp_in_nI (by omega) (by decide)
      have g3 : (nI (l + i)).toNatClampNeg = l + i := nI_clamp (by omega)
      have gl := gRun_le (S := S) (pos := fun i => l + i) (i + 1)
      have gv : gRun S (fun i => l + i) (i + 1) = n → nI (l + i) - nI n + 1 = nI (l + i + 1 - n) := fun e => by
        rw [Int32.sub_eq_add_neg, Int32.add_assoc, Int32.add_comm (-nI n) 1, ← Int32.add_assoc, ← Int32.sub_eq_add_neg, nI_1, pk_sub (by omega)]
      have hSc := hS (l + i) (by omega) (by omega)
      by_cases c : S (l + i) = -1
      · have e1 : gRun S (fun i => l + i) (i + 1) = gRun S (fun i => l + i) i + 1 := by
          show (if _ then _ else _) = _; rw [if_pos c]
        have c' := hSc.mpr c
        simp +decide only [ea, eb, ec, ed, ee, ef, hz, r571 hR _ h6, r577 hR _ h6, a1, a2, g1, g2, g3, c', nI_add, Option.toList_some, Option.toList_none, List.cons_append, List.nil_append, Nat.zero_add, Nat.reduceAdd, Option.some.injEq, Value.int.injEq, exists_eq_left', true_and, and_true, true_or, or_true, false_or, g_10, ↓reduceIte, BX10_placed_70 h.2, BX10_placed_92 h.2, nI_1]
        rw [← e1]
        by_cases e2 : gRun S (fun i => l + i) (i + 1) = n
        · have e3 : nI (gRun S (fun i => l + i) (i + 1)) = nI n := by rw [e2]
          rw [if_pos e3, gv e2]
          simp only [e2, decide_true, ↓reduceIte]
        · have e3 : ¬ nI (gRun S (fun i => l + i) (i + 1)) = nI n := fun z => e2 ((nI_eq (by omega) (by omega)).mp z)
          rw [if_neg e3]
          simp only [e2, decide_false, Bool.false_eq_true, ↓reduceIte]
      · have e1 : gRun S (fun i => l + i) (i + 1) = 0 := by
          show (if _ then _ else _) = _; rw [if_neg c]
        have c' : ¬ z 109 (l + i) = 100 := fun z => c (hSc.mp z)
        have e3 : ¬ (0 : Int32) = nI n := fun z => by have := (nI_eq (a := 0) (by omega) (by omega)).mp z; omega
        have e4 : ¬ (0 : Nat) = n := by omega
        simp +decide only [ea, eb, ec, ed, ee, ef, hz, r571 hR _ h6, r577 hR _ h6, a1, a2, g1, g2, g3, c', nI_add, Option.toList_some, Option.toList_none, List.cons_append, List.nil_append, Nat.zero_add, Nat.reduceAdd, Option.some.injEq, Value.int.injEq, exists_eq_left', true_and, and_true, true_or, or_true, false_or, g_10, ↓reduceIte, BX10_placed_70 h.2, BX10_placed_92 h.2, nI_1, e1, e3, e4, decide_false, Bool.false_eq_true]
        rfl
    · rw [BX10_placed_25 h.2]
      simp only [eb, ee, ef, hz, r577 hR _ h6, a2, show ¬ nI q < nI q from nI_nlt (Nat.le_refl _) (by omega), Option.toList_some, Option.toList_none, List.cons_append, List.nil_append, Nat.zero_add, Nat.reduceAdd, Option.some.injEq, Value.int.injEq, exists_eq_left', true_and, and_true, true_or, or_true, false_or, g_10, ↓reduceIte]
    · unfold gPl gAns
      rw [if_pos rfl]
      cases gFst (fun i => decide (gRun S (fun i => l + i) (i + 1) = n)) q 0 <;> rfl
  · have hb : gIs (σ 6 r) 0 = false := by rw [a8]; rfl
    rw [hb, a8, if_neg (show ¬ (1 : Int32) = 0 by decide)]
    refine Eq.trans (g_find (W := fun i (v : Value) => gw (gCm' G (d + 1)) G mX10_placed K 25 [.ref 104, .int (nI r), .int (nI n), .int 0, .int (nI (gRun S (fun i => l + q - 1 - i) i)), .int (nI i), v] [] z) (F := fun i _ => .int (nI (l + q - 1 - i))) (c := fun i => decide (gRun S (fun i => l + q - 1 - i) (i + 1) = n)) (R := fun k => K (some (.int (nI (l + q - 1 - k)))) z) (E := K (some (.int (-2))) z) (L := q) (fun i hi v => ?_) (fun v => ?_) (.long 0)) ?_
    · rw [BX10_placed_25 h.2]
      have g1 : nI i < nI q := nI_lt (by omega) (by omega)
      have g2 : vp_in (nI (l + q - 1 - i)) 240 := vp_in_nI (by omega) (by decide)
      have g3 : (nI (l + q - 1 - i)).toNatClampNeg = l + q - 1 - i := nI_clamp (by omega)
      have g4 : nI (l + q - 1) - nI i = nI (l + q - 1 - i) := pk_sub (by omega)
      have gl := gRun_le (S := S) (pos := fun i => l + q - 1 - i) (i + 1)
      have hSc := hS (l + q - 1 - i) (by omega) (by omega)
      by_cases c : S (l + q - 1 - i) = -1
      · have e1 : gRun S (fun i => l + q - 1 - i) (i + 1) = gRun S (fun i => l + q - 1 - i) i + 1 := by
          show (if _ then _ else _) = _; rw [if_pos c]
        have c' := hSc.mpr c
        simp +decide only [eb, ee, ef, hz, r577 hR _ h6, a2, g1, g2, g3, g4, c', hend, g_pred (show 1 ≤ l + q by omega), Option.toList_some, Option.toList_none, List.cons_append, List.nil_append, Nat.zero_add, Nat.reduceAdd, Option.some.injEq, Value.int.injEq, exists_eq_left', true_and, and_true, true_or, or_true, false_or, g_10, ↓reduceIte, BX10_placed_65 h.2, BX10_placed_70 h.2, BX10_placed_92 h.2, nI_1]
        rw [← e1]
        by_cases e2 : gRun S (fun i => l + q - 1 - i) (i + 1) = n
        · have e3 : nI (gRun S (fun i => l + q - 1 - i) (i + 1)) = nI n := by rw [e2]
          rw [if_pos e3]
          simp only [e2, decide_true, ↓reduceIte]
        · have e3 : ¬ nI (gRun S (fun i => l + q - 1 - i) (i + 1)) = nI n := fun z => e2 ((nI_eq (by omega) (by omega)).mp z)
          rw [if_neg e3]
          simp only [e2, decide_false, Bool.false_eq_true, ↓reduceIte]
      · have e1 : gRun S (fun i => l + q - 1 - i) (i + 1) = 0 := by
          show (if _ then _ else _) = _; rw [if_neg c]
        have c' : ¬ z 109 (l + q - 1 - i) = 100 := fun z => c (hSc.mp z)
        have e3 : ¬ (0 : Int32) = nI n := fun z => by have := (nI_eq (a := 0) (by omega) (by omega)).mp z; omega
        have e4 : ¬ (0 : Nat) = n := by omega
        simp +decide only [eb, ee, ef, hz, r577 hR _ h6, a2, g1, g2, g3, g4, c', hend, g_pred (show 1 ≤ l + q by omega), Option.toList_some, Option.toList_none, List.cons_append, List.nil_append, Nat.zero_add, Nat.reduceAdd, Option.some.injEq, Value.int.injEq, exists_eq_left', true_and, and_true, true_or, or_true, false_or, g_10, ↓reduceIte, BX10_placed_65 h.2, BX10_placed_70 h.2, BX10_placed_92 h.2, nI_1, e1, e3, e4, decide_false, Bool.false_eq_true]
        rfl
    · rw [BX10_placed_25 h.2]
      simp only [eb, ee, ef, hz, r577 hR _ h6, a2, show ¬ nI q < nI q from nI_nlt (Nat.le_refl _) (by omega), Option.toList_some, Option.toList_none, List.cons_append, List.nil_append, Nat.zero_add, Nat.reduceAdd, Option.some.injEq, Value.int.injEq, exists_eq_left', true_and, and_true, true_or, or_true, false_or, g_10, ↓reduceIte]
    · unfold gPl gAns
      rw [if_neg (by decide)]
      cases gFst (fun i => decide (gRun S (fun i => l + q - 1 - i) (i + 1) = n)) q 0 <;> rfl
/-- in a region, what is free is so in both -/
theorem ln_free (hR : wRel B σ) {z : gM} {r c : Nat} (hr : r < gN (σ 3 0)) (h1 : gN (σ 4 r) ≤ c) (h2 : c < gN (σ 4 r) + gN (σ 5 r)) : (g_ln z σ) 109 c = 100 ↔ σ 8 c = -1 := by
  obtain ⟨h6, l, q, a1, a2, a3, a4, a5, a6, a7, a8⟩ := rReg hR hr
  have hc : c < 240 := by omega
  have e : (g_ln z σ) 109 c = gLain σ c := by unfold g_ln; rw [if_pos ⟨rfl, hc⟩]
  rw [e]
  unfold gLain
  have hce : c < gEnd σ (gN (σ 3 0)) := by
    have : ∀ k, r < k → k ≤ gN (σ 3 0) → c < gEnd σ k := by
      intro k
      induction k with
      | zero => intro h; omega
      | succ k ih =>
        intro h3 h4
        obtain ⟨s1, s2, s3⟩ := gEnd_s hR (k := k) (by omega)
        by_cases e : r = k
        · subst e; omega
        · have := ih (by omega) (by omega); omega
    exact this _ hr (Nat.le_refl _)
  rcases (rGrd hR hc).1 with q1 | ⟨s, hs, q1, q2⟩
  · rw [if_pos q1, if_pos hce]; exact ⟨fun _ => q1, fun _ => rfl⟩
  · have : ¬ nI s = -1 := g_m1 (by omega)
    have h100 : ¬ nI s = 100 := fun z => by have := (nI_eq (b := 100) (by omega) (by omega)).mp z; omega
    rw [q2, if_neg this]
    exact ⟨fun z => absurd z h100, fun z => absurd z this⟩
end O28
