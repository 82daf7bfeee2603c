section O60
variable {G0 G : gG} {aS L i B : Nat} {σ : gM} {Q : gK}
theorem law_both {σ2 : gM} (s2 : ∀ b, 126 ≤ b → σ2 b = σ b) : gMg tA σ2 (gMg cA σ2 σ) = σ2 := by
  funext c
  unfold gMg
  by_cases e : tA c = true
  · rw [if_pos e]
  · rw [if_neg e]
    by_cases e2 : cA c = true
    · rw [if_pos e2]
    · rw [if_neg e2]
      unfold tA at e
      unfold cA at e2
      simp only [decide_eq_true_eq] at e e2
      exact (s2 c (by omega)).symm
theorem law_ag {σ2 : gM} : gAg tA (gMg cA σ2 σ) σ := fun c hc => by
  unfold gMg
  rw [if_neg]
  unfold tA at hc
  unfold cA
  simp only [decide_eq_true_eq] at hc ⊢
  omega
theorem law_ix {j : Nat} (hi : i + 4 ≤ L) (hL : L ≤ 2048) (hj : j < 4) : nI i + nI j = nI (i + j) ∧ vp_in (nI (i + j)) L ∧ (nI (i + j)).toNatClampNeg = i + j := ⟨nI_add i j, vp_in_nI (by omega) (by omega), nI_clamp (by omega)⟩
theorem lc_0 (h : gOK G0) (hc : gSep G0) (hs : (G aS).1 = 13) (hn : (G aS).2.1 = L) (hx : isX9 G 0) (hm : isX10 G 104) (hi : i + 4 ≤ L) (hL : L ≤ 2048) (hB : B ≤ 800000) (hR : wRel B σ) (hmo : σ 126 0 = 0) (go : ∀ σ2, wRel (B + 100) σ2 → σ2 126 0 = 0 → gw (gCm' G0 7) G mL_law Q 1250 [.ref aS, .ref 0, .ref 104, .int (nI i)] [] σ2) : gw (gCm' G0 7) G mL_law Q 192 [.ref aS, .ref 0, .ref 104, .int (nI i)] [] σ := by
  obtain ⟨r, σ2, s1, s2, s3, s4⟩ := gSp_of hc (as := [.int (Int32.ofNat ((G aS).2.2 (i + 1))), .int (Int32.ofNat ((G aS).2.2 (i + 2)))]) (fun v hv => by simp only [List.mem_cons, List.not_mem_nil, or_false] at hv;  rcases hv with rfl | rfl <;> exact ⟨_, rfl⟩) (show B + 1 ≤ B + 100 by omega) (op_region (d := 3) h (by omega) hR _ _)
  obtain ⟨a1, b1, c1⟩ := law_ix (j := 1) hi hL (by decide)
  have a1 : nI i + 1 = nI (i + 1) := a1
  obtain ⟨a2, b2, c2⟩ := law_ix (j := 2) hi hL (by decide)
  have a2 : nI i + 2 = nI (i + 2) := a2
  rw [BL_law_192 hs hn hx hm]
  simp only [a1, b1, c1, a2, b2, c2, true_and]
  refine s3 σ (fun _ _ => rfl) _ ?_
  simp only [BL_law_206 hs hn hx hm, a1, b1, c1, a2, b2, c2, Option.toList_some, Option.toList_none, List.cons_append, List.nil_append, Nat.zero_add, Nat.reduceAdd, Option.some.injEq, Value.int.injEq, exists_eq_left', true_and, and_true, true_or, or_true, false_or, g_10, ↓reduceIte]
  refine s4 _ law_ag _ ?_
  simp only [BL_law_220 hs hn hx hm, Option.toList_some, Option.toList_none, List.cons_append, List.nil_append, Nat.zero_add, Nat.reduceAdd, Option.some.injEq, Value.int.injEq, exists_eq_left', true_and, and_true, true_or, or_true, false_or, g_10, ↓reduceIte]
  rw [law_both s2]
  exact go σ2 s1 (by rw [s2 126 (Nat.le_refl _)]; exact hmo)
theorem lc_1 (h : gOK G0) (hc : gSep G0) (hs : (G aS).1 = 13) (hn : (G aS).2.1 = L) (hx : isX9 G 0) (hm : isX10 G 104) (hi : i + 4 ≤ L) (hL : L ≤ 2048) (hB : B ≤ 800000) (hR : wRel B σ) (hmo : σ 126 0 = 0) (go : ∀ σ2, wRel (B + 100) σ2 → σ2 126 0 = 0 → gw (gCm' G0 7) G mL_law Q 1250 [.ref aS, .ref 0, .ref 104, .int (nI i)] [] σ2) : gw (gCm' G0 7) G mL_law Q 225 [.ref aS, .ref 0, .ref 104, .int (nI i)] [] σ := by
  obtain ⟨r, σ2, s1, s2, s3, s4⟩ := gSp_of hc (as := [.int (Int32.ofNat ((G aS).2.2 (i + 1))), .int (Int32.ofNat ((G aS).2.2 (i + 2))), .int (Int32.ofNat ((G aS).2.2 (i + 3)))]) (fun v hv => by simp only [List.mem_cons, List.not_mem_nil, or_false] at hv;  rcases hv with rfl | rfl | rfl <;> exact ⟨_, rfl⟩) (show B + 1 ≤ B + 100 by omega) (op_block (d := 2) h (by omega) hR _ _ _)
  obtain ⟨a1, b1, c1⟩ := law_ix (j := 1) hi hL (by decide)
  have a1 : nI i + 1 = nI (i + 1) := a1
  obtain ⟨a2, b2, c2⟩ := law_ix (j := 2) hi hL (by decide)
  have a2 : nI i + 2 = nI (i + 2) := a2
  obtain ⟨a3, b3, c3⟩ := law_ix (j := 3) hi hL (by decide)
  have a3 : nI i + 3 = nI (i + 3) := a3
  rw [BL_law_225 hs hn hx hm]
  simp only [a1, b1, c1, a2, b2, c2, a3, b3, c3, true_and]
  refine s3 σ (fun _ _ => rfl) _ ?_
  simp only [BL_law_244 hs hn hx hm, a1, b1, c1, a2, b2, c2, a3, b3, c3, Option.toList_some, Option.toList_none, List.cons_append, List.nil_append, Nat.zero_add, Nat.reduceAdd, Option.some.injEq, Value.int.injEq, exists_eq_left', true_and, and_true, true_or, or_true, false_or, g_10, ↓reduceIte]
  refine s4 _ law_ag _ ?_
  simp only [BL_law_263 hs hn hx hm, Option.toList_some, Option.toList_none, List.cons_append, List.nil_append, Nat.zero_add, Nat.reduceAdd, Option.some.injEq, Value.int.injEq, exists_eq_left', true_and, and_true, true_or, or_true, false_or, g_10, ↓reduceIte]
  rw [law_both s2]
  exact go σ2 s1 (by rw [s2 126 (Nat.le_refl _)]; exact hmo)
theorem lc_2 (h : gOK G0) (hc : gSep G0) (hs : (G aS).1 = 13) (hn : (G aS).2.1 = L) (hx : isX9 G 0) (hm : isX10 G 104) (hi : i + 4 ≤ L) (hL : L ≤ 2048) (hB : B ≤ 800000) (hR : wRel B σ) (hmo : σ 126 0 = 0) (go : ∀ σ2, wRel (B + 100) σ2 → σ2 126 0 = 0 → gw (gCm' G0 7) G mL_law Q 1250 [.ref aS, .ref 0, .ref 104, .int (nI i)] [] σ2) : gw (gCm' G0 7) G mL_law Q 268 [.ref aS, .ref 0, .ref 104, .int (nI i)] [] σ := by
  obtain ⟨r, σ2, s1, s2, s3, s4⟩ := gSp_of hc (as := [.int (Int32.ofNat ((G aS).2.2 (i + 1)))]) (fun v hv => by simp only [List.mem_cons, List.not_mem_nil, or_false] at hv;  subst hv <;> exact ⟨_, rfl⟩) (show B + 1 ≤ B + 100 by omega) (op_free (d := 3) h (by omega) hR _)
  obtain ⟨a1, b1, c1⟩ := law_ix (j := 1) hi hL (by decide)
  have a1 : nI i + 1 = nI (i + 1) := a1
  rw [BL_law_268 hs hn hx hm]
  simp only [a1, b1, c1, true_and]
  refine s3 σ (fun _ _ => rfl) _ ?_
  simp only [BL_law_277 hs hn hx hm, a1, b1, c1, Option.toList_some, Option.toList_none, List.cons_append, List.nil_append, Nat.zero_add, Nat.reduceAdd, Option.some.injEq, Value.int.injEq, exists_eq_left', true_and, and_true, true_or, or_true, false_or, g_10, ↓reduceIte]
  refine s4 _ law_ag _ ?_
  simp only [BL_law_286 hs hn hx hm, Option.toList_some, Option.toList_none, List.cons_append, List.nil_append, Nat.zero_add, Nat.reduceAdd, Option.some.injEq, Value.int.injEq, exists_eq_left', true_and, and_true, true_or, or_true, false_or, g_10, ↓reduceIte]
  rw [law_both s2]
  exact go σ2 s1 (by rw [s2 126 (Nat.le_refl _)]; exact hmo)
theorem lc_3 (h : gOK G0) (hc : gSep G0) (hs : (G aS).1 = 13) (hn : (G aS).2.1 = L) (hx : isX9 G 0) (hm : isX10 G 104) (hi : i + 4 ≤ L) (hL : L ≤ 2048) (hB : B ≤ 800000) (hR : wRel B σ) (hmo : σ 126 0 = 0) (go : ∀ σ2, wRel (B + 100) σ2 → σ2 126 0 = 0 → gw (gCm' G0 7) G mL_law Q 1250 [.ref aS, .ref 0, .ref 104, .int (nI i)] [] σ2) : gw (gCm' G0 7) G mL_law Q 291 [.ref aS, .ref 0, .ref 104, .int (nI i)] [] σ := by
  obtain ⟨r, σ2, s1, s2, s3, s4⟩ := gSp_of hc (as := [.int (Int32.ofNat ((G aS).2.2 (i + 1))), .int (Int32.ofNat ((G aS).2.2 (i + 2)))]) (fun v hv => by simp only [List.mem_cons, List.not_mem_nil, or_false] at hv;  rcases hv with rfl | rfl <;> exact ⟨_, rfl⟩) (show B + 1 ≤ B + 100 by omega) (op_pin (d := 3) h (by omega) hR _ _)
  obtain ⟨a1, b1, c1⟩ := law_ix (j := 1) hi hL (by decide)
  have a1 : nI i + 1 = nI (i + 1) := a1
  obtain ⟨a2, b2, c2⟩ := law_ix (j := 2) hi hL (by decide)
  have a2 : nI i + 2 = nI (i + 2) := a2
  rw [BL_law_291 hs hn hx hm]
  simp only [a1, b1, c1, a2, b2, c2, true_and]
  refine s3 σ (fun _ _ => rfl) _ ?_
  simp only [BL_law_305 hs hn hx hm, a1, b1, c1, a2, b2, c2, Option.toList_some, Option.toList_none, List.cons_append, List.nil_append, Nat.zero_add, Nat.reduceAdd, Option.some.injEq, Value.int.injEq, exists_eq_left', true_and, and_true, true_or, or_true, false_or, g_10, ↓reduceIte]
  refine s4 _ law_ag _ ?_
  simp only [BL_law_319 hs hn hx hm, Option.toList_some, Option.toList_none, List.cons_append, List.nil_append, Nat.zero_add, Nat.reduceAdd, Option.some.injEq, Value.int.injEq, exists_eq_left', true_and, and_true, true_or, or_true, false_or, g_10, ↓reduceIte]
  rw [law_both s2]
  exact go σ2 s1 (by rw [s2 126 (Nat.le_refl _)]; exact hmo)
theorem lc_4 (h : gOK G0) (hc : gSep G0) (hs : (G aS).1 = 13) (hn : (G aS).2.1 = L) (hx : isX9 G 0) (hm : isX10 G 104) (hi : i + 4 ≤ L) (hL : L ≤ 2048) (hB : B ≤ 800000) (hR : wRel B σ) (hmo : σ 126 0 = 0) (go : ∀ σ2, wRel (B + 100) σ2 → σ2 126 0 = 0 → gw (gCm' G0 7) G mL_law Q 1250 [.ref aS, .ref 0, .ref 104, .int (nI i)] [] σ2) : gw (gCm' G0 7) G mL_law Q 324 [.ref aS, .ref 0, .ref 104, .int (nI i)] [] σ := by
  obtain ⟨r, σ2, s1, s2, s3, s4⟩ := gSp_of hc (as := [.int (Int32.ofNat ((G aS).2.2 (i + 1))), .int (Int32.ofNat ((G aS).2.2 (i + 2)))]) (fun v hv => by simp only [List.mem_cons, List.not_mem_nil, or_false] at hv;  rcases hv with rfl | rfl <;> exact ⟨_, rfl⟩) (show B + 1 ≤ B + 100 by omega) (op_grow (d := 1) h (by omega) hR _ _)
  obtain ⟨a1, b1, c1⟩ := law_ix (j := 1) hi hL (by decide)
  have a1 : nI i + 1 = nI (i + 1) := a1
  obtain ⟨a2, b2, c2⟩ := law_ix (j := 2) hi hL (by decide)
  have a2 : nI i + 2 = nI (i + 2) := a2
  rw [BL_law_324 hs hn hx hm]
  simp only [a1, b1, c1, a2, b2, c2, true_and]
  refine s3 σ (fun _ _ => rfl) _ ?_
  simp only [BL_law_338 hs hn hx hm, a1, b1, c1, a2, b2, c2, Option.toList_some, Option.toList_none, List.cons_append, List.nil_append, Nat.zero_add, Nat.reduceAdd, Option.some.injEq, Value.int.injEq, exists_eq_left', true_and, and_true, true_or, or_true, false_or, g_10, ↓reduceIte]
  refine s4 _ law_ag _ ?_
  simp only [BL_law_352 hs hn hx hm, Option.toList_some, Option.toList_none, List.cons_append, List.nil_append, Nat.zero_add, Nat.reduceAdd, Option.some.injEq, Value.int.injEq, exists_eq_left', true_and, and_true, true_or, or_true, false_or, g_10, ↓reduceIte]
  rw [law_both s2]
  exact go σ2 s1 (by rw [s2 126 (Nat.le_refl _)]; exact hmo)
theorem lc_5 (h : gOK G0) (hc : gSep G0) (hs : (G aS).1 = 13) (hn : (G aS).2.1 = L) (hx : isX9 G 0) (hm : isX10 G 104) (hi : i + 4 ≤ L) (hL : L ≤ 2048) (hB : B ≤ 800000) (hR : wRel B σ) (hmo : σ 126 0 = 0) (go : ∀ σ2, wRel (B + 100) σ2 → σ2 126 0 = 0 → gw (gCm' G0 7) G mL_law Q 1250 [.ref aS, .ref 0, .ref 104, .int (nI i)] [] σ2) : gw (gCm' G0 7) G mL_law Q 357 [.ref aS, .ref 0, .ref 104, .int (nI i)] [] σ := by
  obtain ⟨r, σ2, s1, s2, s3, s4⟩ := gSp_of hc (as := [.int (Int32.ofNat ((G aS).2.2 (i + 1))), .int (Int32.ofNat ((G aS).2.2 (i + 2)))]) (fun v hv => by simp only [List.mem_cons, List.not_mem_nil, or_false] at hv;  rcases hv with rfl | rfl <;> exact ⟨_, rfl⟩) (show B + 1 ≤ B + 100 by omega) (op_moves (d := 2) h (by omega) hR _ _)
  obtain ⟨a1, b1, c1⟩ := law_ix (j := 1) hi hL (by decide)
  have a1 : nI i + 1 = nI (i + 1) := a1
  obtain ⟨a2, b2, c2⟩ := law_ix (j := 2) hi hL (by decide)
  have a2 : nI i + 2 = nI (i + 2) := a2
  rw [BL_law_357 hs hn hx hm]
  simp only [a1, b1, c1, a2, b2, c2, true_and]
  refine s3 σ (fun _ _ => rfl) _ ?_
  simp only [BL_law_371 hs hn hx hm, a1, b1, c1, a2, b2, c2, Option.toList_some, Option.toList_none, List.cons_append, List.nil_append, Nat.zero_add, Nat.reduceAdd, Option.some.injEq, Value.int.injEq, exists_eq_left', true_and, and_true, true_or, or_true, false_or, g_10, ↓reduceIte]
  refine s4 _ law_ag _ ?_
  simp only [BL_law_385 hs hn hx hm, Option.toList_some, Option.toList_none, List.cons_append, List.nil_append, Nat.zero_add, Nat.reduceAdd, Option.some.injEq, Value.int.injEq, exists_eq_left', true_and, and_true, true_or, or_true, false_or, g_10, ↓reduceIte]
  rw [law_both s2]
  exact go σ2 s1 (by rw [s2 126 (Nat.le_refl _)]; exact hmo)
theorem lc_6 (h : gOK G0) (hc : gSep G0) (hs : (G aS).1 = 13) (hn : (G aS).2.1 = L) (hx : isX9 G 0) (hm : isX10 G 104) (hi : i + 4 ≤ L) (hL : L ≤ 2048) (hB : B ≤ 800000) (hR : wRel B σ) (hmo : σ 126 0 = 0) (go : ∀ σ2, wRel (B + 100) σ2 → σ2 126 0 = 0 → gw (gCm' G0 7) G mL_law Q 1250 [.ref aS, .ref 0, .ref 104, .int (nI i)] [] σ2) : gw (gCm' G0 7) G mL_law Q 390 [.ref aS, .ref 0, .ref 104, .int (nI i)] [] σ := by
  obtain ⟨r, σ2, s1, s2, s3, s4⟩ := gSp_of hc (as := [.int (Int32.ofNat ((G aS).2.2 (i + 1))), .int (Int32.ofNat ((G aS).2.2 (i + 2))), .int (Int32.ofNat ((G aS).2.2 (i + 3)))]) (fun v hv => by simp only [List.mem_cons, List.not_mem_nil, or_false] at hv;  rcases hv with rfl | rfl | rfl <;> exact ⟨_, rfl⟩) (show B + 1 ≤ B + 100 by omega) (op_write (d := 3) h (by omega) hR _ _ _)
  obtain ⟨a1, b1, c1⟩ := law_ix (j := 1) hi hL (by decide)
  have a1 : nI i + 1 = nI (i + 1) := a1
  obtain ⟨a2, b2, c2⟩ := law_ix (j := 2) hi hL (by decide)
  have a2 : nI i + 2 = nI (i + 2) := a2
  obtain ⟨a3, b3, c3⟩ := law_ix (j := 3) hi hL (by decide)
  have a3 : nI i + 3 = nI (i + 3) := a3
  rw [BL_law_390 hs hn hx hm]
  simp only [a1, b1, c1, a2, b2, c2, a3, b3, c3, true_and]
  refine s3 σ (fun _ _ => rfl) _ ?_
  simp only [BL_law_409 hs hn hx hm, a1, b1, c1, a2, b2, c2, a3, b3, c3, Option.toList_some, Option.toList_none, List.cons_append, List.nil_append, Nat.zero_add, Nat.reduceAdd, Option.some.injEq, Value.int.injEq, exists_eq_left', true_and, and_true, true_or, or_true, false_or, g_10, ↓reduceIte]
  refine s4 _ law_ag _ ?_
  simp only [BL_law_428 hs hn hx hm, Option.toList_some, Option.toList_none, List.cons_append, List.nil_append, Nat.zero_add, Nat.reduceAdd, Option.some.injEq, Value.int.injEq, exists_eq_left', true_and, and_true, true_or, or_true, false_or, g_10, ↓reduceIte]
  rw [law_both s2]
  exact go σ2 s1 (by rw [s2 126 (Nat.le_refl _)]; exact hmo)
theorem lc_7 (h : gOK G0) (hc : gSep G0) (hs : (G aS).1 = 13) (hn : (G aS).2.1 = L) (hx : isX9 G 0) (hm : isX10 G 104) (hi : i + 4 ≤ L) (hL : L ≤ 2048) (hB : B ≤ 800000) (hR : wRel B σ) (hmo : σ 126 0 = 0) (go : ∀ σ2, wRel (B + 100) σ2 → σ2 126 0 = 0 → gw (gCm' G0 7) G mL_law Q 1250 [.ref aS, .ref 0, .ref 104, .int (nI i)] [] σ2) : gw (gCm' G0 7) G mL_law Q 433 [.ref aS, .ref 0, .ref 104, .int (nI i)] [] σ := by
  obtain ⟨r, σ2, s1, s2, s3, s4⟩ := gSp_of hc (as := [.int (Int32.ofNat ((G aS).2.2 (i + 1))), .int (Int32.ofNat ((G aS).2.2 (i + 2)))]) (fun v hv => by simp only [List.mem_cons, List.not_mem_nil, or_false] at hv;  rcases hv with rfl | rfl <;> exact ⟨_, rfl⟩) (show B + 1 ≤ B + 100 by omega) (op_read (d := 3) h (by omega) hR _ _)
  obtain ⟨a1, b1, c1⟩ := law_ix (j := 1) hi hL (by decide)
  have a1 : nI i + 1 = nI (i + 1) := a1
  obtain ⟨a2, b2, c2⟩ := law_ix (j := 2) hi hL (by decide)
  have a2 : nI i + 2 = nI (i + 2) := a2
  rw [BL_law_433 hs hn hx hm]
  simp only [a1, b1, c1, a2, b2, c2, true_and]
  refine s3 σ (fun _ _ => rfl) _ ?_
  simp only [BL_law_447 hs hn hx hm, a1, b1, c1, a2, b2, c2, Option.toList_some, Option.toList_none, List.cons_append, List.nil_append, Nat.zero_add, Nat.reduceAdd, Option.some.injEq, Value.int.injEq, exists_eq_left', true_and, and_true, true_or, or_true, false_or, g_10, ↓reduceIte]
  refine s4 _ law_ag _ ?_
  simp only [BL_law_461 hs hn hx hm, Option.toList_some, Option.toList_none, List.cons_append, List.nil_append, Nat.zero_add, Nat.reduceAdd, Option.some.injEq, Value.int.injEq, exists_eq_left', true_and, and_true, true_or, or_true, false_or, g_10, ↓reduceIte]
  rw [law_both s2]
  exact go σ2 s1 (by rw [s2 126 (Nat.le_refl _)]; exact hmo)
theorem lc_8 (h : gOK G0) (hc : gSep G0) (hs : (G aS).1 = 13) (hn : (G aS).2.1 = L) (hx : isX9 G 0) (hm : isX10 G 104) (hi : i + 4 ≤ L) (hL : L ≤ 2048) (hB : B ≤ 800000) (hR : wRel B σ) (hmo : σ 126 0 = 0) (go : ∀ σ2, wRel (B + 100) σ2 → σ2 126 0 = 0 → gw (gCm' G0 7) G mL_law Q 1250 [.ref aS, .ref 0, .ref 104, .int (nI i)] [] σ2) : gw (gCm' G0 7) G mL_law Q 466 [.ref aS, .ref 0, .ref 104, .int (nI i)] [] σ := by
  obtain ⟨r, σ2, s1, s2, s3, s4⟩ := gSp_of hc (as := [.int (Int32.ofNat ((G aS).2.2 (i + 1))), .int (Int32.ofNat ((G aS).2.2 (i + 2))), .int (Int32.ofNat ((G aS).2.2 (i + 3)))]) (fun v hv => by simp only [List.mem_cons, List.not_mem_nil, or_false] at hv;  rcases hv with rfl | rfl | rfl <;> exact ⟨_, rfl⟩) (show B + 1 ≤ B + 100 by omega) (op_peek (d := 3) h (by omega) hR _ _ _)
  obtain ⟨a1, b1, c1⟩ := law_ix (j := 1) hi hL (by decide)
  have a1 : nI i + 1 = nI (i + 1) := a1
  obtain ⟨a2, b2, c2⟩ := law_ix (j := 2) hi hL (by decide)
  have a2 : nI i + 2 = nI (i + 2) := a2
  obtain ⟨a3, b3, c3⟩ := law_ix (j := 3) hi hL (by decide)
  have a3 : nI i + 3 = nI (i + 3) := a3
  rw [BL_law_466 hs hn hx hm]
  simp only [a1, b1, c1, a2, b2, c2, a3, b3, c3, true_and]
  refine s3 σ (fun _ _ => rfl) _ ?_
  simp only [BL_law_485 hs hn hx hm, a1, b1, c1, a2, b2, c2, a3, b3, c3, Option.toList_some, Option.toList_none, List.cons_append, List.nil_append, Nat.zero_add, Nat.reduceAdd, Option.some.injEq, Value.int.injEq, exists_eq_left', true_and, and_true, true_or, or_true, false_or, g_10, ↓reduceIte]
  refine s4 _ law_ag _ ?_
  simp only [BL_law_504 hs hn hx hm, Option.toList_some, Option.toList_none, List.cons_append, List.nil_append, Nat.zero_add, Nat.reduceAdd, Option.some.injEq, Value.int.injEq, exists_eq_left', true_and, and_true, true_or, or_true, false_or, g_10, ↓reduceIte]
  rw [law_both s2]
  exact go σ2 s1 (by rw [s2 126 (Nat.le_refl _)]; exact hmo)
theorem lc_9 (h : gOK G0) (hc : gSep G0) (hs : (G aS).1 = 13) (hn : (G aS).2.1 = L) (hx : isX9 G 0) (hm : isX10 G 104) (hi : i + 4 ≤ L) (hL : L ≤ 2048) (hB : B ≤ 800000) (hR : wRel B σ) (hmo : σ 126 0 = 0) (go : ∀ σ2, wRel (B + 100) σ2 → σ2 126 0 = 0 → gw (gCm' G0 7) G mL_law Q 1250 [.ref aS, .ref 0, .ref 104, .int (nI i)] [] σ2) : gw (gCm' G0 7) G mL_law Q 509 [.ref aS, .ref 0, .ref 104, .int (nI i)] [] σ := by
  obtain ⟨r, σ2, s1, s2, s3, s4⟩ := gSp_of hc (as := [.int (Int32.ofNat ((G aS).2.2 (i + 1))), .int (Int32.ofNat ((G aS).2.2 (i + 2)))]) (fun v hv => by simp only [List.mem_cons, List.not_mem_nil, or_false] at hv;  rcases hv with rfl | rfl <;> exact ⟨_, rfl⟩) (show B + 1 ≤ B + 100 by omega) (op_of (d := 3) h (by omega) hR _ _)
  obtain ⟨a1, b1, c1⟩ := law_ix (j := 1) hi hL (by decide)
  have a1 : nI i + 1 = nI (i + 1) := a1
  obtain ⟨a2, b2, c2⟩ := law_ix (j := 2) hi hL (by decide)
  have a2 : nI i + 2 = nI (i + 2) := a2
  rw [BL_law_509 hs hn hx hm]
  simp only [a1, b1, c1, a2, b2, c2, true_and]
  refine s3 σ (fun _ _ => rfl) _ ?_
  simp only [BL_law_523 hs hn hx hm, a1, b1, c1, a2, b2, c2, Option.toList_some, Option.toList_none, List.cons_append, List.nil_append, Nat.zero_add, Nat.reduceAdd, Option.some.injEq, Value.int.injEq, exists_eq_left', true_and, and_true, true_or, or_true, false_or, g_10, ↓reduceIte]
  refine s4 _ law_ag _ ?_
  simp only [BL_law_537 hs hn hx hm, Option.toList_some, Option.toList_none, List.cons_append, List.nil_append, Nat.zero_add, Nat.reduceAdd, Option.some.injEq, Value.int.injEq, exists_eq_left', true_and, and_true, true_or, or_true, false_or, g_10, ↓reduceIte]
  rw [law_both s2]
  exact go σ2 s1 (by rw [s2 126 (Nat.le_refl _)]; exact hmo)
theorem lc_10 (h : gOK G0) (hc : gSep G0) (hs : (G aS).1 = 13) (hn : (G aS).2.1 = L) (hx : isX9 G 0) (hm : isX10 G 104) (hi : i + 4 ≤ L) (hL : L ≤ 2048) (hB : B ≤ 800000) (hR : wRel B σ) (hmo : σ 126 0 = 0) (go : ∀ σ2, wRel (B + 100) σ2 → σ2 126 0 = 0 → gw (gCm' G0 7) G mL_law Q 1250 [.ref aS, .ref 0, .ref 104, .int (nI i)] [] σ2) : gw (gCm' G0 7) G mL_law Q 542 [.ref aS, .ref 0, .ref 104, .int (nI i)] [] σ := by
  obtain ⟨r, σ2, s1, s2, s3, s4⟩ := gSp_of hc (as := [.int (Int32.ofNat ((G aS).2.2 (i + 1))), .int (Int32.ofNat ((G aS).2.2 (i + 2)))]) (fun v hv => by simp only [List.mem_cons, List.not_mem_nil, or_false] at hv;  rcases hv with rfl | rfl <;> exact ⟨_, rfl⟩) (show B + 1 ≤ B + 100 by omega) (op_slot (d := 3) h (by omega) hR _ _)
  obtain ⟨a1, b1, c1⟩ := law_ix (j := 1) hi hL (by decide)
  have a1 : nI i + 1 = nI (i + 1) := a1
  obtain ⟨a2, b2, c2⟩ := law_ix (j := 2) hi hL (by decide)
  have a2 : nI i + 2 = nI (i + 2) := a2
  rw [BL_law_542 hs hn hx hm]
  simp only [a1, b1, c1, a2, b2, c2, true_and]
  refine s3 σ (fun _ _ => rfl) _ ?_
  simp only [BL_law_556 hs hn hx hm, a1, b1, c1, a2, b2, c2, Option.toList_some, Option.toList_none, List.cons_append, List.nil_append, Nat.zero_add, Nat.reduceAdd, Option.some.injEq, Value.int.injEq, exists_eq_left', true_and, and_true, true_or, or_true, false_or, g_10, ↓reduceIte]
  refine s4 _ law_ag _ ?_
  simp only [BL_law_570 hs hn hx hm, Option.toList_some, Option.toList_none, List.cons_append, List.nil_append, Nat.zero_add, Nat.reduceAdd, Option.some.injEq, Value.int.injEq, exists_eq_left', true_and, and_true, true_or, or_true, false_or, g_10, ↓reduceIte]
  rw [law_both s2]
  exact go σ2 s1 (by rw [s2 126 (Nat.le_refl _)]; exact hmo)
theorem lc_11 (h : gOK G0) (hc : gSep G0) (hs : (G aS).1 = 13) (hn : (G aS).2.1 = L) (hx : isX9 G 0) (hm : isX10 G 104) (hi : i + 4 ≤ L) (hL : L ≤ 2048) (hB : B ≤ 800000) (hR : wRel B σ) (hmo : σ 126 0 = 0) (go : ∀ σ2, wRel (B + 100) σ2 → σ2 126 0 = 0 → gw (gCm' G0 7) G mL_law Q 1250 [.ref aS, .ref 0, .ref 104, .int (nI i)] [] σ2) : gw (gCm' G0 7) G mL_law Q 575 [.ref aS, .ref 0, .ref 104, .int (nI i)] [] σ := by
  obtain ⟨r, σ2, s1, s2, s3, s4⟩ := gSp_of hc (as := [.int (Int32.ofNat ((G aS).2.2 (i + 1)))]) (fun v hv => by simp only [List.mem_cons, List.not_mem_nil, or_false] at hv;  subst hv <;> exact ⟨_, rfl⟩) (show B + 1 ≤ B + 100 by omega) (op_lies (d := 3) h (by omega) hR _)
  obtain ⟨a1, b1, c1⟩ := law_ix (j := 1) hi hL (by decide)
  have a1 : nI i + 1 = nI (i + 1) := a1
  rw [BL_law_575 hs hn hx hm]
  simp only [a1, b1, c1, true_and]
  refine s3 σ (fun _ _ => rfl) _ ?_
  simp only [BL_law_584 hs hn hx hm, a1, b1, c1, Option.toList_some, Option.toList_none, List.cons_append, List.nil_append, Nat.zero_add, Nat.reduceAdd, Option.some.injEq, Value.int.injEq, exists_eq_left', true_and, and_true, true_or, or_true, false_or, g_10, ↓reduceIte]
  refine s4 _ law_ag _ ?_
  simp only [BL_law_593 hs hn hx hm, Option.toList_some, Option.toList_none, List.cons_append, List.nil_append, Nat.zero_add, Nat.reduceAdd, Option.some.injEq, Value.int.injEq, exists_eq_left', true_and, and_true, true_or, or_true, false_or, g_10, ↓reduceIte]
  rw [law_both s2]
  exact go σ2 s1 (by rw [s2 126 (Nat.le_refl _)]; exact hmo)
theorem lc_12 (h : gOK G0) (hc : gSep G0) (hs : (G aS).1 = 13) (hn : (G aS).2.1 = L) (hx : isX9 G 0) (hm : isX10 G 104) (hi : i + 4 ≤ L) (hL : L ≤ 2048) (hB : B ≤ 800000) (hR : wRel B σ) (hmo : σ 126 0 = 0) (go : ∀ σ2, wRel (B + 100) σ2 → σ2 126 0 = 0 → gw (gCm' G0 7) G mL_law Q 1250 [.ref aS, .ref 0, .ref 104, .int (nI i)] [] σ2) : gw (gCm' G0 7) G mL_law Q 598 [.ref aS, .ref 0, .ref 104, .int (nI i)] [] σ := by
  obtain ⟨r, σ2, s1, s2, s3, s4⟩ := gSp_of hc (as := [.int (Int32.ofNat ((G aS).2.2 (i + 1))), .int (Int32.ofNat ((G aS).2.2 (i + 2)))]) (fun v hv => by simp only [List.mem_cons, List.not_mem_nil, or_false] at hv;  rcases hv with rfl | rfl <;> exact ⟨_, rfl⟩) (show B + 1 ≤ B + 100 by omega) (op_tag (d := 3) h (by omega) hR _ _)
  obtain ⟨a1, b1, c1⟩ := law_ix (j := 1) hi hL (by decide)
  have a1 : nI i + 1 = nI (i + 1) := a1
  obtain ⟨a2, b2, c2⟩ := law_ix (j := 2) hi hL (by decide)
  have a2 : nI i + 2 = nI (i + 2) := a2
  rw [BL_law_598 hs hn hx hm]
  simp only [a1, b1, c1, a2, b2, c2, true_and]
  refine s3 σ (fun _ _ => rfl) _ ?_
  simp only [BL_law_612 hs hn hx hm, a1, b1, c1, a2, b2, c2, Option.toList_some, Option.toList_none, List.cons_append, List.nil_append, Nat.zero_add, Nat.reduceAdd, Option.some.injEq, Value.int.injEq, exists_eq_left', true_and, and_true, true_or, or_true, false_or, g_10, ↓reduceIte]
  refine s4 _ law_ag _ ?_
  simp only [BL_law_626 hs hn hx hm, Option.toList_some, Option.toList_none, List.cons_append, List.nil_append, Nat.zero_add, Nat.reduceAdd, Option.some.injEq, Value.int.injEq, exists_eq_left', true_and, and_true, true_or, or_true, false_or, g_10, ↓reduceIte]
  rw [law_both s2]
  exact go σ2 s1 (by rw [s2 126 (Nat.le_refl _)]; exact hmo)
theorem lc_13 (h : gOK G0) (hc : gSep G0) (hs : (G aS).1 = 13) (hn : (G aS).2.1 = L) (hx : isX9 G 0) (hm : isX10 G 104) (hi : i + 4 ≤ L) (hL : L ≤ 2048) (hB : B ≤ 800000) (hR : wRel B σ) (hmo : σ 126 0 = 0) (go : ∀ σ2, wRel (B + 100) σ2 → σ2 126 0 = 0 → gw (gCm' G0 7) G mL_law Q 1250 [.ref aS, .ref 0, .ref 104, .int (nI i)] [] σ2) : gw (gCm' G0 7) G mL_law Q 631 [.ref aS, .ref 0, .ref 104, .int (nI i)] [] σ := by
  obtain ⟨r, σ2, s1, s2, s3, s4⟩ := gSp_of hc (as := [.int (Int32.ofNat ((G aS).2.2 (i + 1)))]) (fun v hv => by simp only [List.mem_cons, List.not_mem_nil, or_false] at hv;  subst hv <;> exact ⟨_, rfl⟩) (show B + 1 ≤ B + 100 by omega) (op_find (d := 3) h (by omega) hR _)
  obtain ⟨a1, b1, c1⟩ := law_ix (j := 1) hi hL (by decide)
  have a1 : nI i + 1 = nI (i + 1) := a1
  rw [BL_law_631 hs hn hx hm]
  simp only [a1, b1, c1, true_and]
  refine s3 σ (fun _ _ => rfl) _ ?_
  simp only [BL_law_640 hs hn hx hm, a1, b1, c1, Option.toList_some, Option.toList_none, List.cons_append, List.nil_append, Nat.zero_add, Nat.reduceAdd, Option.some.injEq, Value.int.injEq, exists_eq_left', true_and, and_true, true_or, or_true, false_or, g_10, ↓reduceIte]
  refine s4 _ law_ag _ ?_
  simp only [BL_law_649 hs hn hx hm, Option.toList_some, Option.toList_none, List.cons_append, List.nil_append, Nat.zero_add, Nat.reduceAdd, Option.some.injEq, Value.int.injEq, exists_eq_left', true_and, and_true, true_or, or_true, false_or, g_10, ↓reduceIte]
  rw [law_both s2]
  exact go σ2 s1 (by rw [s2 126 (Nat.le_refl _)]; exact hmo)
theorem lc_14 (h : gOK G0) (hc : gSep G0) (hs : (G aS).1 = 13) (hn : (G aS).2.1 = L) (hx : isX9 G 0) (hm : isX10 G 104) (hi : i + 4 ≤ L) (hL : L ≤ 2048) (hB : B ≤ 800000) (hR : wRel B σ) (hmo : σ 126 0 = 0) (go : ∀ σ2, wRel (B + 100) σ2 → σ2 126 0 = 0 → gw (gCm' G0 7) G mL_law Q 1250 [.ref aS, .ref 0, .ref 104, .int (nI i)] [] σ2) : gw (gCm' G0 7) G mL_law Q 654 [.ref aS, .ref 0, .ref 104, .int (nI i)] [] σ := by
  obtain ⟨r, σ2, s1, s2, s3, s4⟩ := gSp_of hc (as := [.int (Int32.ofNat ((G aS).2.2 (i + 1)))]) (fun v hv => by simp only [List.mem_cons, List.not_mem_nil, or_false] at hv;  subst hv <;> exact ⟨_, rfl⟩) (show B + 1 ≤ B + 100 by omega) (op_tagged (d := 3) h (by omega) hR _)
  obtain ⟨a1, b1, c1⟩ := law_ix (j := 1) hi hL (by decide)
  have a1 : nI i + 1 = nI (i + 1) := a1
  rw [BL_law_654 hs hn hx hm]
  simp only [a1, b1, c1, true_and]
  refine s3 σ (fun _ _ => rfl) _ ?_
  simp only [BL_law_663 hs hn hx hm, a1, b1, c1, Option.toList_some, Option.toList_none, List.cons_append, List.nil_append, Nat.zero_add, Nat.reduceAdd, Option.some.injEq, Value.int.injEq, exists_eq_left', true_and, and_true, true_or, or_true, false_or, g_10, ↓reduceIte]
  refine s4 _ law_ag _ ?_
  simp only [BL_law_672 hs hn hx hm, Option.toList_some, Option.toList_none, List.cons_append, List.nil_append, Nat.zero_add, Nat.reduceAdd, Option.some.injEq, Value.int.injEq, exists_eq_left', true_and, and_true, true_or, or_true, false_or, g_10, ↓reduceIte]
  rw [law_both s2]
  exact go σ2 s1 (by rw [s2 126 (Nat.le_refl _)]; exact hmo)
theorem lc_15 (h : gOK G0) (hc : gSep G0) (hs : (G aS).1 = 13) (hn : (G aS).2.1 = L) (hx : isX9 G 0) (hm : isX10 G 104) (hi : i + 4 ≤ L) (hL : L ≤ 2048) (hB : B ≤ 800000) (hR : wRel B σ) (hmo : σ 126 0 = 0) (go : ∀ σ2, wRel (B + 100) σ2 → σ2 126 0 = 0 → gw (gCm' G0 7) G mL_law Q 1250 [.ref aS, .ref 0, .ref 104, .int (nI i)] [] σ2) : gw (gCm' G0 7) G mL_law Q 677 [.ref aS, .ref 0, .ref 104, .int (nI i)] [] σ := by
  obtain ⟨r, σ2, s1, s2, s3, s4⟩ := gSp_of hc (as := [.int (Int32.ofNat ((G aS).2.2 (i + 1))), .int (Int32.ofNat ((G aS).2.2 (i + 2)))]) (fun v hv => by simp only [List.mem_cons, List.not_mem_nil, or_false] at hv;  rcases hv with rfl | rfl <;> exact ⟨_, rfl⟩) (show B + 1 ≤ B + 100 by omega) (op_quota (d := 4) h (by omega) hR _ _)
  obtain ⟨a1, b1, c1⟩ := law_ix (j := 1) hi hL (by decide)
  have a1 : nI i + 1 = nI (i + 1) := a1
  obtain ⟨a2, b2, c2⟩ := law_ix (j := 2) hi hL (by decide)
  have a2 : nI i + 2 = nI (i + 2) := a2
  rw [BL_law_677 hs hn hx hm]
  simp only [a1, b1, c1, a2, b2, c2, true_and]
  refine s3 σ (fun _ _ => rfl) _ ?_
  simp only [BL_law_691 hs hn hx hm, a1, b1, c1, a2, b2, c2, Option.toList_some, Option.toList_none, List.cons_append, List.nil_append, Nat.zero_add, Nat.reduceAdd, Option.some.injEq, Value.int.injEq, exists_eq_left', true_and, and_true, true_or, or_true, false_or, g_10, ↓reduceIte]
  refine s4 _ law_ag _ ?_
  simp only [BL_law_705 hs hn hx hm, Option.toList_some, Option.toList_none, List.cons_append, List.nil_append, Nat.zero_add, Nat.reduceAdd, Option.some.injEq, Value.int.injEq, exists_eq_left', true_and, and_true, true_or, or_true, false_or, g_10, ↓reduceIte]
  rw [law_both s2]
  exact go σ2 s1 (by rw [s2 126 (Nat.le_refl _)]; exact hmo)
theorem lc_16 (h : gOK G0) (hc : gSep G0) (hs : (G aS).1 = 13) (hn : (G aS).2.1 = L) (hx : isX9 G 0) (hm : isX10 G 104) (hi : i + 4 ≤ L) (hL : L ≤ 2048) (hB : B ≤ 800000) (hR : wRel B σ) (hmo : σ 126 0 = 0) (go : ∀ σ2, wRel (B + 100) σ2 → σ2 126 0 = 0 → gw (gCm' G0 7) G mL_law Q 1250 [.ref aS, .ref 0, .ref 104, .int (nI i)] [] σ2) : gw (gCm' G0 7) G mL_law Q 710 [.ref aS, .ref 0, .ref 104, .int (nI i)] [] σ := by
  obtain ⟨r, σ2, s1, s2, s3, s4⟩ := gSp_of hc (as := [.int (Int32.ofNat ((G aS).2.2 (i + 1))), .int (Int32.ofNat ((G aS).2.2 (i + 2)))]) (fun v hv => by simp only [List.mem_cons, List.not_mem_nil, or_false] at hv;  rcases hv with rfl | rfl <;> exact ⟨_, rfl⟩) (show B + 1 ≤ B + 100 by omega) (op_owner (d := 0) h (by omega) hR _ _)
  obtain ⟨a1, b1, c1⟩ := law_ix (j := 1) hi hL (by decide)
  have a1 : nI i + 1 = nI (i + 1) := a1
  obtain ⟨a2, b2, c2⟩ := law_ix (j := 2) hi hL (by decide)
  have a2 : nI i + 2 = nI (i + 2) := a2
  rw [BL_law_710 hs hn hx hm]
  simp only [a1, b1, c1, a2, b2, c2, true_and]
  refine s3 σ (fun _ _ => rfl) _ ?_
  simp only [BL_law_724 hs hn hx hm, a1, b1, c1, a2, b2, c2, Option.toList_some, Option.toList_none, List.cons_append, List.nil_append, Nat.zero_add, Nat.reduceAdd, Option.some.injEq, Value.int.injEq, exists_eq_left', true_and, and_true, true_or, or_true, false_or, g_10, ↓reduceIte]
  refine s4 _ law_ag _ ?_
  simp only [BL_law_738 hs hn hx hm, Option.toList_some, Option.toList_none, List.cons_append, List.nil_append, Nat.zero_add, Nat.reduceAdd, Option.some.injEq, Value.int.injEq, exists_eq_left', true_and, and_true, true_or, or_true, false_or, g_10, ↓reduceIte]
  rw [law_both s2]
  exact go σ2 s1 (by rw [s2 126 (Nat.le_refl _)]; exact hmo)
theorem lc_17 (h : gOK G0) (hc : gSep G0) (hs : (G aS).1 = 13) (hn : (G aS).2.1 = L) (hx : isX9 G 0) (hm : isX10 G 104) (hi : i + 4 ≤ L) (hL : L ≤ 2048) (hB : B ≤ 800000) (hR : wRel B σ) (hmo : σ 126 0 = 0) (go : ∀ σ2, wRel (B + 100) σ2 → σ2 126 0 = 0 → gw (gCm' G0 7) G mL_law Q 1250 [.ref aS, .ref 0, .ref 104, .int (nI i)] [] σ2) : gw (gCm' G0 7) G mL_law Q 743 [.ref aS, .ref 0, .ref 104, .int (nI i)] [] σ := by
  obtain ⟨r, σ2, s1, s2, s3, s4⟩ := gSp_of hc (as := [.int (Int32.ofNat ((G aS).2.2 (i + 1)))]) (fun v hv => by simp only [List.mem_cons, List.not_mem_nil, or_false] at hv;  subst hv <;> exact ⟨_, rfl⟩) (show B + 1 ≤ B + 100 by omega) (op_enter (d := 4) h (by omega) hR _)
  obtain ⟨a1, b1, c1⟩ := law_ix (j := 1) hi hL (by decide)
  have a1 : nI i + 1 = nI (i + 1) := a1
  rw [BL_law_743 hs hn hx hm]
  simp only [a1, b1, c1, true_and]
  refine s3 σ (fun _ _ => rfl) _ ?_
  simp only [BL_law_752 hs hn hx hm, a1, b1, c1, Option.toList_some, Option.toList_none, List.cons_append, List.nil_append, Nat.zero_add, Nat.reduceAdd, Option.some.injEq, Value.int.injEq, exists_eq_left', true_and, and_true, true_or, or_true, false_or, g_10, ↓reduceIte]
  refine s4 _ law_ag _ ?_
  simp only [BL_law_761 hs hn hx hm, Option.toList_some, Option.toList_none, List.cons_append, List.nil_append, Nat.zero_add, Nat.reduceAdd, Option.some.injEq, Value.int.injEq, exists_eq_left', true_and, and_true, true_or, or_true, false_or, g_10, ↓reduceIte]
  rw [law_both s2]
  exact go σ2 s1 (by rw [s2 126 (Nat.le_refl _)]; exact hmo)
theorem lc_18 (h : gOK G0) (hc : gSep G0) (hs : (G aS).1 = 13) (hn : (G aS).2.1 = L) (hx : isX9 G 0) (hm : isX10 G 104) (hi : i + 4 ≤ L) (hL : L ≤ 2048) (hB : B ≤ 800000) (hR : wRel B σ) (hmo : σ 126 0 = 0) (go : ∀ σ2, wRel (B + 100) σ2 → σ2 126 0 = 0 → gw (gCm' G0 7) G mL_law Q 1250 [.ref aS, .ref 0, .ref 104, .int (nI i)] [] σ2) : gw (gCm' G0 7) G mL_law Q 766 [.ref aS, .ref 0, .ref 104, .int (nI i)] [] σ := by
  obtain ⟨r, σ2, s1, s2, s3, s4⟩ := gSp_of hc (as := [.int (Int32.ofNat ((G aS).2.2 (i + 1)))]) (fun v hv => by simp only [List.mem_cons, List.not_mem_nil, or_false] at hv;  subst hv <;> exact ⟨_, rfl⟩) (show B + 1 ≤ B + 100 by omega) (op_leave (d := 4) h (by omega) hR _)
  obtain ⟨a1, b1, c1⟩ := law_ix (j := 1) hi hL (by decide)
  have a1 : nI i + 1 = nI (i + 1) := a1
  rw [BL_law_766 hs hn hx hm]
  simp only [a1, b1, c1, true_and]
  refine s3 σ (fun _ _ => rfl) _ ?_
  simp only [BL_law_775 hs hn hx hm, a1, b1, c1, Option.toList_some, Option.toList_none, List.cons_append, List.nil_append, Nat.zero_add, Nat.reduceAdd, Option.some.injEq, Value.int.injEq, exists_eq_left', true_and, and_true, true_or, or_true, false_or, g_10, ↓reduceIte]
  refine s4 _ law_ag _ ?_
  simp only [BL_law_784 hs hn hx hm, Option.toList_some, Option.toList_none, List.cons_append, List.nil_append, Nat.zero_add, Nat.reduceAdd, Option.some.injEq, Value.int.injEq, exists_eq_left', true_and, and_true, true_or, or_true, false_or, g_10, ↓reduceIte]
  rw [law_both s2]
  exact go σ2 s1 (by rw [s2 126 (Nat.le_refl _)]; exact hmo)
theorem lc_19 (h : gOK G0) (hc : gSep G0) (hs : (G aS).1 = 13) (hn : (G aS).2.1 = L) (hx : isX9 G 0) (hm : isX10 G 104) (hi : i + 4 ≤ L) (hL : L ≤ 2048) (hB : B ≤ 800000) (hR : wRel B σ) (hmo : σ 126 0 = 0) (go : ∀ σ2, wRel (B + 100) σ2 → σ2 126 0 = 0 → gw (gCm' G0 7) G mL_law Q 1250 [.ref aS, .ref 0, .ref 104, .int (nI i)] [] σ2) : gw (gCm' G0 7) G mL_law Q 789 [.ref aS, .ref 0, .ref 104, .int (nI i)] [] σ := by
  obtain ⟨r, σ2, s1, s2, s3, s4⟩ := gSp_of hc (as := []) (fun v hv => absurd hv List.not_mem_nil) (show B + 1 ≤ B + 100 by omega) (op_advance (d := 3) h (by omega) hR)
  rw [BL_law_789 hs hn hx hm]
  refine s3 σ (fun _ _ => rfl) _ ?_
  simp only [BL_law_793 hs hn hx hm, Option.toList_some, Option.toList_none, List.cons_append, List.nil_append, Nat.zero_add, Nat.reduceAdd, Option.some.injEq, Value.int.injEq, exists_eq_left', true_and, and_true, true_or, or_true, false_or, g_10, ↓reduceIte]
  refine s4 _ law_ag _ ?_
  simp only [BL_law_797 hs hn hx hm, Option.toList_some, Option.toList_none, List.cons_append, List.nil_append, Nat.zero_add, Nat.reduceAdd, Option.some.injEq, Value.int.injEq, exists_eq_left', true_and, and_true, true_or, or_true, false_or, g_10, ↓reduceIte]
  rw [law_both s2]
  exact go σ2 s1 (by rw [s2 126 (Nat.le_refl _)]; exact hmo)
theorem lc_20 (h : gOK G0) (hc : gSep G0) (hs : (G aS).1 = 13) (hn : (G aS).2.1 = L) (hx : isX9 G 0) (hm : isX10 G 104) (hi : i + 4 ≤ L) (hL : L ≤ 2048) (hB : B ≤ 800000) (hR : wRel B σ) (hmo : σ 126 0 = 0) (go : ∀ σ2, wRel (B + 100) σ2 → σ2 126 0 = 0 → gw (gCm' G0 7) G mL_law Q 1250 [.ref aS, .ref 0, .ref 104, .int (nI i)] [] σ2) : gw (gCm' G0 7) G mL_law Q 802 [.ref aS, .ref 0, .ref 104, .int (nI i)] [] σ := by
  obtain ⟨r, σ2, s1, s2, s3, s4⟩ := gSp_of hc (as := [.int (Int32.ofNat ((G aS).2.2 (i + 1))), .int (Int32.ofNat ((G aS).2.2 (i + 2))), .int (Int32.ofNat ((G aS).2.2 (i + 3)))]) (fun v hv => by simp only [List.mem_cons, List.not_mem_nil, or_false] at hv;  rcases hv with rfl | rfl | rfl <;> exact ⟨_, rfl⟩) (show B + 1 ≤ B + 100 by omega) (op_would (d := 2) h (by omega) hR _ _ _)
  obtain ⟨a1, b1, c1⟩ := law_ix (j := 1) hi hL (by decide)
  have a1 : nI i + 1 = nI (i + 1) := a1
  obtain ⟨a2, b2, c2⟩ := law_ix (j := 2) hi hL (by decide)
  have a2 : nI i + 2 = nI (i + 2) := a2
  obtain ⟨a3, b3, c3⟩ := law_ix (j := 3) hi hL (by decide)
  have a3 : nI i + 3 = nI (i + 3) := a3
  rw [BL_law_802 hs hn hx hm]
  simp only [a1, b1, c1, a2, b2, c2, a3, b3, c3, true_and]
  refine s3 σ (fun _ _ => rfl) _ ?_
  simp only [BL_law_821 hs hn hx hm, a1, b1, c1, a2, b2, c2, a3, b3, c3, Option.toList_some, Option.toList_none, List.cons_append, List.nil_append, Nat.zero_add, Nat.reduceAdd, Option.some.injEq, Value.int.injEq, exists_eq_left', true_and, and_true, true_or, or_true, false_or, g_10, ↓reduceIte]
  refine s4 _ law_ag _ ?_
  simp only [BL_law_840 hs hn hx hm, Option.toList_some, Option.toList_none, List.cons_append, List.nil_append, Nat.zero_add, Nat.reduceAdd, Option.some.injEq, Value.int.injEq, exists_eq_left', true_and, and_true, true_or, or_true, false_or, g_10, ↓reduceIte]
  rw [law_both s2]
  exact go σ2 s1 (by rw [s2 126 (Nat.le_refl _)]; exact hmo)
theorem lc_21 (h : gOK G0) (hc : gSep G0) (hs : (G aS).1 = 13) (hn : (G aS).2.1 = L) (hx : isX9 G 0) (hm : isX10 G 104) (hi : i + 4 ≤ L) (hL : L ≤ 2048) (hB : B ≤ 800000) (hR : wRel B σ) (hmo : σ 126 0 = 0) (go : ∀ σ2, wRel (B + 100) σ2 → σ2 126 0 = 0 → gw (gCm' G0 7) G mL_law Q 1250 [.ref aS, .ref 0, .ref 104, .int (nI i)] [] σ2) : gw (gCm' G0 7) G mL_law Q 845 [.ref aS, .ref 0, .ref 104, .int (nI i)] [] σ := by
  obtain ⟨r, σ2, s1, s2, s3, s4⟩ := gSp_of hc (as := [.int (Int32.ofNat ((G aS).2.2 (i + 1))), .int (Int32.ofNat ((G aS).2.2 (i + 2)))]) (fun v hv => by simp only [List.mem_cons, List.not_mem_nil, or_false] at hv;  rcases hv with rfl | rfl <;> exact ⟨_, rfl⟩) (show B + 1 ≤ B + 100 by omega) (op_least (d := 2) h (by omega) hR _ _)
  obtain ⟨a1, b1, c1⟩ := law_ix (j := 1) hi hL (by decide)
  have a1 : nI i + 1 = nI (i + 1) := a1
  obtain ⟨a2, b2, c2⟩ := law_ix (j := 2) hi hL (by decide)
  have a2 : nI i + 2 = nI (i + 2) := a2
  rw [BL_law_845 hs hn hx hm]
  simp only [a1, b1, c1, a2, b2, c2, true_and]
  refine s3 σ (fun _ _ => rfl) _ ?_
  simp only [BL_law_859 hs hn hx hm, a1, b1, c1, a2, b2, c2, Option.toList_some, Option.toList_none, List.cons_append, List.nil_append, Nat.zero_add, Nat.reduceAdd, Option.some.injEq, Value.int.injEq, exists_eq_left', true_and, and_true, true_or, or_true, false_or, g_10, ↓reduceIte]
  refine s4 _ law_ag _ ?_
  simp only [BL_law_873 hs hn hx hm, Option.toList_some, Option.toList_none, List.cons_append, List.nil_append, Nat.zero_add, Nat.reduceAdd, Option.some.injEq, Value.int.injEq, exists_eq_left', true_and, and_true, true_or, or_true, false_or, g_10, ↓reduceIte]
  rw [law_both s2]
  exact go σ2 s1 (by rw [s2 126 (Nat.le_refl _)]; exact hmo)
theorem lc_22 (h : gOK G0) (hc : gSep G0) (hs : (G aS).1 = 13) (hn : (G aS).2.1 = L) (hx : isX9 G 0) (hm : isX10 G 104) (hi : i + 4 ≤ L) (hL : L ≤ 2048) (hB : B ≤ 800000) (hR : wRel B σ) (hmo : σ 126 0 = 0) (go : ∀ σ2, wRel (B + 100) σ2 → σ2 126 0 = 0 → gw (gCm' G0 7) G mL_law Q 1250 [.ref aS, .ref 0, .ref 104, .int (nI i)] [] σ2) : gw (gCm' G0 7) G mL_law Q 878 [.ref aS, .ref 0, .ref 104, .int (nI i)] [] σ := by
  obtain ⟨r, σ2, s1, s2, s3, s4⟩ := gSp_of hc (as := [.int (Int32.ofNat ((G aS).2.2 (i + 1)))]) (fun v hv => by simp only [List.mem_cons, List.not_mem_nil, or_false] at hv;  subst hv <;> exact ⟨_, rfl⟩) (show B + 1 ≤ B + 100 by omega) (op_leaked (d := 1) h (by omega) hR _)
  obtain ⟨a1, b1, c1⟩ := law_ix (j := 1) hi hL (by decide)
  have a1 : nI i + 1 = nI (i + 1) := a1
  rw [BL_law_878 hs hn hx hm]
  simp only [a1, b1, c1, true_and]
  refine s3 σ (fun _ _ => rfl) _ ?_
  simp only [BL_law_887 hs hn hx hm, a1, b1, c1, Option.toList_some, Option.toList_none, List.cons_append, List.nil_append, Nat.zero_add, Nat.reduceAdd, Option.some.injEq, Value.int.injEq, exists_eq_left', true_and, and_true, true_or, or_true, false_or, g_10, ↓reduceIte]
  refine s4 _ law_ag _ ?_
  simp only [BL_law_896 hs hn hx hm, Option.toList_some, Option.toList_none, List.cons_append, List.nil_append, Nat.zero_add, Nat.reduceAdd, Option.some.injEq, Value.int.injEq, exists_eq_left', true_and, and_true, true_or, or_true, false_or, g_10, ↓reduceIte]
  rw [law_both s2]
  exact go σ2 s1 (by rw [s2 126 (Nat.le_refl _)]; exact hmo)
theorem lc_23 (h : gOK G0) (hc : gSep G0) (hs : (G aS).1 = 13) (hn : (G aS).2.1 = L) (hx : isX9 G 0) (hm : isX10 G 104) (hi : i + 4 ≤ L) (hL : L ≤ 2048) (hB : B ≤ 800000) (hR : wRel B σ) (hmo : σ 126 0 = 0) (go : ∀ σ2, wRel (B + 100) σ2 → σ2 126 0 = 0 → gw (gCm' G0 7) G mL_law Q 1250 [.ref aS, .ref 0, .ref 104, .int (nI i)] [] σ2) : gw (gCm' G0 7) G mL_law Q 901 [.ref aS, .ref 0, .ref 104, .int (nI i)] [] σ := by
  obtain ⟨r, σ2, s1, s2, s3, s4⟩ := gSp_of hc (as := [.int (Int32.ofNat ((G aS).2.2 (i + 1))), .int (Int32.ofNat ((G aS).2.2 (i + 2)))]) (fun v hv => by simp only [List.mem_cons, List.not_mem_nil, or_false] at hv;  rcases hv with rfl | rfl <;> exact ⟨_, rfl⟩) (show B + 1 ≤ B + 100 by omega) (op_path (d := 2) h (by omega) hR _ _)
  obtain ⟨a1, b1, c1⟩ := law_ix (j := 1) hi hL (by decide)
  have a1 : nI i + 1 = nI (i + 1) := a1
  obtain ⟨a2, b2, c2⟩ := law_ix (j := 2) hi hL (by decide)
  have a2 : nI i + 2 = nI (i + 2) := a2
  rw [BL_law_901 hs hn hx hm]
  simp only [a1, b1, c1, a2, b2, c2, true_and]
  refine s3 σ (fun _ _ => rfl) _ ?_
  simp only [BL_law_915 hs hn hx hm, a1, b1, c1, a2, b2, c2, Option.toList_some, Option.toList_none, List.cons_append, List.nil_append, Nat.zero_add, Nat.reduceAdd, Option.some.injEq, Value.int.injEq, exists_eq_left', true_and, and_true, true_or, or_true, false_or, g_10, ↓reduceIte]
  refine s4 _ law_ag _ ?_
  simp only [BL_law_929 hs hn hx hm, Option.toList_some, Option.toList_none, List.cons_append, List.nil_append, Nat.zero_add, Nat.reduceAdd, Option.some.injEq, Value.int.injEq, exists_eq_left', true_and, and_true, true_or, or_true, false_or, g_10, ↓reduceIte]
  rw [law_both s2]
  exact go σ2 s1 (by rw [s2 126 (Nat.le_refl _)]; exact hmo)
theorem lc_24 (h : gOK G0) (hc : gSep G0) (hs : (G aS).1 = 13) (hn : (G aS).2.1 = L) (hx : isX9 G 0) (hm : isX10 G 104) (hi : i + 4 ≤ L) (hL : L ≤ 2048) (hB : B ≤ 800000) (hR : wRel B σ) (hmo : σ 126 0 = 0) (go : ∀ σ2, wRel (B + 100) σ2 → σ2 126 0 = 0 → gw (gCm' G0 7) G mL_law Q 1250 [.ref aS, .ref 0, .ref 104, .int (nI i)] [] σ2) : gw (gCm' G0 7) G mL_law Q 934 [.ref aS, .ref 0, .ref 104, .int (nI i)] [] σ := by
  obtain ⟨r, σ2, s1, s2, s3, s4⟩ := gSp_of hc (as := [.int (Int32.ofNat ((G aS).2.2 (i + 1)))]) (fun v hv => by simp only [List.mem_cons, List.not_mem_nil, or_false] at hv;  subst hv <;> exact ⟨_, rfl⟩) (show B + 1 ≤ B + 100 by omega) (op_epochs (d := 3) h (by omega) hR _)
  obtain ⟨a1, b1, c1⟩ := law_ix (j := 1) hi hL (by decide)
  have a1 : nI i + 1 = nI (i + 1) := a1
  rw [BL_law_934 hs hn hx hm]
  simp only [a1, b1, c1, true_and]
  refine s3 σ (fun _ _ => rfl) _ ?_
  simp only [BL_law_943 hs hn hx hm, a1, b1, c1, Option.toList_some, Option.toList_none, List.cons_append, List.nil_append, Nat.zero_add, Nat.reduceAdd, Option.some.injEq, Value.int.injEq, exists_eq_left', true_and, and_true, true_or, or_true, false_or, g_10, ↓reduceIte]
  refine s4 _ law_ag _ ?_
  simp only [BL_law_952 hs hn hx hm, Option.toList_some, Option.toList_none, List.cons_append, List.nil_append, Nat.zero_add, Nat.reduceAdd, Option.some.injEq, Value.int.injEq, exists_eq_left', true_and, and_true, true_or, or_true, false_or, g_10, ↓reduceIte]
  rw [law_both s2]
  exact go σ2 s1 (by rw [s2 126 (Nat.le_refl _)]; exact hmo)
theorem lc_25 (h : gOK G0) (hc : gSep G0) (hs : (G aS).1 = 13) (hn : (G aS).2.1 = L) (hx : isX9 G 0) (hm : isX10 G 104) (hi : i + 4 ≤ L) (hL : L ≤ 2048) (hB : B ≤ 800000) (hR : wRel B σ) (hmo : σ 126 0 = 0) (go : ∀ σ2, wRel (B + 100) σ2 → σ2 126 0 = 0 → gw (gCm' G0 7) G mL_law Q 1250 [.ref aS, .ref 0, .ref 104, .int (nI i)] [] σ2) : gw (gCm' G0 7) G mL_law Q 957 [.ref aS, .ref 0, .ref 104, .int (nI i)] [] σ := by
  obtain ⟨r, σ2, s1, s2, s3, s4⟩ := gSp_of hc (as := [.int (Int32.ofNat ((G aS).2.2 (i + 1))), .int (Int32.ofNat ((G aS).2.2 (i + 2)))]) (fun v hv => by simp only [List.mem_cons, List.not_mem_nil, or_false] at hv;  rcases hv with rfl | rfl <;> exact ⟨_, rfl⟩) (show B + 1 ≤ B + 100 by omega) (op_plan (d := 2) h (by omega) hR _ _)
  obtain ⟨a1, b1, c1⟩ := law_ix (j := 1) hi hL (by decide)
  have a1 : nI i + 1 = nI (i + 1) := a1
  obtain ⟨a2, b2, c2⟩ := law_ix (j := 2) hi hL (by decide)
  have a2 : nI i + 2 = nI (i + 2) := a2
  rw [BL_law_957 hs hn hx hm]
  simp only [a1, b1, c1, a2, b2, c2, true_and]
  refine s3 σ (fun _ _ => rfl) _ ?_
  simp only [BL_law_971 hs hn hx hm, a1, b1, c1, a2, b2, c2, Option.toList_some, Option.toList_none, List.cons_append, List.nil_append, Nat.zero_add, Nat.reduceAdd, Option.some.injEq, Value.int.injEq, exists_eq_left', true_and, and_true, true_or, or_true, false_or, g_10, ↓reduceIte]
  refine s4 _ law_ag _ ?_
  simp only [BL_law_985 hs hn hx hm, Option.toList_some, Option.toList_none, List.cons_append, List.nil_append, Nat.zero_add, Nat.reduceAdd, Option.some.injEq, Value.int.injEq, exists_eq_left', true_and, and_true, true_or, or_true, false_or, g_10, ↓reduceIte]
  rw [law_both s2]
  exact go σ2 s1 (by rw [s2 126 (Nat.le_refl _)]; exact hmo)
theorem lc_26 (h : gOK G0) (hc : gSep G0) (hs : (G aS).1 = 13) (hn : (G aS).2.1 = L) (hx : isX9 G 0) (hm : isX10 G 104) (hi : i + 4 ≤ L) (hL : L ≤ 2048) (hB : B ≤ 800000) (hR : wRel B σ) (hmo : σ 126 0 = 0) (go : ∀ σ2, wRel (B + 100) σ2 → σ2 126 0 = 0 → gw (gCm' G0 7) G mL_law Q 1250 [.ref aS, .ref 0, .ref 104, .int (nI i)] [] σ2) : gw (gCm' G0 7) G mL_law Q 990 [.ref aS, .ref 0, .ref 104, .int (nI i)] [] σ := by
  obtain ⟨r, σ2, s1, s2, s3, s4⟩ := gSp_of hc (as := [.int (Int32.ofNat ((G aS).2.2 (i + 1))), .int (Int32.ofNat ((G aS).2.2 (i + 2)))]) (fun v hv => by simp only [List.mem_cons, List.not_mem_nil, or_false] at hv;  rcases hv with rfl | rfl <;> exact ⟨_, rfl⟩) (show B + 1 ≤ B + 100 by omega) (op_told (d := 3) h (by omega) hR _ _)
  obtain ⟨a1, b1, c1⟩ := law_ix (j := 1) hi hL (by decide)
  have a1 : nI i + 1 = nI (i + 1) := a1
  obtain ⟨a2, b2, c2⟩ := law_ix (j := 2) hi hL (by decide)
  have a2 : nI i + 2 = nI (i + 2) := a2
  rw [BL_law_990 hs hn hx hm]
  simp only [a1, b1, c1, a2, b2, c2, true_and]
  refine s3 σ (fun _ _ => rfl) _ ?_
  simp only [BL_law_1004 hs hn hx hm, a1, b1, c1, a2, b2, c2, Option.toList_some, Option.toList_none, List.cons_append, List.nil_append, Nat.zero_add, Nat.reduceAdd, Option.some.injEq, Value.int.injEq, exists_eq_left', true_and, and_true, true_or, or_true, false_or, g_10, ↓reduceIte]
  refine s4 _ law_ag _ ?_
  simp only [BL_law_1018 hs hn hx hm, Option.toList_some, Option.toList_none, List.cons_append, List.nil_append, Nat.zero_add, Nat.reduceAdd, Option.some.injEq, Value.int.injEq, exists_eq_left', true_and, and_true, true_or, or_true, false_or, g_10, ↓reduceIte]
  rw [law_both s2]
  exact go σ2 s1 (by rw [s2 126 (Nat.le_refl _)]; exact hmo)
theorem lc_27 (h : gOK G0) (hc : gSep G0) (hs : (G aS).1 = 13) (hn : (G aS).2.1 = L) (hx : isX9 G 0) (hm : isX10 G 104) (hi : i + 4 ≤ L) (hL : L ≤ 2048) (hB : B ≤ 800000) (hR : wRel B σ) (hmo : σ 126 0 = 0) (go : ∀ σ2, wRel (B + 100) σ2 → σ2 126 0 = 0 → gw (gCm' G0 7) G mL_law Q 1250 [.ref aS, .ref 0, .ref 104, .int (nI i)] [] σ2) : gw (gCm' G0 7) G mL_law Q 1023 [.ref aS, .ref 0, .ref 104, .int (nI i)] [] σ := by
  obtain ⟨r, σ2, s1, s2, s3, s4⟩ := gSp_of hc (as := [.int (Int32.ofNat ((G aS).2.2 (i + 1)))]) (fun v hv => by simp only [List.mem_cons, List.not_mem_nil, or_false] at hv;  subst hv <;> exact ⟨_, rfl⟩) (show B + 1 ≤ B + 100 by omega) (op_feed (d := 4) h (by omega) hR hmo _)
  obtain ⟨a1, b1, c1⟩ := law_ix (j := 1) hi hL (by decide)
  have a1 : nI i + 1 = nI (i + 1) := a1
  rw [BL_law_1023 hs hn hx hm]
  simp only [a1, b1, c1, true_and]
  refine s3 σ (fun _ _ => rfl) _ ?_
  simp only [BL_law_1032 hs hn hx hm, a1, b1, c1, Option.toList_some, Option.toList_none, List.cons_append, List.nil_append, Nat.zero_add, Nat.reduceAdd, Option.some.injEq, Value.int.injEq, exists_eq_left', true_and, and_true, true_or, or_true, false_or, g_10, ↓reduceIte]
  refine s4 _ law_ag _ ?_
  simp only [BL_law_1041 hs hn hx hm, Option.toList_some, Option.toList_none, List.cons_append, List.nil_append, Nat.zero_add, Nat.reduceAdd, Option.some.injEq, Value.int.injEq, exists_eq_left', true_and, and_true, true_or, or_true, false_or, g_10, ↓reduceIte]
  rw [law_both s2]
  exact go σ2 s1 (by rw [s2 126 (Nat.le_refl _)]; exact hmo)
theorem lc_28 (h : gOK G0) (hc : gSep G0) (hs : (G aS).1 = 13) (hn : (G aS).2.1 = L) (hx : isX9 G 0) (hm : isX10 G 104) (hi : i + 4 ≤ L) (hL : L ≤ 2048) (hB : B ≤ 800000) (hR : wRel B σ) (hmo : σ 126 0 = 0) (go : ∀ σ2, wRel (B + 100) σ2 → σ2 126 0 = 0 → gw (gCm' G0 7) G mL_law Q 1250 [.ref aS, .ref 0, .ref 104, .int (nI i)] [] σ2) : gw (gCm' G0 7) G mL_law Q 1046 [.ref aS, .ref 0, .ref 104, .int (nI i)] [] σ := by
  obtain ⟨r, σ2, s1, s2, s3, s4⟩ := sp_script (d := 0) h hc hB hR hmo
  rw [BL_law_1046 hs hn hx hm]
  refine s3 σ (fun _ _ => rfl) _ ?_
  simp only [BL_law_1050 hs hn hx hm, Option.toList_some, Option.toList_none, List.cons_append, List.nil_append, Nat.zero_add, Nat.reduceAdd, Option.some.injEq, Value.int.injEq, exists_eq_left', true_and, and_true, true_or, or_true, false_or, g_10, ↓reduceIte]
  refine s4 _ law_ag _ ?_
  simp only [BL_law_1054 hs hn hx hm, Option.toList_some, Option.toList_none, List.cons_append, List.nil_append, Nat.zero_add, Nat.reduceAdd, Option.some.injEq, Value.int.injEq, exists_eq_left', true_and, and_true, true_or, or_true, false_or, g_10, ↓reduceIte]
  rw [law_both s2]
  exact go σ2 s1 (by rw [s2 126 (Nat.le_refl _)]; exact hmo)
theorem lc_29 (h : gOK G0) (hc : gSep G0) (hs : (G aS).1 = 13) (hn : (G aS).2.1 = L) (hx : isX9 G 0) (hm : isX10 G 104) (hi : i + 4 ≤ L) (hL : L ≤ 2048) (hB : B ≤ 800000) (hR : wRel B σ) (hmo : σ 126 0 = 0) (go : ∀ σ2, wRel (B + 100) σ2 → σ2 126 0 = 0 → gw (gCm' G0 7) G mL_law Q 1250 [.ref aS, .ref 0, .ref 104, .int (nI i)] [] σ2) : gw (gCm' G0 7) G mL_law Q 1059 [.ref aS, .ref 0, .ref 104, .int (nI i)] [] σ := by
  obtain ⟨r, σ2, s1, s2, s3, s4⟩ := gSp_of hc (as := []) (fun v hv => absurd hv List.not_mem_nil) (show B + 1 ≤ B + 100 by omega) (op_image (d := 3) h (by omega) hR hmo)
  rw [BL_law_1059 hs hn hx hm]
  refine s3 σ (fun _ _ => rfl) _ ?_
  simp only [BL_law_1063 hs hn hx hm, Option.toList_some, Option.toList_none, List.cons_append, List.nil_append, Nat.zero_add, Nat.reduceAdd, Option.some.injEq, Value.int.injEq, exists_eq_left', true_and, and_true, true_or, or_true, false_or, g_10, ↓reduceIte]
  refine s4 _ law_ag _ ?_
  simp only [BL_law_1067 hs hn hx hm, Option.toList_some, Option.toList_none, List.cons_append, List.nil_append, Nat.zero_add, Nat.reduceAdd, Option.some.injEq, Value.int.injEq, exists_eq_left', true_and, and_true, true_or, or_true, false_or, g_10, ↓reduceIte]
  rw [law_both s2]
  exact go σ2 s1 (by rw [s2 126 (Nat.le_refl _)]; exact hmo)
theorem lc_30 (h : gOK G0) (hc : gSep G0) (hs : (G aS).1 = 13) (hn : (G aS).2.1 = L) (hx : isX9 G 0) (hm : isX10 G 104) (hi : i + 4 ≤ L) (hL : L ≤ 2048) (hB : B ≤ 800000) (hR : wRel B σ) (hmo : σ 126 0 = 0) (go : ∀ σ2, wRel (B + 100) σ2 → σ2 126 0 = 0 → gw (gCm' G0 7) G mL_law Q 1250 [.ref aS, .ref 0, .ref 104, .int (nI i)] [] σ2) : gw (gCm' G0 7) G mL_law Q 1072 [.ref aS, .ref 0, .ref 104, .int (nI i)] [] σ := by
  obtain ⟨r, σ2, s1, s2, s3, s4⟩ := gSp_of hc (as := []) (fun v hv => absurd hv List.not_mem_nil) (show B + 1 ≤ B + 100 by omega) (op_back (d := 3) h (by omega) hR)
  rw [BL_law_1072 hs hn hx hm]
  refine s3 σ (fun _ _ => rfl) _ ?_
  simp only [BL_law_1076 hs hn hx hm, Option.toList_some, Option.toList_none, List.cons_append, List.nil_append, Nat.zero_add, Nat.reduceAdd, Option.some.injEq, Value.int.injEq, exists_eq_left', true_and, and_true, true_or, or_true, false_or, g_10, ↓reduceIte]
  refine s4 _ law_ag _ ?_
  simp only [BL_law_1080 hs hn hx hm, Option.toList_some, Option.toList_none, List.cons_append, List.nil_append, Nat.zero_add, Nat.reduceAdd, Option.some.injEq, Value.int.injEq, exists_eq_left', true_and, and_true, true_or, or_true, false_or, g_10, ↓reduceIte]
  rw [law_both s2]
  exact go σ2 s1 (by rw [s2 126 (Nat.le_refl _)]; exact hmo)
theorem lc_31 (h : gOK G0) (hc : gSep G0) (hs : (G aS).1 = 13) (hn : (G aS).2.1 = L) (hx : isX9 G 0) (hm : isX10 G 104) (hi : i + 4 ≤ L) (hL : L ≤ 2048) (hB : B ≤ 800000) (hR : wRel B σ) (hmo : σ 126 0 = 0) (go : ∀ σ2, wRel (B + 100) σ2 → σ2 126 0 = 0 → gw (gCm' G0 7) G mL_law Q 1250 [.ref aS, .ref 0, .ref 104, .int (nI i)] [] σ2) : gw (gCm' G0 7) G mL_law Q 1085 [.ref aS, .ref 0, .ref 104, .int (nI i)] [] σ := by
  obtain ⟨r, σ2, s1, s2, s3, s4⟩ := gSp_of hc (as := [.int (Int32.ofNat ((G aS).2.2 (i + 1))), .int (Int32.ofNat ((G aS).2.2 (i + 2)))]) (fun v hv => by simp only [List.mem_cons, List.not_mem_nil, or_false] at hv;  rcases hv with rfl | rfl <;> exact ⟨_, rfl⟩) (show B + 1 ≤ B + 100 by omega) (op_hold (d := 3) h (by omega) hR hmo _ _)
  obtain ⟨a1, b1, c1⟩ := law_ix (j := 1) hi hL (by decide)
  have a1 : nI i + 1 = nI (i + 1) := a1
  obtain ⟨a2, b2, c2⟩ := law_ix (j := 2) hi hL (by decide)
  have a2 : nI i + 2 = nI (i + 2) := a2
  rw [BL_law_1085 hs hn hx hm]
  simp only [a1, b1, c1, a2, b2, c2, true_and]
  refine s3 σ (fun _ _ => rfl) _ ?_
  simp only [BL_law_1099 hs hn hx hm, a1, b1, c1, a2, b2, c2, Option.toList_some, Option.toList_none, List.cons_append, List.nil_append, Nat.zero_add, Nat.reduceAdd, Option.some.injEq, Value.int.injEq, exists_eq_left', true_and, and_true, true_or, or_true, false_or, g_10, ↓reduceIte]
  refine s4 _ law_ag _ ?_
  simp only [BL_law_1113 hs hn hx hm, Option.toList_some, Option.toList_none, List.cons_append, List.nil_append, Nat.zero_add, Nat.reduceAdd, Option.some.injEq, Value.int.injEq, exists_eq_left', true_and, and_true, true_or, or_true, false_or, g_10, ↓reduceIte]
  rw [law_both s2]
  exact go σ2 s1 (by rw [s2 126 (Nat.le_refl _)]; exact hmo)
theorem lc_32 (h : gOK G0) (hc : gSep G0) (hs : (G aS).1 = 13) (hn : (G aS).2.1 = L) (hx : isX9 G 0) (hm : isX10 G 104) (hi : i + 4 ≤ L) (hL : L ≤ 2048) (hB : B ≤ 800000) (hR : wRel B σ) (hmo : σ 126 0 = 0) (go : ∀ σ2, wRel (B + 100) σ2 → σ2 126 0 = 0 → gw (gCm' G0 7) G mL_law Q 1250 [.ref aS, .ref 0, .ref 104, .int (nI i)] [] σ2) : gw (gCm' G0 7) G mL_law Q 1118 [.ref aS, .ref 0, .ref 104, .int (nI i)] [] σ := by
  obtain ⟨r, σ2, s1, s2, s3, s4⟩ := gSp_of hc (as := [.int (Int32.ofNat ((G aS).2.2 (i + 1))), .int (Int32.ofNat ((G aS).2.2 (i + 2)))]) (fun v hv => by simp only [List.mem_cons, List.not_mem_nil, or_false] at hv;  rcases hv with rfl | rfl <;> exact ⟨_, rfl⟩) (show B + 1 ≤ B + 100 by omega) (op_row (d := 3) h (by omega) hR hmo _ _)
  obtain ⟨a1, b1, c1⟩ := law_ix (j := 1) hi hL (by decide)
  have a1 : nI i + 1 = nI (i + 1) := a1
  obtain ⟨a2, b2, c2⟩ := law_ix (j := 2) hi hL (by decide)
  have a2 : nI i + 2 = nI (i + 2) := a2
  rw [BL_law_1118 hs hn hx hm]
  simp only [a1, b1, c1, a2, b2, c2, true_and]
  refine s3 σ (fun _ _ => rfl) _ ?_
  simp only [BL_law_1132 hs hn hx hm, a1, b1, c1, a2, b2, c2, Option.toList_some, Option.toList_none, List.cons_append, List.nil_append, Nat.zero_add, Nat.reduceAdd, Option.some.injEq, Value.int.injEq, exists_eq_left', true_and, and_true, true_or, or_true, false_or, g_10, ↓reduceIte]
  refine s4 _ law_ag _ ?_
  simp only [BL_law_1146 hs hn hx hm, Option.toList_some, Option.toList_none, List.cons_append, List.nil_append, Nat.zero_add, Nat.reduceAdd, Option.some.injEq, Value.int.injEq, exists_eq_left', true_and, and_true, true_or, or_true, false_or, g_10, ↓reduceIte]
  rw [law_both s2]
  exact go σ2 s1 (by rw [s2 126 (Nat.le_refl _)]; exact hmo)
theorem lc_33 (h : gOK G0) (hc : gSep G0) (hs : (G aS).1 = 13) (hn : (G aS).2.1 = L) (hx : isX9 G 0) (hm : isX10 G 104) (hi : i + 4 ≤ L) (hL : L ≤ 2048) (hB : B ≤ 800000) (hR : wRel B σ) (hmo : σ 126 0 = 0) (go : ∀ σ2, wRel (B + 100) σ2 → σ2 126 0 = 0 → gw (gCm' G0 7) G mL_law Q 1250 [.ref aS, .ref 0, .ref 104, .int (nI i)] [] σ2) : gw (gCm' G0 7) G mL_law Q 1151 [.ref aS, .ref 0, .ref 104, .int (nI i)] [] σ := by
  obtain ⟨r, σ2, s1, s2, s3, s4⟩ := gSp_of hc (as := [.int (Int32.ofNat ((G aS).2.2 (i + 1))), .int (Int32.ofNat ((G aS).2.2 (i + 2))), .int (Int32.ofNat ((G aS).2.2 (i + 3)))]) (fun v hv => by simp only [List.mem_cons, List.not_mem_nil, or_false] at hv;  rcases hv with rfl | rfl | rfl <;> exact ⟨_, rfl⟩) (show B + 1 ≤ B + 100 by omega) (op_put (d := 3) h (by omega) hR hmo _ _ _)
  obtain ⟨a1, b1, c1⟩ := law_ix (j := 1) hi hL (by decide)
  have a1 : nI i + 1 = nI (i + 1) := a1
  obtain ⟨a2, b2, c2⟩ := law_ix (j := 2) hi hL (by decide)
  have a2 : nI i + 2 = nI (i + 2) := a2
  obtain ⟨a3, b3, c3⟩ := law_ix (j := 3) hi hL (by decide)
  have a3 : nI i + 3 = nI (i + 3) := a3
  rw [BL_law_1151 hs hn hx hm]
  simp only [a1, b1, c1, a2, b2, c2, a3, b3, c3, true_and]
  refine s3 σ (fun _ _ => rfl) _ ?_
  simp only [BL_law_1170 hs hn hx hm, a1, b1, c1, a2, b2, c2, a3, b3, c3, Option.toList_some, Option.toList_none, List.cons_append, List.nil_append, Nat.zero_add, Nat.reduceAdd, Option.some.injEq, Value.int.injEq, exists_eq_left', true_and, and_true, true_or, or_true, false_or, g_10, ↓reduceIte]
  refine s4 _ law_ag _ ?_
  simp only [BL_law_1189 hs hn hx hm, Option.toList_some, Option.toList_none, List.cons_append, List.nil_append, Nat.zero_add, Nat.reduceAdd, Option.some.injEq, Value.int.injEq, exists_eq_left', true_and, and_true, true_or, or_true, false_or, g_10, ↓reduceIte]
  rw [law_both s2]
  exact go σ2 s1 (by rw [s2 126 (Nat.le_refl _)]; exact hmo)
theorem lc_34 (h : gOK G0) (hc : gSep G0) (hs : (G aS).1 = 13) (hn : (G aS).2.1 = L) (hx : isX9 G 0) (hm : isX10 G 104) (hi : i + 4 ≤ L) (hL : L ≤ 2048) (hB : B ≤ 800000) (hR : wRel B σ) (hmo : σ 126 0 = 0) (go : ∀ σ2, wRel (B + 100) σ2 → σ2 126 0 = 0 → gw (gCm' G0 7) G mL_law Q 1250 [.ref aS, .ref 0, .ref 104, .int (nI i)] [] σ2) : gw (gCm' G0 7) G mL_law Q 1194 [.ref aS, .ref 0, .ref 104, .int (nI i)] [] σ := by
  obtain ⟨r, σ2, s1, s2, s3, s4⟩ := gSp_of hc (as := [.int (Int32.ofNat ((G aS).2.2 (i + 1))), .int (Int32.ofNat ((G aS).2.2 (i + 2)))]) (fun v hv => by simp only [List.mem_cons, List.not_mem_nil, or_false] at hv;  rcases hv with rfl | rfl <;> exact ⟨_, rfl⟩) (show B + 1 ≤ B + 100 by omega) (op_tells (d := 2) h (by omega) hR _ _)
  obtain ⟨a1, b1, c1⟩ := law_ix (j := 1) hi hL (by decide)
  have a1 : nI i + 1 = nI (i + 1) := a1
  obtain ⟨a2, b2, c2⟩ := law_ix (j := 2) hi hL (by decide)
  have a2 : nI i + 2 = nI (i + 2) := a2
  rw [BL_law_1194 hs hn hx hm]
  simp only [a1, b1, c1, a2, b2, c2, true_and]
  refine s3 σ (fun _ _ => rfl) _ ?_
  simp only [BL_law_1208 hs hn hx hm, a1, b1, c1, a2, b2, c2, Option.toList_some, Option.toList_none, List.cons_append, List.nil_append, Nat.zero_add, Nat.reduceAdd, Option.some.injEq, Value.int.injEq, exists_eq_left', true_and, and_true, true_or, or_true, false_or, g_10, ↓reduceIte]
  refine s4 _ law_ag _ ?_
  simp only [BL_law_1222 hs hn hx hm, Option.toList_some, Option.toList_none, List.cons_append, List.nil_append, Nat.zero_add, Nat.reduceAdd, Option.some.injEq, Value.int.injEq, exists_eq_left', true_and, and_true, true_or, or_true, false_or, g_10, ↓reduceIte]
  rw [law_both s2]
  exact go σ2 s1 (by rw [s2 126 (Nat.le_refl _)]; exact hmo)
theorem lc_35 (h : gOK G0) (hc : gSep G0) (hs : (G aS).1 = 13) (hn : (G aS).2.1 = L) (hx : isX9 G 0) (hm : isX10 G 104) (hi : i + 4 ≤ L) (hL : L ≤ 2048) (hB : B ≤ 800000) (hR : wRel B σ) (hmo : σ 126 0 = 0) (go : ∀ σ2, wRel (B + 100) σ2 → σ2 126 0 = 0 → gw (gCm' G0 7) G mL_law Q 1250 [.ref aS, .ref 0, .ref 104, .int (nI i)] [] σ2) : gw (gCm' G0 7) G mL_law Q 1227 [.ref aS, .ref 0, .ref 104, .int (nI i)] [] σ := by
  obtain ⟨r, σ2, s1, s2, s3, s4⟩ := gSp_of hc (as := [.int (Int32.ofNat ((G aS).2.2 (i + 1)))]) (fun v hv => by simp only [List.mem_cons, List.not_mem_nil, or_false] at hv;  subst hv <;> exact ⟨_, rfl⟩) (show B + 1 ≤ B + 100 by omega) (op_count (d := 3) h (by omega) hR hmo _)
  obtain ⟨a1, b1, c1⟩ := law_ix (j := 1) hi hL (by decide)
  have a1 : nI i + 1 = nI (i + 1) := a1
  rw [BL_law_1227 hs hn hx hm]
  simp only [a1, b1, c1, true_and]
  refine s3 σ (fun _ _ => rfl) _ ?_
  simp only [BL_law_1236 hs hn hx hm, a1, b1, c1, Option.toList_some, Option.toList_none, List.cons_append, List.nil_append, Nat.zero_add, Nat.reduceAdd, Option.some.injEq, Value.int.injEq, exists_eq_left', true_and, and_true, true_or, or_true, false_or, g_10, ↓reduceIte]
  refine s4 _ law_ag _ ?_
  simp only [BL_law_1245 hs hn hx hm, Option.toList_some, Option.toList_none, List.cons_append, List.nil_append, Nat.zero_add, Nat.reduceAdd, Option.some.injEq, Value.int.injEq, exists_eq_left', true_and, and_true, true_or, or_true, false_or, g_10, ↓reduceIte]
  rw [law_both s2]
  exact go σ2 s1 (by rw [s2 126 (Nat.le_refl _)]; exact hmo)
theorem law_lt (h : L < 4) : nI L - 4 < nI i ∨ 2147483648 ≤ i := by
  rcases Nat.lt_or_ge i 2147483648 with z | z
  · refine Or.inl ?_
    rw [Int32.lt_iff_toInt_lt, nI_toInt (by omega)]
    have : (nI L - 4).toInt < 0 := by
      rcases (by omega : L = 0 ∨ L = 1 ∨ L = 2 ∨ L = 3) with rfl | rfl | rfl | rfl <;> decide
    omega
  · exact Or.inr z
theorem law_loop (h : gOK G0) (hc : gSep G0) (hs : (G aS).1 = 13) (hn : (G aS).2.1 = L) (hx : isX9 G 0) (hm : isX10 G 104) (hL : L ≤ 2048) (hQ : ∀ σ, Q (some (.int 1)) σ) : ∀ (n i B : Nat) (σ : gM), L ≤ i + 4 * n → i ≤ 3000 → B + 100 * n ≤ 800000 → wRel B σ → σ 126 0 = 0 → gw (gCm' G0 7) G mL_law Q 18 [.ref aS, .ref 0, .ref 104, .int (nI i)] [] σ := by
  intro n
  have fin : ∀ (i : Nat) (σ : gM), L < i + 4 → i ≤ 3000 → gw (gCm' G0 7) G mL_law Q 18 [.ref aS, .ref 0, .ref 104, .int (nI i)] [] σ := fun i σ hi h3 => by
    have g : Int32.ofNat L - 4 < nI i := by
      by_cases c : L < 4
      · rcases law_lt (i := i) c with z | z
        · exact z
        · omega
      · show nI L - nI 4 < nI i
        rw [pk_sub (by omega)]
        exact nI_lt (by omega) (by omega)
    rw [BL_law_18 hs hn hx hm, if_pos g]
    exact hQ σ
  induction n with
  | zero => intro i B σ hi h3 _ _ _; exact fin i σ (by omega) h3
  | succ n ih =>
    intro i B σ hi h3 hB hR hmo
    by_cases c : i + 4 ≤ L
    case neg => exact fin i σ (by omega) h3
    have g : ¬ Int32.ofNat L - 4 < nI i := by
      show ¬ nI L - nI 4 < nI i
      rw [pk_sub (by omega)]
      exact nI_nlt (by omega) (by omega)
    have go : ∀ σ2, wRel (B + 100) σ2 → σ2 126 0 = 0 → gw (gCm' G0 7) G mL_law Q 1250 [.ref aS, .ref 0, .ref 104, .int (nI i)] [] σ2 := fun σ2 hR2 hm2 => by
      have e : nI i + 4 = nI (i + 4) := nI_add i 4
      rw [BL_law_1250 hs hn hx hm, e]
      exact ih (i + 4) (B + 100) σ2 (by omega) (by omega) (by omega) hR2 hm2
    have v1 : vp_in (nI i) L := vp_in_nI (by omega) (by omega)
    have v2 : (nI i).toNatClampNeg = i := nI_clamp (by omega)
    have hB2 : B ≤ 800000 := by omega
    rw [BL_law_18 hs hn hx hm, if_neg g, v2]
    refine ⟨v1, ?_⟩
    generalize Int32.ofNat ((G aS).2.2 i) &&& 63 = y
    by_cases e0 : y = 0
    · rw [if_pos e0]; exact lc_0 h hc hs hn hx hm c hL hB2 hR hmo go
    rw [if_neg e0]
    by_cases e1 : y = 1
    · rw [if_pos e1]; exact lc_1 h hc hs hn hx hm c hL hB2 hR hmo go
    rw [if_neg e1]
    by_cases e2 : y = 2
    · rw [if_pos e2]; exact lc_2 h hc hs hn hx hm c hL hB2 hR hmo go
    rw [if_neg e2]
    by_cases e3 : y = 3
    · rw [if_pos e3]; exact lc_3 h hc hs hn hx hm c hL hB2 hR hmo go
    rw [if_neg e3]
    by_cases e4 : y = 4
    · rw [if_pos e4]; exact lc_4 h hc hs hn hx hm c hL hB2 hR hmo go
    rw [if_neg e4]
    by_cases e5 : y = 5
    · rw [if_pos e5]; exact lc_5 h hc hs hn hx hm c hL hB2 hR hmo go
    rw [if_neg e5]
    by_cases e6 : y = 6
    · rw [if_pos e6]; exact lc_6 h hc hs hn hx hm c hL hB2 hR hmo go
    rw [if_neg e6]
    by_cases e7 : y = 7
    · rw [if_pos e7]; exact lc_7 h hc hs hn hx hm c hL hB2 hR hmo go
    rw [if_neg e7]
    by_cases e8 : y = 8
    · rw [if_pos e8]; exact lc_8 h hc hs hn hx hm c hL hB2 hR hmo go
    rw [if_neg e8]
    by_cases e9 : y = 9
    · rw [if_pos e9]; exact lc_9 h hc hs hn hx hm c hL hB2 hR hmo go
    rw [if_neg e9]
    by_cases e10 : y = 10
    · rw [if_pos e10]; exact lc_10 h hc hs hn hx hm c hL hB2 hR hmo go
    rw [if_neg e10]
    by_cases e11 : y = 11
    · rw [if_pos e11]; exact lc_11 h hc hs hn hx hm c hL hB2 hR hmo go
    rw [if_neg e11]
    by_cases e12 : y = 12
    · rw [if_pos e12]; exact lc_12 h hc hs hn hx hm c hL hB2 hR hmo go
    rw [if_neg e12]
    by_cases e13 : y = 13
    · rw [if_pos e13]; exact lc_13 h hc hs hn hx hm c hL hB2 hR hmo go
    rw [if_neg e13]
    by_cases e14 : y = 14
    · rw [if_pos e14]; exact lc_14 h hc hs hn hx hm c hL hB2 hR hmo go
    rw [if_neg e14]
    by_cases e15 : y = 15
    · rw [if_pos e15]; exact lc_15 h hc hs hn hx hm c hL hB2 hR hmo go
    rw [if_neg e15]
    by_cases e16 : y = 16
    · rw [if_pos e16]; exact lc_16 h hc hs hn hx hm c hL hB2 hR hmo go
    rw [if_neg e16]
    by_cases e17 : y = 17
    · rw [if_pos e17]; exact lc_17 h hc hs hn hx hm c hL hB2 hR hmo go
    rw [if_neg e17]
    by_cases e18 : y = 18
    · rw [if_pos e18]; exact lc_18 h hc hs hn hx hm c hL hB2 hR hmo go
    rw [if_neg e18]
    by_cases e19 : y = 19
    · rw [if_pos e19]; exact lc_19 h hc hs hn hx hm c hL hB2 hR hmo go
    rw [if_neg e19]
    by_cases e20 : y = 20
    · rw [if_pos e20]; exact lc_20 h hc hs hn hx hm c hL hB2 hR hmo go
    rw [if_neg e20]
    by_cases e21 : y = 21
    · rw [if_pos e21]; exact lc_21 h hc hs hn hx hm c hL hB2 hR hmo go
    rw [if_neg e21]
    by_cases e22 : y = 22
    · rw [if_pos e22]; exact lc_22 h hc hs hn hx hm c hL hB2 hR hmo go
    rw [if_neg e22]
    by_cases e23 : y = 23
    · rw [if_pos e23]; exact lc_23 h hc hs hn hx hm c hL hB2 hR hmo go
    rw [if_neg e23]
    by_cases e24 : y = 24
    · rw [if_pos e24]; exact lc_24 h hc hs hn hx hm c hL hB2 hR hmo go
    rw [if_neg e24]
    by_cases e25 : y = 25
    · rw [if_pos e25]; exact lc_25 h hc hs hn hx hm c hL hB2 hR hmo go
    rw [if_neg e25]
    by_cases e26 : y = 26
    · rw [if_pos e26]; exact lc_26 h hc hs hn hx hm c hL hB2 hR hmo go
    rw [if_neg e26]
    by_cases e27 : y = 27
    · rw [if_pos e27]; exact lc_27 h hc hs hn hx hm c hL hB2 hR hmo go
    rw [if_neg e27]
    by_cases e28 : y = 28
    · rw [if_pos e28]; exact lc_28 h hc hs hn hx hm c hL hB2 hR hmo go
    rw [if_neg e28]
    by_cases e29 : y = 29
    · rw [if_pos e29]; exact lc_29 h hc hs hn hx hm c hL hB2 hR hmo go
    rw [if_neg e29]
    by_cases e30 : y = 30
    · rw [if_pos e30]; exact lc_30 h hc hs hn hx hm c hL hB2 hR hmo go
    rw [if_neg e30]
    by_cases e31 : y = 31
    · rw [if_pos e31]; exact lc_31 h hc hs hn hx hm c hL hB2 hR hmo go
    rw [if_neg e31]
    by_cases e32 : y = 32
    · rw [if_pos e32]; exact lc_32 h hc hs hn hx hm c hL hB2 hR hmo go
    rw [if_neg e32]
    by_cases e33 : y = 33
    · rw [if_pos e33]; exact lc_33 h hc hs hn hx hm c hL hB2 hR hmo go
    rw [if_neg e33]
    by_cases e34 : y = 34
    · rw [if_pos e34]; exact lc_34 h hc hs hn hx hm c hL hB2 hR hmo go
    rw [if_neg e34]
    by_cases e35 : y = 35
    · rw [if_pos e35]; exact lc_35 h hc hs hn hx hm c hL hB2 hR hmo go
    rw [if_neg e35]
    exact go σ (wRel_up hR (by omega)) hmo
end O60
