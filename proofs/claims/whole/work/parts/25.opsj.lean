section O25
variable {G : gG} {d B : Nat} {σ : gM} {K : gK}
/-- a region more -/
theorem wMem_reg {m : gM} {g : Nat → Int32} {n b l : Nat} {w : Int32} (hM : wMem B m g) (hn : m 2 0 = nI n) (h6 : n < 6) (hb : b = if n = 0 then 0 else gN (m 3 (n - 1)) + gN (m 4 (n - 1))) (hl : 8 ≤ l) (hl2 : l ≤ 120) (hbl : b + l ≤ 240) (hw : w = 0 ∨ w = 1) :
    wMem B (g_up (g_up (g_up (g_up m 3 n (nI b)) 4 n (nI l)) 5 n w) 2 0 (nI (n + 1))) (upd (upd (upd (upd g 570 (nI (n + 1))) (571 + n) (nI b)) (577 + n) (nI l)) (583 + n) w) := by
  obtain ⟨⟨⟨r1, r2⟩, sl, gr, re⟩, t, c⟩ := hM
  have en : gN (m 2 0) = n := by rw [hn]; exact gN_nI (by omega)
  have fo : ∀ i, i ≠ 2 → i ≠ 3 → i ≠ 4 → i ≠ 5 → (g_up (g_up (g_up (g_up m 3 n (nI b)) 4 n (nI l)) 5 n w) 2 0 (nI (n + 1))) i = m i := fun i h2 h3 h4 h5 => by
    rw [g_up_o h2, g_up_o h5, g_up_o h4, g_up_o h3]
  have f2 : (g_up (g_up (g_up (g_up m 3 n (nI b)) 4 n (nI l)) 5 n w) 2 0 (nI (n + 1))) 2 0 = nI (n + 1) := g_up_3
  have f3 : ∀ i, (g_up (g_up (g_up (g_up m 3 n (nI b)) 4 n (nI l)) 5 n w) 2 0 (nI (n + 1))) 3 i = if i = n then nI b else m 3 i := fun i => by
    rw [g_up_o (by decide), g_up_o (by decide), g_up_o (by decide), g_up_d, if_pos rfl]
  have f4 : ∀ i, (g_up (g_up (g_up (g_up m 3 n (nI b)) 4 n (nI l)) 5 n w) 2 0 (nI (n + 1))) 4 i = if i = n then nI l else m 4 i := fun i => by
    rw [g_up_o (by decide), g_up_o (by decide), g_up_d, if_pos rfl, g_up_o (by decide)]
  have f5 : ∀ i, (g_up (g_up (g_up (g_up m 3 n (nI b)) 4 n (nI l)) 5 n w) 2 0 (nI (n + 1))) 5 i = if i = n then w else m 5 i := fun i => by
    rw [g_up_o (by decide), g_up_d, if_pos rfl, g_up_o (by decide), g_up_o (by decide)]
  refine ⟨⟨⟨by rw [f2]; exact gNn_nI (by omega) (by decide), fun r hr => ?_⟩, fun s hs => ?_, wGrd_c gr (fo _ (by decide) (by decide) (by decide) (by decide)) (fo _ (by decide) (by decide) (by decide) (by decide)) (fo _ (by decide) (by decide) (by decide) (by decide)) (fo _ (by decide) (by decide) (by decide) (by decide)), wRest_c re (Nat.le_refl _) (by rw [fo _ (by decide) (by decide) (by decide) (by decide)]) (fo _ (by decide) (by decide) (by decide) (by decide)) (fo _ (by decide) (by decide) (by decide) (by decide))⟩, wTag_c t (Nat.le_refl _) (fo _ (by decide) (by decide) (by decide) (by decide)) (fo _ (by decide) (by decide) (by decide) (by decide)) (fo _ (by decide) (by decide) (by decide) (by decide)) (fo _ (by decide) (by decide) (by decide) (by decide)) ?_ (fun s hs => ?_), ?_⟩
  · rw [f2, gN_nI (by omega)] at hr
    rw [f3, f4, f5, f3, f2, gN_nI (by omega)]
    by_cases e : r = n
    · subst e
      simp only [↓reduceIte]
      refine ⟨gNn_nI (by omega) (by decide), gNn_nI hl2 (by decide), ?_, hw, ?_, fun z => ?_, fun z => by omega⟩
      · rw [gN_nI (by omega)]; exact hl
      · rw [gN_nI (by omega), gN_nI (by omega)]; exact hbl
      · rw [gN_nI (by omega), hb, if_pos z]
    · simp only [e, ↓reduceIte]
      obtain ⟨q1, q2, q3, q4, q5, q6, q7⟩ := r2 r (by omega)
      refine ⟨q1, q2, q3, q4, q5, q6, fun z => ?_⟩
      by_cases e2 : r + 1 = n
      · rw [if_pos e2, gN_nI (by omega), hb, if_neg (by omega), show n - 1 = r by omega]
      · rw [if_neg e2]; exact q7 (by omega)
  · obtain ⟨q1, q2, q3, q4, q5⟩ := sl s hs
    unfold wSlot
    rw [fo 9 (by decide) (by decide) (by decide) (by decide), fo 10 (by decide) (by decide) (by decide) (by decide), fo 16 (by decide) (by decide) (by decide) (by decide), fo 17 (by decide) (by decide) (by decide) (by decide)]
    refine ⟨q1, q2, q3, q4, fun z => ?_⟩
    obtain ⟨w1, w2, w3⟩ := q5 z
    unfold wBlk
    rw [fo 11 (by decide) (by decide) (by decide) (by decide), fo 12 (by decide) (by decide) (by decide) (by decide), fo 13 (by decide) (by decide) (by decide) (by decide), fo 14 (by decide) (by decide) (by decide) (by decide), fo 15 (by decide) (by decide) (by decide) (by decide), f2, gN_nI (by omega), f3, f4, if_neg (by omega), if_neg (by omega)]
    exact ⟨w1, by omega, w3⟩
  · unfold upd; rw [if_neg (by omega), if_neg (by omega), if_neg (by omega), if_neg (by omega)]
  · unfold upd; rw [if_neg (by omega), if_neg (by omega), if_neg (by omega), if_neg (by omega)]
  · rw [upd_comm (p := 570) (q := 571 + n) (by omega), upd_comm (p := 570) (q := 577 + n) (by omega), upd_comm (p := 570) (q := 583 + n) (by omega)]
    exact wEq_2 (wEq_5 h6 (wEq_4 h6 (wEq_3 h6 c)))
theorem mEnd_eq (h : gOK G) (hR : wRel B σ) {z : gM} (hz : z 105 = σ 105) {r : Nat} (hr : r < gN (σ 3 0)) : g_inv (gCm' G (d + 1)) mX10_end [.ref 104, .int (nI r)] z K = K (some (.int (nI (gN (σ 4 r) + gN (σ 5 r))))) z := by
  obtain ⟨h6, l, q, a1, a2, a3, a4, a5, a6, a7, a8⟩ := rReg hR hr
  have ea : (571 : Int32) + nI r = nI (571 + r) := nI_add 571 r
  have eb : (577 : Int32) + nI r = nI (577 + r) := nI_add 577 r
  have ec : vp_in (nI (571 + r)) 607 := vp_c (by omega)
  have ed : (nI (571 + r)).toNatClampNeg = 571 + r := nI_clamp (by omega)
  have ee : vp_in (nI (577 + r)) 607 := vp_c (by omega)
  have ef : (nI (577 + r)).toNatClampNeg = 577 + r := nI_clamp (by omega)
  simp only [EX10_end, Option.toList_some, Option.toList_none, List.cons_append, List.nil_append, Nat.zero_add, Nat.reduceAdd, Option.some.injEq, Value.int.injEq, exists_eq_left', true_and, and_true, true_or, or_true, false_or, g_10, ↓reduceIte, h.1, h.2, hNow h, hReg h, hGrd h, hBlk h, hTgo h, hWlk h, hPln h, hTap h, hHol h, ea, eb, ec, ed, ee, ef, hz, r571 hR _ h6, r577 hR _ h6, a1, a2, a3, a4, nI_add]
  rw [← a1, ← a2, a3, a4]
theorem op_region (h : gOK G) (hB : B < 1000000) (hR : wRel B σ) (a w : Int32) : gOp G (d + 4) B mX9_region mX10_region [.int a, .int w] σ := by
  unfold gOp
  by_cases c1 : a < 8
  · simp only [EX9_region, BX9_region_25, BX9_region_37, EX10_region, BX10_region_8, BX10_region_17, BX10_region_46, BX10_region_56, BX10_region_105, BX10_region_119, BX10_region_131, EX10_in, Option.toList_some, Option.toList_none, List.cons_append, List.nil_append, Nat.zero_add, Nat.reduceAdd, Option.some.injEq, Value.int.injEq, exists_eq_left', true_and, and_true, true_or, or_true, false_or, g_10, ↓reduceIte, h.1, h.2, hNow h, hReg h, hGrd h, hBlk h, hTgo h, hWlk h, hPln h, hTap h, hHol h, c1]
    exact wRel_up hR (by omega)
  by_cases c2 : 120 < a
  · simp only [EX9_region, BX9_region_25, BX9_region_37, EX10_region, BX10_region_8, BX10_region_17, BX10_region_46, BX10_region_56, BX10_region_105, BX10_region_119, BX10_region_131, EX10_in, Option.toList_some, Option.toList_none, List.cons_append, List.nil_append, Nat.zero_add, Nat.reduceAdd, Option.some.injEq, Value.int.injEq, exists_eq_left', true_and, and_true, true_or, or_true, false_or, g_10, ↓reduceIte, h.1, h.2, hNow h, hReg h, hGrd h, hBlk h, hTgo h, hWlk h, hPln h, hTap h, hHol h, c1, c2]
    exact wRel_up hR (by omega)
  obtain ⟨l, hl, hl2, rfl⟩ := g_rng (a := 8) (b := 120) (by decide) (by decide) c1 c2
  have hw : (w = 0 ∨ w = 1) ∨ ¬ w = 0 ∧ ¬ w = 1 ∧ (w < 0 ∨ ¬ w < 0 ∧ 1 < w) := by
    rcases pk_ix w (n := 2) (by decide) with h1 | h1 | ⟨k, hk, rfl⟩
    · exact Or.inr ⟨fun e => by subst e; exact absurd h1 (by decide), fun e => by subst e; exact absurd h1 (by decide), Or.inl h1⟩
    · obtain ⟨q1, q2, q3⟩ := g_ge (n := 1) (by decide) h1
      have q3 : 1 < w := q3
      exact Or.inr ⟨fun e => by subst e; exact absurd q3 (by decide), fun e => by subst e; exact absurd q3 (by decide), Or.inr ⟨q1, q3⟩⟩
    · rcases (by omega : k = 0 ∨ k = 1) with rfl | rfl
      · exact Or.inl (Or.inl rfl)
      · exact Or.inl (Or.inr rfl)
  rcases hw with hw | ⟨w0, w1, w2⟩
  · obtain ⟨n, hn⟩ : ∃ n, n = gN (σ 3 0) := ⟨_, rfl⟩
    have en : σ 3 0 = nI n := by rw [hn]; exact hR.1.1.1.1.1
    have n6 : n ≤ 6 := by rw [hn]; exact hR.1.1.1.1.2
    have hw2 : ¬ w < 0 ∧ ¬ 1 < w ∧ ((w = 0) = True ∨ (w = 0) = False ∧ (w = 1) = True) := by
      rcases hw with rfl | rfl
      · exact ⟨by decide, by decide, Or.inl (eq_self _)⟩
      · exact ⟨by decide, by decide, Or.inr ⟨by decide, eq_self _⟩⟩
    obtain ⟨b, hb⟩ : ∃ b, b = gEnd σ n := ⟨_, rfl⟩
    have hb2 : b ≤ 240 := by rw [hb]; exact gEnd_le hR (by omega)
    have hend : ∀ (d : Nat) (K : gK), g_inv (gCm' G (d + 2)) mX5_end [.ref 3] σ K = K (some (.int (nI b))) σ := fun d K => by rw [end_eq h hR, ← hn, ← hb]
    have nn : ¬ nI n < nI n := nI_nlt (Nat.le_refl _) (by omega)
    have hml : ∀ (z : gM) (K : gK), z 105 = σ 105 → gw (gCm' G (d + 3)) G mX10_region K 27 [.ref 104, .int (nI l), .int w, .int 0, .int 0] [] z = (if nI n = 6 then K (some (.int (-3))) z else (if 240 < nI (b + l) then K (some (.int (-3))) z else gw (gCm' G (d + 3)) G mX10_region K 105 [.ref 104, .int (nI l), .int w, .int (nI b), .int (nI n)] [.int (nI n)] (g_up z 105 570 (nI (n + 1))))) := fun z K hz => by
      have : ∀ k, k ≤ n → gw (gCm' G (d + 3)) G mX10_region K 27 [.ref 104, .int (nI l), .int w, .int 0, .int 0] [] z = gw (gCm' G (d + 3)) G mX10_region K 27 [.ref 104, .int (nI l), .int w, .int (nI (gEnd σ k)), .int (nI k)] [] z := by
        intro k
        induction k with
        | zero => intro _; rfl
        | succ k ih =>
          intro hk
          rw [ih (by omega), BX10_region_27 h.2]
          obtain ⟨s1, s2, s3⟩ := gEnd_s hR (k := k) (by omega)
          have := gEnd_le hR (k := k + 1) (by omega)
          have g1 : nI k < nI n := nI_lt (by omega) (by omega)
          have g2 : nI (gEnd σ k) < nI (gN (σ 4 k) + gN (σ 5 k)) := nI_lt (by omega) (by omega)
          simp only [vp570, cl570, hz, r570 hR, en, g1, mEnd_eq h hR hz (show k < gN (σ 3 0) by omega), BX10_region_46 h.2, BX10_region_56 h.2, Option.toList_some, Option.toList_none, List.cons_append, List.nil_append, Nat.zero_add, Nat.reduceAdd, Option.some.injEq, Value.int.injEq, exists_eq_left', true_and, and_true, true_or, or_true, false_or, g_10, ↓reduceIte, g2, nI_1, s2]
      rw [this n (Nat.le_refl _), ← hb, BX10_region_27 h.2]
      simp only [vp570, cl570, hz, r570 hR, en, nn, Option.toList_some, Option.toList_none, List.cons_append, List.nil_append, Nat.zero_add, Nat.reduceAdd, Option.some.injEq, Value.int.injEq, exists_eq_left', true_and, and_true, true_or, or_true, false_or, g_10, ↓reduceIte, nI_add, nI_1]
    by_cases c6 : n = 6
    · have c7 : nI n = 6 := by rw [c6]; rfl
      rcases hw2 with ⟨v1, v2, v3 | ⟨v3, v4⟩⟩
      · simp +decide only [EX9_region, BX9_region_25, BX9_region_37, EX10_region, BX10_region_8, BX10_region_17, BX10_region_46, BX10_region_56, BX10_region_105, BX10_region_119, BX10_region_131, EX10_in, EX5_addNext, BX5_addNext_4, BX5_addNext_35, BX5_addNext_45, BX5_addNext_55, BX5_addNext_65, hend, hml, Option.toList_some, Option.toList_none, List.cons_append, List.nil_append, Nat.zero_add, Nat.reduceAdd, Option.some.injEq, Value.int.injEq, exists_eq_left', true_and, and_true, true_or, or_true, false_or, g_10, ↓reduceIte, h.1, h.2, hNow h, hReg h, hGrd h, hBlk h, hTgo h, hWlk h, hPln h, hTap h, hHol h, c1, c2, v1, v2, v3, en, c7, nn]
        exact wRel_up hR (by omega)
      · simp +decide only [EX9_region, BX9_region_25, BX9_region_37, EX10_region, BX10_region_8, BX10_region_17, BX10_region_46, BX10_region_56, BX10_region_105, BX10_region_119, BX10_region_131, EX10_in, EX5_addNext, BX5_addNext_4, BX5_addNext_35, BX5_addNext_45, BX5_addNext_55, BX5_addNext_65, hend, hml, Option.toList_some, Option.toList_none, List.cons_append, List.nil_append, Nat.zero_add, Nat.reduceAdd, Option.some.injEq, Value.int.injEq, exists_eq_left', true_and, and_true, true_or, or_true, false_or, g_10, ↓reduceIte, h.1, h.2, hNow h, hReg h, hGrd h, hBlk h, hTgo h, hWlk h, hPln h, hTap h, hHol h, c1, c2, v1, v2, v3, v4, en, c7, nn]
        exact wRel_up hR (by omega)
    have c7 : nI n < 6 := nI_lt (b := 6) (by omega) (by decide)
    have c8 : ¬ nI n = 6 := fun e => c6 ((nI_eq (b := 6) (by omega) (by decide)).mp e)
    by_cases c9 : 240 < b + l
    · have c10 : 240 < nI (b + l) := nI_lt (a := 240) c9 (by omega)
      rcases hw2 with ⟨v1, v2, v3 | ⟨v3, v4⟩⟩
      · simp +decide only [EX9_region, BX9_region_25, BX9_region_37, EX10_region, BX10_region_8, BX10_region_17, BX10_region_46, BX10_region_56, BX10_region_105, BX10_region_119, BX10_region_131, EX10_in, EX5_addNext, BX5_addNext_4, BX5_addNext_35, BX5_addNext_45, BX5_addNext_55, BX5_addNext_65, hend, hml, Option.toList_some, Option.toList_none, List.cons_append, List.nil_append, Nat.zero_add, Nat.reduceAdd, Option.some.injEq, Value.int.injEq, exists_eq_left', true_and, and_true, true_or, or_true, false_or, g_10, ↓reduceIte, h.1, h.2, hNow h, hReg h, hGrd h, hBlk h, hTgo h, hWlk h, hPln h, hTap h, hHol h, c1, c2, v1, v2, v3, en, c7, c8, nn, nI_add, c10]
        exact wRel_up hR (by omega)
      · simp +decide only [EX9_region, BX9_region_25, BX9_region_37, EX10_region, BX10_region_8, BX10_region_17, BX10_region_46, BX10_region_56, BX10_region_105, BX10_region_119, BX10_region_131, EX10_in, EX5_addNext, BX5_addNext_4, BX5_addNext_35, BX5_addNext_45, BX5_addNext_55, BX5_addNext_65, hend, hml, Option.toList_some, Option.toList_none, List.cons_append, List.nil_append, Nat.zero_add, Nat.reduceAdd, Option.some.injEq, Value.int.injEq, exists_eq_left', true_and, and_true, true_or, or_true, false_or, g_10, ↓reduceIte, h.1, h.2, hNow h, hReg h, hGrd h, hBlk h, hTgo h, hWlk h, hPln h, hTap h, hHol h, c1, c2, v1, v2, v3, v4, en, c7, c8, nn, nI_add, c10]
        exact wRel_up hR (by omega)
    · have c10 : ¬ 240 < nI (b + l) := nI_nlt (b := b + l) (a := 240) (by omega) (by decide)
      have e4 : (nI n).toNatClampNeg = n := nI_clamp (by omega)
      have e5 : vp_in (nI n) 6 := vp_in_nI (by omega) (by decide)
      have ea : (571 : Int32) + nI n = nI (571 + n) := nI_add 571 n
      have eb : (577 : Int32) + nI n = nI (577 + n) := nI_add 577 n
      have ec : (583 : Int32) + nI n = nI (583 + n) := nI_add 583 n
      have fa : vp_in (nI (571 + n)) 607 := vp_c (by omega)
      have fb : vp_in (nI (577 + n)) 607 := vp_c (by omega)
      have fc : vp_in (nI (583 + n)) 607 := vp_c (by omega)
      have ga : (nI (571 + n)).toNatClampNeg = 571 + n := nI_clamp (by omega)
      have gb : (nI (577 + n)).toNatClampNeg = 577 + n := nI_clamp (by omega)
      have gc : (nI (583 + n)).toNatClampNeg = 583 + n := nI_clamp (by omega)
      have em := g_m1 (j := n) (by omega)
      have fin : wRel (B + 1) (g_up (g_up (g_up (g_up (g_up (g_up (g_up (g_up σ 4 n (nI b)) 5 n (nI l)) 6 n w) 3 0 (nI (n + 1))) 105 570 (nI (n + 1))) 105 (571 + n) (nI b)) 105 (577 + n) (nI l)) 105 (583 + n) w) := by
        refine wRel_now hR (by omega) ?_ (fun i hi h1 h2 => ?_)
        · rw [gMem_out (by decide), gMem_out (by decide), gMem_out (by decide), gMem_out (by decide), gMem_in (k := 2) (b := 1) (by decide), gMem_in (k := 5) (b := 1) (by decide), gMem_in (k := 4) (b := 1) (by decide), gMem_in (k := 3) (b := 1) (by decide), g_up_s, g_up_s, g_up_s, g_up_s, g_up_o (by decide), g_up_o (by decide), g_up_o (by decide), g_up_o (by decide)]
          exact wMem_up (wMem_reg hR.1 en (by omega) hb hl hl2 (by omega) hw) (by omega)
        · rw [g_up_o (by omega), g_up_o (by omega), g_up_o (by omega), g_up_o (by omega), g_up_o (by omega), g_up_o (by omega), g_up_o (by omega), g_up_o (by omega)]
      rcases hw2 with ⟨v1, v2, v3 | ⟨v3, v4⟩⟩
      · simp +decide only [EX9_region, BX9_region_25, BX9_region_37, EX10_region, BX10_region_8, BX10_region_17, BX10_region_46, BX10_region_56, BX10_region_105, BX10_region_119, BX10_region_131, EX10_in, EX5_addNext, BX5_addNext_4, BX5_addNext_35, BX5_addNext_45, BX5_addNext_55, BX5_addNext_65, hend, hml, g_up_o, Option.toList_some, Option.toList_none, List.cons_append, List.nil_append, Nat.zero_add, Nat.reduceAdd, Option.some.injEq, Value.int.injEq, exists_eq_left', true_and, and_true, true_or, or_true, false_or, g_10, ↓reduceIte, g_up_d, Nat.reduceEqDiff, h.1, h.2, hNow h, hReg h, hGrd h, hBlk h, hTgo h, hWlk h, hPln h, hTap h, hHol h, c1, c2, v1, v2, v3, en, c7, c8, nn, nI_add, c10, e4, e5, ea, eb, ec, fa, fb, fc, ga, gb, gc, nI_1, nI_pred, em]
        exact fin
      · simp +decide only [EX9_region, BX9_region_25, BX9_region_37, EX10_region, BX10_region_8, BX10_region_17, BX10_region_46, BX10_region_56, BX10_region_105, BX10_region_119, BX10_region_131, EX10_in, EX5_addNext, BX5_addNext_4, BX5_addNext_35, BX5_addNext_45, BX5_addNext_55, BX5_addNext_65, hend, hml, g_up_o, Option.toList_some, Option.toList_none, List.cons_append, List.nil_append, Nat.zero_add, Nat.reduceAdd, Option.some.injEq, Value.int.injEq, exists_eq_left', true_and, and_true, true_or, or_true, false_or, g_10, ↓reduceIte, g_up_d, Nat.reduceEqDiff, h.1, h.2, hNow h, hReg h, hGrd h, hBlk h, hTgo h, hWlk h, hPln h, hTap h, hHol h, c1, c2, v1, v2, v3, v4, en, c7, c8, nn, nI_add, c10, e4, e5, ea, eb, ec, fa, fb, fc, ga, gb, gc, nI_1, nI_pred, em]
        exact fin
  · rcases w2 with w2 | ⟨w2, w3⟩
    · simp only [EX9_region, BX9_region_25, BX9_region_37, EX10_region, BX10_region_8, BX10_region_17, BX10_region_46, BX10_region_56, BX10_region_105, BX10_region_119, BX10_region_131, EX10_in, Option.toList_some, Option.toList_none, List.cons_append, List.nil_append, Nat.zero_add, Nat.reduceAdd, Option.some.injEq, Value.int.injEq, exists_eq_left', true_and, and_true, true_or, or_true, false_or, g_10, ↓reduceIte, h.1, h.2, hNow h, hReg h, hGrd h, hBlk h, hTgo h, hWlk h, hPln h, hTap h, hHol h, c1, c2, w0, w1, w2]
      exact wRel_up hR (by omega)
    · simp only [EX9_region, BX9_region_25, BX9_region_37, EX10_region, BX10_region_8, BX10_region_17, BX10_region_46, BX10_region_56, BX10_region_105, BX10_region_119, BX10_region_131, EX10_in, Option.toList_some, Option.toList_none, List.cons_append, List.nil_append, Nat.zero_add, Nat.reduceAdd, Option.some.injEq, Value.int.injEq, exists_eq_left', true_and, and_true, true_or, or_true, false_or, g_10, ↓reduceIte, h.1, h.2, hNow h, hReg h, hGrd h, hBlk h, hTgo h, hWlk h, hPln h, hTap h, hHol h, c1, c2, w0, w1, w2, w3]
      exact wRel_up hR (by omega)
end O25
