section O16
variable {G : gG} {d B : Nat} {σ : gM}
/-- where cell k of a block lies, in both -/
theorem cellF (hR : wRel B σ) {l q k : Nat} (hq : 1 ≤ q) (hlq : l + q ≤ 240) (hk : k < q) : nI l + nI k = nI (l + k) ∧ vp_in (nI (l + k)) 240 ∧ (nI (l + k)).toNatClampNeg = l + k ∧ (330 : Int32) + nI l + nI k = nI (330 + (l + k)) ∧ vp_in (nI (330 + (l + k))) 607 ∧ (nI (330 + (l + k))).toNatClampNeg = 330 + (l + k) ∧ σ 105 (330 + (l + k)) = σ 2 (l + k) ∧ ¬ nI (q - 1) < nI k ∧ nI k < nI q ∧ ¬ nI (l + k) = -1 := by
  refine ⟨nI_add _ _, vp_in_nI (by omega) (by decide), nI_clamp (by omega), ?_, vp_c (by omega), nI_clamp (by omega), r330 hR _ (by omega), nI_nlt (by omega) (by omega), nI_lt hk (by omega), g_m1 (by omega)⟩
  rw [show (330 : Int32) = nI 330 from rfl, nI_add, nI_add, Nat.add_assoc]
theorem g_pred {q : Nat} (hq : 1 ≤ q) : nI q - 1 = nI (q - 1) := by
  obtain ⟨p, rfl⟩ : ∃ p, q = p + 1 := ⟨q - 1, by omega⟩
  exact nI_pred p
theorem op_read (h : gOK G) (hB : B < 1000000) (hR : wRel B σ) (x i : Int32) : gOp G (d + 4) B mX9_read mX10_read [.int x, .int i] σ := by
  unfold gOp
  rcases Classical.em (∃ s, gGood σ x s) with ⟨s, hg⟩ | hg
  · obtain ⟨hs, hl, -⟩ := id hg
    obtain ⟨y1, y2⟩ := good_y (G := G) (B := B) h hg
    obtain ⟨e1, e2, e3, e4, e5⟩ := g_ix (n := 29) hs (by decide)
    have e2 : nI s < 30 := e2
    obtain ⟨l, q, r, o, p, f1, f2, f3, f4, f5, f6, f7, f8, -⟩ := rBlk hR hs (by rw [hl]; decide)
    have em := g_m1 (j := s) (by omega)
    by_cases c1 : i < 0
    · simp only [EX9_read, BX9_read_15, BX9_read_19, EX10_read, BX10_read_5, BX10_read_21, EX3_cellAt, EX10_cellOf, BX10_cellOf_8, BX10_cellOf_13, BX10_cellOf_29, EX10_in, Option.toList_some, Option.toList_none, List.cons_append, List.nil_append, Nat.zero_add, Nat.reduceAdd, Option.some.injEq, Value.int.injEq, exists_eq_left', true_and, and_true, g_10, ↓reduceIte, g_up_d, Nat.reduceEqDiff, h.1, h.2, hNow h, hReg h, hGrd h, hBlk h, hTgo h, hWlk h, hPln h, hTap h, hHol h, y1, y2, e1, e2, e4, e5, em, c1, at_3 h hs, at_2 h hs, rs0 hR _ hs, rs1 hR _ hs, rs3 hR _ hs]
      exact wRel_up hR (by omega)
    obtain ⟨k, hk31, rfl⟩ := nI_of c1
    by_cases c2 : k < q
    · obtain ⟨g1, g2, g3, g4, g5, g6, g7, g8, g9, g10⟩ := cellF hR f6 f8 c2
      simp only [EX9_read, BX9_read_15, BX9_read_19, EX10_read, BX10_read_5, BX10_read_21, EX3_cellAt, EX10_cellOf, BX10_cellOf_8, BX10_cellOf_13, BX10_cellOf_29, EX10_in, Option.toList_some, Option.toList_none, List.cons_append, List.nil_append, Nat.zero_add, Nat.reduceAdd, Option.some.injEq, Value.int.injEq, exists_eq_left', true_and, and_true, g_10, ↓reduceIte, g_up_d, Nat.reduceEqDiff, h.1, h.2, hNow h, hReg h, hGrd h, hBlk h, hTgo h, hWlk h, hPln h, hTap h, hHol h, y1, y2, e1, e2, e4, e5, em, c1, at_3 h hs, at_2 h hs, rs0 hR _ hs, rs1 hR _ hs, rs2 hR _ hs, rs3 hR _ hs, f1, f2, g_pred f6, g1, g2, g3, g4, g5, g6, g7, g8, g9, g10]
      exact wRel_up hR (by omega)
    · have g8 : nI (q - 1) < nI k := nI_lt (by omega) hk31
      have g9 : ¬ nI k < nI q := nI_nlt (by omega) hk31
      simp only [EX9_read, BX9_read_15, BX9_read_19, EX10_read, BX10_read_5, BX10_read_21, EX3_cellAt, EX10_cellOf, BX10_cellOf_8, BX10_cellOf_13, BX10_cellOf_29, EX10_in, Option.toList_some, Option.toList_none, List.cons_append, List.nil_append, Nat.zero_add, Nat.reduceAdd, Option.some.injEq, Value.int.injEq, exists_eq_left', true_and, and_true, g_10, ↓reduceIte, g_up_d, Nat.reduceEqDiff, h.1, h.2, hNow h, hReg h, hGrd h, hBlk h, hTgo h, hWlk h, hPln h, hTap h, hHol h, y1, y2, e1, e2, e4, e5, em, c1, at_3 h hs, at_2 h hs, rs0 hR _ hs, rs1 hR _ hs, rs2 hR _ hs, rs3 hR _ hs, f1, f2, g_pred f6, g8, g9]
      exact wRel_up hR (by omega)
  · obtain ⟨n1, n2⟩ := good_n' h hR (not_exists.mp hg)
    simp only [EX9_read, BX9_read_15, BX9_read_19, EX10_read, BX10_read_5, BX10_read_21, EX3_cellAt, EX10_cellOf, BX10_cellOf_8, BX10_cellOf_13, BX10_cellOf_29, EX10_in, Option.toList_some, Option.toList_none, List.cons_append, List.nil_append, Nat.zero_add, Nat.reduceAdd, Option.some.injEq, Value.int.injEq, exists_eq_left', true_and, and_true, g_10, ↓reduceIte, h.1, h.2, hNow h, hReg h, hGrd h, hBlk h, hTgo h, hWlk h, hPln h, hTap h, hHol h, n1, n2, show (-2 : Int32) < 0 by decide, show (-1 : Int32) < 0 by decide]
    exact wRel_up hR (by omega)
theorem op_write (h : gOK G) (hB : B < 1000000) (hR : wRel B σ) (x i v : Int32) : gOp G (d + 4) B mX9_write mX10_write [.int x, .int i, .int v] σ := by
  unfold gOp
  rcases Classical.em (∃ s, gGood σ x s) with ⟨s, hg⟩ | hg
  · obtain ⟨hs, hl, -⟩ := id hg
    obtain ⟨y1, y2⟩ := good_y (G := G) (B := B) h hg
    obtain ⟨e1, e2, e3, e4, e5⟩ := g_ix (n := 29) hs (by decide)
    have e2 : nI s < 30 := e2
    obtain ⟨l, q, r, o, p, f1, f2, f3, f4, f5, f6, f7, f8, -⟩ := rBlk hR hs (by rw [hl]; decide)
    have em := g_m1 (j := s) (by omega)
    by_cases c1 : i < 0
    · simp only [EX9_write, BX9_write_15, BX9_write_19, EX10_write, BX10_write_5, BX10_write_21, BX10_write_26, BX10_write_46, BX10_write_66, EX3_cellAt, EX10_in, Option.toList_some, Option.toList_none, List.cons_append, List.nil_append, Nat.zero_add, Nat.reduceAdd, Option.some.injEq, Value.int.injEq, exists_eq_left', true_and, and_true, g_10, ↓reduceIte, g_up_d, Nat.reduceEqDiff, h.1, h.2, hNow h, hReg h, hGrd h, hBlk h, hTgo h, hWlk h, hPln h, hTap h, hHol h, y1, y2, e1, e2, e4, e5, em, c1, at_3 h hs, at_2 h hs, rs0 hR _ hs, rs1 hR _ hs, rs3 hR _ hs]
      exact wRel_up hR (by omega)
    obtain ⟨k, hk31, rfl⟩ := nI_of c1
    by_cases c2 : k < q
    · obtain ⟨g1, g2, g3, g4, g5, g6, g7, g8, g9, g10⟩ := cellF hR f6 f8 c2
      have hne : ∀ z, z < 30 → ∀ w, w < 11 → ¬ z * 11 + w = 330 + (l + k) := fun z hz w hw => by omega
      simp only [EX9_write, BX9_write_15, BX9_write_19, EX10_write, BX10_write_5, BX10_write_21, BX10_write_26, BX10_write_46, BX10_write_66, EX3_cellAt, EX10_in, Option.toList_some, Option.toList_none, List.cons_append, List.nil_append, Nat.zero_add, Nat.reduceAdd, Option.some.injEq, Value.int.injEq, exists_eq_left', true_and, and_true, g_10, ↓reduceIte, g_up_d, Nat.reduceEqDiff, h.1, h.2, hNow h, hReg h, hGrd h, hBlk h, hTgo h, hWlk h, hPln h, hTap h, hHol h, y1, y2, e1, e2, e4, e5, em, c1, at_3 h hs, at_2 h hs, rs0 hR _ hs, rs1 hR _ hs, rs2 hR _ hs, rs3 hR _ hs, f1, f2, g_pred f6, g1, g2, g3, g4, g5, g6, g7, g8, g9, g10]
      refine wRel_now hR (by omega) ?_ (fun i hi h1 h2 => ?_)
      · rw [gMem_out (by decide), gMem_in (k := 1) (b := 1) (by decide), g_up_s, g_up_o (by decide)]
        exact wMem_up (wMem_cell hR.1 (by omega)) (by omega)
      · rw [g_up_o (by omega), g_up_o (by omega)]
    · have g8 : nI (q - 1) < nI k := nI_lt (by omega) hk31
      have g9 : ¬ nI k < nI q := nI_nlt (by omega) hk31
      simp only [EX9_write, BX9_write_15, BX9_write_19, EX10_write, BX10_write_5, BX10_write_21, BX10_write_26, BX10_write_46, BX10_write_66, EX3_cellAt, EX10_in, Option.toList_some, Option.toList_none, List.cons_append, List.nil_append, Nat.zero_add, Nat.reduceAdd, Option.some.injEq, Value.int.injEq, exists_eq_left', true_and, and_true, g_10, ↓reduceIte, g_up_d, Nat.reduceEqDiff, h.1, h.2, hNow h, hReg h, hGrd h, hBlk h, hTgo h, hWlk h, hPln h, hTap h, hHol h, y1, y2, e1, e2, e4, e5, em, c1, at_3 h hs, at_2 h hs, rs0 hR _ hs, rs1 hR _ hs, rs2 hR _ hs, rs3 hR _ hs, f1, f2, g_pred f6, g8, g9]
      exact wRel_up hR (by omega)
  · obtain ⟨n1, n2⟩ := good_n' h hR (not_exists.mp hg)
    simp only [EX9_write, BX9_write_15, BX9_write_19, EX10_write, BX10_write_5, BX10_write_21, BX10_write_26, BX10_write_46, BX10_write_66, EX3_cellAt, EX10_in, Option.toList_some, Option.toList_none, List.cons_append, List.nil_append, Nat.zero_add, Nat.reduceAdd, Option.some.injEq, Value.int.injEq, exists_eq_left', true_and, and_true, g_10, ↓reduceIte, h.1, h.2, hNow h, hReg h, hGrd h, hBlk h, hTgo h, hWlk h, hPln h, hTap h, hHol h, n1, n2, show (-2 : Int32) < 0 by decide, show (-1 : Int32) < 0 by decide]
    exact wRel_up hR (by omega)
theorem op_of (h : gOK G) (hB : B < 1000000) (hR : wRel B σ) (x w : Int32) : gOp G (d + 4) B mX9_of mX10_of [.int x, .int w] σ := by
  unfold gOp
  rcases pk_ix w (n := 6) (by decide) with h1 | h1 | ⟨j, hj, rfl⟩
  · simp only [EX9_of, BX9_of_22, BX9_of_148, EX10_of, BX10_of_6, BX10_of_16, BX10_of_66, BX10_of_73, BX10_of_80, BX10_of_87, BX10_of_95, BX10_of_103, BX10_of_118, EX10_in, Option.toList_some, Option.toList_none, List.cons_append, List.nil_append, Nat.zero_add, Nat.reduceAdd, Option.some.injEq, Value.int.injEq, exists_eq_left', true_and, and_true, g_10, ↓reduceIte, h.1, h.2, hNow h, hReg h, hGrd h, hBlk h, hTgo h, hWlk h, hPln h, hTap h, hHol h, h1]
    exact wRel_up hR (by omega)
  · obtain ⟨e1, e2, e3⟩ := g_ge (n := 5) (by decide) h1
    have e3 : 5 < w := e3
    simp only [EX9_of, BX9_of_22, BX9_of_148, EX10_of, BX10_of_6, BX10_of_16, BX10_of_66, BX10_of_73, BX10_of_80, BX10_of_87, BX10_of_95, BX10_of_103, BX10_of_118, EX10_in, Option.toList_some, Option.toList_none, List.cons_append, List.nil_append, Nat.zero_add, Nat.reduceAdd, Option.some.injEq, Value.int.injEq, exists_eq_left', true_and, and_true, g_10, ↓reduceIte, h.1, h.2, hNow h, hReg h, hGrd h, hBlk h, hTgo h, hWlk h, hPln h, hTap h, hHol h, e1, e3]
    exact wRel_up hR (by omega)
  · obtain ⟨w1, w2, w3, w4, w5⟩ := g_ix (n := 5) hj (by decide)
    have w3 : ¬ 5 < nI j := w3
    rcases Classical.em (∃ s, gGood σ x s) with ⟨s, hg⟩ | hg
    · obtain ⟨hs, hl, -⟩ := id hg
      obtain ⟨y1, y2⟩ := good_y (G := G) (B := B) h hg
      obtain ⟨e1, e2, e3, e4, e5⟩ := g_ix (n := 29) hs (by decide)
      have em := g_m1 (j := s) (by omega)
      have htag : σ 17 s = -1 ∨ gNn (σ 17 s) 499 := (rSl hR s hs).2.2.2.1
      rcases htag with ht | ht
      · rcases (by omega : j = 0 ∨ j = 1 ∨ j = 2 ∨ j = 3 ∨ j = 4 ∨ j = 5) with rfl | rfl | rfl | rfl | rfl | rfl <;>
        · simp +decide only [EX9_of, BX9_of_22, BX9_of_148, EX10_of, BX10_of_6, BX10_of_16, BX10_of_66, BX10_of_73, BX10_of_80, BX10_of_87, BX10_of_95, BX10_of_103, BX10_of_118, EX10_in, EX9_notIfNone, Option.toList_some, Option.toList_none, List.cons_append, List.nil_append, Nat.zero_add, Nat.reduceAdd, Option.some.injEq, Value.int.injEq, exists_eq_left', true_and, and_true, g_10, ↓reduceIte, g_up_d, Nat.reduceEqDiff, h.1, h.2, hNow h, hReg h, hGrd h, hBlk h, hTgo h, hWlk h, hPln h, hTap h, hHol h, y1, y2, w1, w3, e1, e4, e5, em, at_2 h hs, at_3 h hs, at_4 h hs, at_5 h hs, at_6 h hs, at_7 h hs, rs0 hR _ hs, rs1 hR _ hs, rs2 hR _ hs, rs3 hR _ hs, rs4 hR _ hs, rs5 hR _ hs, rs6 hR _ hs, rs7 hR _ hs, ht]
          exact wRel_up hR (by omega)
      · have ht2 : ¬ σ 17 s < 0 := gNn_neg ht (by decide)
        have ht3 : ¬ σ 17 s = -1 := by rw [ht.1]; exact g_m1 (by have := ht.2; omega)
        rcases (by omega : j = 0 ∨ j = 1 ∨ j = 2 ∨ j = 3 ∨ j = 4 ∨ j = 5) with rfl | rfl | rfl | rfl | rfl | rfl <;>
        · simp +decide only [EX9_of, BX9_of_22, BX9_of_148, EX10_of, BX10_of_6, BX10_of_16, BX10_of_66, BX10_of_73, BX10_of_80, BX10_of_87, BX10_of_95, BX10_of_103, BX10_of_118, EX10_in, EX9_notIfNone, Option.toList_some, Option.toList_none, List.cons_append, List.nil_append, Nat.zero_add, Nat.reduceAdd, Option.some.injEq, Value.int.injEq, exists_eq_left', true_and, and_true, g_10, ↓reduceIte, g_up_d, Nat.reduceEqDiff, h.1, h.2, hNow h, hReg h, hGrd h, hBlk h, hTgo h, hWlk h, hPln h, hTap h, hHol h, y1, y2, w1, w3, e1, e4, e5, em, at_2 h hs, at_3 h hs, at_4 h hs, at_5 h hs, at_6 h hs, at_7 h hs, rs0 hR _ hs, rs1 hR _ hs, rs2 hR _ hs, rs3 hR _ hs, rs4 hR _ hs, rs5 hR _ hs, rs6 hR _ hs, rs7 hR _ hs, ht2, ht3]
          exact wRel_up hR (by omega)
    · obtain ⟨n1, n2⟩ := good_n' h hR (not_exists.mp hg)
      simp only [EX9_of, BX9_of_22, BX9_of_148, EX10_of, BX10_of_6, BX10_of_16, BX10_of_66, BX10_of_73, BX10_of_80, BX10_of_87, BX10_of_95, BX10_of_103, BX10_of_118, EX10_in, Option.toList_some, Option.toList_none, List.cons_append, List.nil_append, Nat.zero_add, Nat.reduceAdd, Option.some.injEq, Value.int.injEq, exists_eq_left', true_and, and_true, g_10, ↓reduceIte, h.1, h.2, hNow h, hReg h, hGrd h, hBlk h, hTgo h, hWlk h, hPln h, hTap h, hHol h, n1, n2, w1, w3, show (-2 : Int32) < 0 by decide]
      exact wRel_up hR (by omega)
end O16
