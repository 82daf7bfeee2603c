def gFst (c : Nat → Bool) : Nat → Nat → Option Nat
  | 0, _ => none
  | n + 1, i => if c i = true then some i else gFst c n (i + 1)
theorem g_find {α : Type} {W : Nat → α → Prop} {F : Nat → α → α} {c : Nat → Bool} {R : Nat → Prop} {E : Prop} {L : Nat} (hs : ∀ i, i < L → ∀ a, W i a = if c i = true then R i else W (i + 1) (F i a)) (hE : ∀ a, W L a = E) (a : α) : W 0 a = (match gFst c L 0 with
    | some k => R k
    | none => E) := by
  have key : ∀ n i a, i + n = L → W i a = (match gFst c n i with
    | some k => R k
    | none => E) := by
    intro n
    induction n with
    | zero => intro i a e; rw [show i = L by omega]; exact hE a
    | succ n ih =>
      intro i a e
      rw [hs i (by omega) a]
      unfold gFst
      by_cases hc : c i = true
      · rw [if_pos hc, if_pos hc]
      · rw [if_neg hc, if_neg hc]
        exact ih (i + 1) _ (by omega)
  exact key L 0 a (by omega)
theorem gFst_some {c : Nat → Bool} : ∀ {n i k : Nat}, gFst c n i = some k → i ≤ k ∧ k < i + n ∧ c k = true ∧ ∀ j, i ≤ j → j < k → c j = false
  | 0, _, _, h => by cases h
  | n + 1, i, k, h => by
    unfold gFst at h
    by_cases hc : c i = true
    · rw [if_pos hc] at h
      cases h
      exact ⟨Nat.le_refl _, by omega, hc, fun j h1 h2 => by omega⟩
    · rw [if_neg hc] at h
      obtain ⟨h1, h2, h3, h4⟩ := gFst_some h
      refine ⟨by omega, by omega, h3, fun j h5 h6 => ?_⟩
      by_cases e : j = i
      · subst e; simpa using hc
      · exact h4 j (by omega) h6
theorem gFst_none {c : Nat → Bool} : ∀ {n i : Nat}, gFst c n i = none → ∀ j, i ≤ j → j < i + n → c j = false
  | 0, _, _ => fun j h1 h2 => by omega
  | n + 1, i, h => fun j h1 h2 => by
    unfold gFst at h
    by_cases hc : c i = true
    · rw [if_pos hc] at h; cases h
    · rw [if_neg hc] at h
      by_cases e : j = i
      · subst e; simpa using hc
      · exact gFst_none h j (by omega) (by omega)
theorem gFst_congr {c c' : Nat → Bool} : ∀ {n i : Nat}, (∀ j, i ≤ j → j < i + n → c j = c' j) → gFst c n i = gFst c' n i
  | 0, _, _ => rfl
  | n + 1, i, h => by
    unfold gFst
    rw [h i (by omega) (by omega), gFst_congr (fun j h1 h2 => h j (by omega) (by omega))]
theorem upd_comm {g : Nat → Int32} {p q : Nat} {v w : Int32} (h : p ≠ q) : upd (upd g p v) q w = upd (upd g q w) p v := by
  funext j
  unfold upd
  by_cases e1 : j = q
  · have : ¬ j = p := by omega
    simp [e1, this]
    intro e; exact absurd e.symm h
  · simp [e1]
section O23
variable {G : gG} {d B : Nat} {σ : gM} {K : gK}
theorem op_told (h : gOK G) (hB : B < 1000000) (hR : wRel B σ) (a x : Int32) : gOp G (d + 4) B mX9_told mX10_told [.int a, .int x] σ := by
  unfold gOp
  rcases pk_ix a (n := 6) (by decide) with h1 | h1 | ⟨j, hj, rfl⟩
  · simp only [EX9_told, BX9_told_4, BX9_told_17, BX9_told_35, BX9_told_78, BX9_told_106, EX10_told, BX10_told_5, BX10_told_42, BX10_told_72, BX10_told_82, BX10_told_109, EX9_isHolder, isH_eq h, Option.toList_some, Option.toList_none, List.cons_append, List.nil_append, Nat.zero_add, Nat.reduceAdd, Option.some.injEq, Value.int.injEq, exists_eq_left', true_and, and_true, true_or, or_true, false_or, g_10, ↓reduceIte, h.1, h.2, hNow h, hReg h, hGrd h, hBlk h, hTgo h, hWlk h, hPln h, hTap h, hHol h, h1]
    exact wRel_up hR (by omega)
  · obtain ⟨e1, e2, e3⟩ := g_ge (n := 5) (by decide) h1
    have e2 : ¬ a < 6 := e2
    simp only [EX9_told, BX9_told_4, BX9_told_17, BX9_told_35, BX9_told_78, BX9_told_106, EX10_told, BX10_told_5, BX10_told_42, BX10_told_72, BX10_told_82, BX10_told_109, EX9_isHolder, isH_eq h, Option.toList_some, Option.toList_none, List.cons_append, List.nil_append, Nat.zero_add, Nat.reduceAdd, Option.some.injEq, Value.int.injEq, exists_eq_left', true_and, and_true, true_or, or_true, false_or, g_10, ↓reduceIte, h.1, h.2, hNow h, hReg h, hGrd h, hBlk h, hTgo h, hWlk h, hPln h, hTap h, hHol h, e1, e2]
    exact wRel_up hR (by omega)
  · obtain ⟨e1, e2, e3, e4, e5⟩ := g_ix (n := 5) hj (by decide)
    have e2 : nI j < 6 := e2
    obtain ⟨q1, q2, q3, q4⟩ := hR.2.2.2 j hj
    by_cases c : σ 100 j = 2
    · obtain ⟨w1, w2, w3⟩ := q4 c
      obtain ⟨n, hn⟩ : ∃ n, n = gN (σ 102 j) := ⟨_, rfl⟩
      have en : σ 102 j = nI n := by rw [hn]; exact w2.1
      have hn2 : n ≤ 60 := by rw [hn]; exact w2.2
      rw [← hn] at w3
      rcases Classical.em (∃ s, gGood σ x s) with ⟨s, hg⟩ | hg
      · obtain ⟨hs, hl, -⟩ := id hg
        obtain ⟨y1, y2⟩ := good_y (G := G) (B := B) h hg
        obtain ⟨f1, f2, f3, f4, f5⟩ := g_ix (n := 29) hs (by decide)
        have f2 : nI s < 30 := f2
        have fm := g_m1 (j := s) (by omega)
        obtain ⟨l, q, r, o, p, b1, b2, b3, b4, b5, b6, b7, b8, -⟩ := rBlk hR hs (by rw [hl]; decide)
        have cls : ∀ K : gK, gw (gCm' G (d + 3)) G mX9_told K 60 [.ref 0, .int (nI j), .int x, .int 0, .int (nI s), .int (nI n), .int 0, .long 0] [] σ = (match gFst (fun k => decide (¬ (k < q ∧ σ 2 (l + k) = σ 103 (j * 60 + k)))) n 0 with
            | some k => K (some (.int (nI k))) σ
            | none => if nI n < nI q then K (some (.int (nI n))) σ else K (some (.int (-2))) σ) := fun K => by
          refine g_find (W := fun i (v : Value) => gw (gCm' G (d + 3)) G mX9_told K 60 [.ref 0, .int (nI j), .int x, .int 0, .int (nI s), .int (nI n), .int (nI i), v] [] σ) (F := fun i _ => .int (nI (l + i))) (c := fun k => decide (¬ (k < q ∧ σ 2 (l + k) = σ 103 (j * 60 + k)))) (R := fun k => K (some (.int (nI k))) σ) (L := n) (fun i hi v => ?_) (fun v => ?_) _
          · have g0 : nI i < nI n := nI_lt hi (by omega)
            have g00 : ¬ nI i < 0 := nI_pos (by omega)
            rw [BX9_told_60 h.1]
            by_cases hk : i < q
            · obtain ⟨g1, g2, g3, g4, g5, g6, g7, g8, g9, g10⟩ := cellF hR b6 b8 hk
              obtain ⟨u1, u2, u3⟩ := itemF hj (show i < 60 by omega)
              by_cases hc : σ 2 (l + i) = σ 103 (j * 60 + i)
              · simp +decide only [EX3_cellAt, EX2_item, BX9_told_78, BX9_told_106, Option.toList_some, Option.toList_none, List.cons_append, List.nil_append, Nat.zero_add, Nat.reduceAdd, Option.some.injEq, Value.int.injEq, exists_eq_left', true_and, and_true, true_or, or_true, false_or, g_10, ↓reduceIte, h.1, h.2, hNow h, hReg h, hGrd h, hBlk h, hTgo h, hWlk h, hPln h, hTap h, hHol h, g0, g00, f1, f2, f4, f5, b1, b2, g1, g2, g3, g9, g10, u1, u2, u3, hk, hc, nI_1]
              · simp +decide only [EX3_cellAt, EX2_item, BX9_told_78, BX9_told_106, Option.toList_some, Option.toList_none, List.cons_append, List.nil_append, Nat.zero_add, Nat.reduceAdd, Option.some.injEq, Value.int.injEq, exists_eq_left', true_and, and_true, true_or, or_true, false_or, g_10, ↓reduceIte, h.1, h.2, hNow h, hReg h, hGrd h, hBlk h, hTgo h, hWlk h, hPln h, hTap h, hHol h, g0, g00, f1, f2, f4, f5, b1, b2, g1, g2, g3, g9, g10, u1, u2, u3, hk, hc, nI_1]
            · have g9 : ¬ nI i < nI q := nI_nlt (by omega) (by omega)
              simp +decide only [EX3_cellAt, BX9_told_78, Option.toList_some, Option.toList_none, List.cons_append, List.nil_append, Nat.zero_add, Nat.reduceAdd, Option.some.injEq, Value.int.injEq, exists_eq_left', true_and, and_true, true_or, or_true, false_or, g_10, ↓reduceIte, h.1, h.2, hNow h, hReg h, hGrd h, hBlk h, hTgo h, hWlk h, hPln h, hTap h, hHol h, g0, g00, f1, f2, f4, f5, b2, g9, hk, false_and, not_false_eq_true, decide_true]
          · rw [BX9_told_60 h.1]
            simp only [show ¬ nI n < nI n from nI_nlt (Nat.le_refl _) (by omega), Option.toList_some, Option.toList_none, List.cons_append, List.nil_append, Nat.zero_add, Nat.reduceAdd, Option.some.injEq, Value.int.injEq, exists_eq_left', true_and, and_true, true_or, or_true, false_or, g_10, ↓reduceIte, f4, f5, b2]
        have mdl : ∀ K : gK, gw (gCm' G (d + 3)) G mX10_told K 53 [.ref 104, .int (nI j), .int x, .int (nI s), .int 0] [] σ = (match gFst (fun k => decide (¬ (k < q ∧ σ 2 (l + k) = σ 103 (j * 60 + k)))) n 0 with
            | some k => K (some (.int (nI k))) σ
            | none => if nI n < nI q then K (some (.int (nI n))) σ else K (some (.int (-2))) σ) := fun K => by
          refine g_find (W := fun i (_ : Unit) => gw (gCm' G (d + 3)) G mX10_told K 53 [.ref 104, .int (nI j), .int x, .int (nI s), .int (nI i)] [] σ) (F := fun _ _ => ()) (c := fun k => decide (¬ (k < q ∧ σ 2 (l + k) = σ 103 (j * 60 + k)))) (R := fun k => K (some (.int (nI k))) σ) (L := n) (fun i hi v => ?_) (fun v => ?_) ()
          · have g0 : nI i < nI n := nI_lt hi (by omega)
            have g00 : ¬ nI i < 0 := nI_pos (by omega)
            have u4 : vp_in (nI i) 60 := vp_in_nI (by omega) (by decide)
            have u5 : (nI i).toNatClampNeg = i := nI_clamp (by omega)
            rw [BX10_told_53 h.2]
            by_cases hk : i < q
            · obtain ⟨g1, g2, g3, g4, g5, g6, g7, g8, g9, g10⟩ := cellF hR b6 b8 hk
              have hit := w3 i hi
              by_cases hc : σ 2 (l + i) = σ 103 (j * 60 + i)
              · simp +decide only [EX10_cellOf, BX10_cellOf_8, BX10_cellOf_13, BX10_cellOf_29, EX10_in, BX10_told_72, BX10_told_82, at_3 h hs, at_2 h hs, rs3 hR _ hs, rs2 hR _ hs, Option.toList_some, Option.toList_none, List.cons_append, List.nil_append, Nat.zero_add, Nat.reduceAdd, Option.some.injEq, Value.int.injEq, exists_eq_left', true_and, and_true, true_or, or_true, false_or, g_10, ↓reduceIte, h.1, h.2, hNow h, hReg h, hGrd h, hBlk h, hTgo h, hWlk h, hPln h, hTap h, hHol h, e4, e5, w1, en, g0, g00, b1, b2, g_pred b6, g1, g2, g3, g4, g5, g6, g7, g8, g9, hk, u4, u5, hit, hc, nI_1]
              · simp +decide only [EX10_cellOf, BX10_cellOf_8, BX10_cellOf_13, BX10_cellOf_29, EX10_in, BX10_told_72, BX10_told_82, at_3 h hs, at_2 h hs, rs3 hR _ hs, rs2 hR _ hs, Option.toList_some, Option.toList_none, List.cons_append, List.nil_append, Nat.zero_add, Nat.reduceAdd, Option.some.injEq, Value.int.injEq, exists_eq_left', true_and, and_true, true_or, or_true, false_or, g_10, ↓reduceIte, h.1, h.2, hNow h, hReg h, hGrd h, hBlk h, hTgo h, hWlk h, hPln h, hTap h, hHol h, e4, e5, w1, en, g0, g00, b1, b2, g_pred b6, g1, g2, g3, g4, g5, g6, g7, g8, g9, hk, u4, u5, hit, hc, nI_1]
            · have g9 : ¬ nI i < nI q := nI_nlt (by omega) (by omega)
              simp +decide only [BX10_told_72, at_3 h hs, rs3 hR _ hs, Option.toList_some, Option.toList_none, List.cons_append, List.nil_append, Nat.zero_add, Nat.reduceAdd, Option.some.injEq, Value.int.injEq, exists_eq_left', true_and, and_true, true_or, or_true, false_or, g_10, ↓reduceIte, h.1, h.2, hNow h, hReg h, hGrd h, hBlk h, hTgo h, hWlk h, hPln h, hTap h, hHol h, e4, e5, w1, en, g0, b2, g9, hk, false_and, not_false_eq_true, decide_true]
          · rw [BX10_told_53 h.2]
            simp only [show ¬ nI n < nI n from nI_nlt (Nat.le_refl _) (by omega), at_3 h hs, rs3 hR _ hs, BX10_told_109, Option.toList_some, Option.toList_none, List.cons_append, List.nil_append, Nat.zero_add, Nat.reduceAdd, Option.some.injEq, Value.int.injEq, exists_eq_left', true_and, and_true, true_or, or_true, false_or, g_10, ↓reduceIte, h.1, h.2, hNow h, hReg h, hGrd h, hBlk h, hTgo h, hWlk h, hPln h, hTap h, hHol h, e4, e5, w1, en, b2]
        generalize gFst (fun k => decide (¬ (k < q ∧ σ 2 (l + k) = σ 103 (j * 60 + k)))) n 0 = fr at cls mdl
        cases fr with
        | some k =>
          dsimp only at cls mdl
          simp only [EX9_told, BX9_told_4, BX9_told_17, BX9_told_35, BX9_told_78, BX9_told_106, EX10_told, BX10_told_5, BX10_told_42, BX10_told_72, BX10_told_82, BX10_told_109, EX9_isHolder, EX2_faultAsRow, isH_eq h, Option.toList_some, Option.toList_none, List.cons_append, List.nil_append, Nat.zero_add, Nat.reduceAdd, Option.some.injEq, Value.int.injEq, exists_eq_left', true_and, and_true, true_or, or_true, false_or, g_10, ↓reduceIte, g_up_d, Nat.reduceEqDiff, h.1, h.2, hNow h, hReg h, hGrd h, hBlk h, hTgo h, hWlk h, hPln h, hTap h, hHol h, e1, e2, e4, e5, c, q1, y1, y2, fm, f1, en, rs0 hR _ hs, rs1 hR _ hs, cls, mdl]
          exact wRel_up hR (by omega)
        | none =>
          dsimp only at cls mdl
          by_cases z : nI n < nI q
          · simp only [EX9_told, BX9_told_4, BX9_told_17, BX9_told_35, BX9_told_78, BX9_told_106, EX10_told, BX10_told_5, BX10_told_42, BX10_told_72, BX10_told_82, BX10_told_109, EX9_isHolder, EX2_faultAsRow, isH_eq h, Option.toList_some, Option.toList_none, List.cons_append, List.nil_append, Nat.zero_add, Nat.reduceAdd, Option.some.injEq, Value.int.injEq, exists_eq_left', true_and, and_true, true_or, or_true, false_or, g_10, ↓reduceIte, g_up_d, Nat.reduceEqDiff, h.1, h.2, hNow h, hReg h, hGrd h, hBlk h, hTgo h, hWlk h, hPln h, hTap h, hHol h, e1, e2, e4, e5, c, q1, y1, y2, fm, f1, en, rs0 hR _ hs, rs1 hR _ hs, cls, mdl, z]
            exact wRel_up hR (by omega)
          · simp only [EX9_told, BX9_told_4, BX9_told_17, BX9_told_35, BX9_told_78, BX9_told_106, EX10_told, BX10_told_5, BX10_told_42, BX10_told_72, BX10_told_82, BX10_told_109, EX9_isHolder, EX2_faultAsRow, isH_eq h, Option.toList_some, Option.toList_none, List.cons_append, List.nil_append, Nat.zero_add, Nat.reduceAdd, Option.some.injEq, Value.int.injEq, exists_eq_left', true_and, and_true, true_or, or_true, false_or, g_10, ↓reduceIte, g_up_d, Nat.reduceEqDiff, h.1, h.2, hNow h, hReg h, hGrd h, hBlk h, hTgo h, hWlk h, hPln h, hTap h, hHol h, e1, e2, e4, e5, c, q1, y1, y2, fm, f1, en, rs0 hR _ hs, rs1 hR _ hs, cls, mdl, z]
            exact wRel_up hR (by omega)
      · obtain ⟨n1, n2⟩ := good_n' h hR (not_exists.mp hg)
        simp only [EX9_told, BX9_told_4, BX9_told_17, BX9_told_35, BX9_told_78, BX9_told_106, EX10_told, BX10_told_5, BX10_told_42, BX10_told_72, BX10_told_82, BX10_told_109, EX9_isHolder, EX2_faultAsRow, isH_eq h, Option.toList_some, Option.toList_none, List.cons_append, List.nil_append, Nat.zero_add, Nat.reduceAdd, Option.some.injEq, Value.int.injEq, exists_eq_left', true_and, and_true, true_or, or_true, false_or, g_10, ↓reduceIte, g_up_d, Nat.reduceEqDiff, h.1, h.2, hNow h, hReg h, hGrd h, hBlk h, hTgo h, hWlk h, hPln h, hTap h, hHol h, e1, e2, e4, e5, c, q1, n1, n2, show (-2 : Int32) < 0 by decide]
        exact wRel_up hR (by omega)
    · by_cases c0 : σ 100 j = 0
      · simp +decide only [EX9_told, BX9_told_4, BX9_told_17, BX9_told_35, BX9_told_78, BX9_told_106, EX10_told, BX10_told_5, BX10_told_42, BX10_told_72, BX10_told_82, BX10_told_109, EX9_isHolder, EX2_faultAsRow, isH_eq h, Option.toList_some, Option.toList_none, List.cons_append, List.nil_append, Nat.zero_add, Nat.reduceAdd, Option.some.injEq, Value.int.injEq, exists_eq_left', true_and, and_true, true_or, or_true, false_or, g_10, ↓reduceIte, g_up_d, Nat.reduceEqDiff, h.1, h.2, hNow h, hReg h, hGrd h, hBlk h, hTgo h, hWlk h, hPln h, hTap h, hHol h, e1, e2, e4, e5, c, c0, q1]
        exact wRel_up hR (by omega)
      · simp +decide only [EX9_told, BX9_told_4, BX9_told_17, BX9_told_35, BX9_told_78, BX9_told_106, EX10_told, BX10_told_5, BX10_told_42, BX10_told_72, BX10_told_82, BX10_told_109, EX9_isHolder, EX2_faultAsRow, isH_eq h, Option.toList_some, Option.toList_none, List.cons_append, List.nil_append, Nat.zero_add, Nat.reduceAdd, Option.some.injEq, Value.int.injEq, exists_eq_left', true_and, and_true, true_or, or_true, false_or, g_10, ↓reduceIte, g_up_d, Nat.reduceEqDiff, h.1, h.2, hNow h, hReg h, hGrd h, hBlk h, hTgo h, hWlk h, hPln h, hTap h, hHol h, e1, e2, e4, e5, c, c0, q1]
        exact wRel_up hR (by omega)
theorem op_tells (h : gOK G) (hB : B < 1000000) (hR : wRel B σ) (a w : Int32) : gOp G (d + 5) B mX9_tells mX10_tells [.int a, .int w] σ := by
  unfold gOp
  rcases pk_ix a (n := 6) (by decide) with h1 | h1 | ⟨j, hj, rfl⟩
  · simp only [EX9_tells, BX9_tells_4, BX9_tells_63, EX10_tells, BX10_tells_5, BX10_tells_14, BX10_tells_70, BX10_tells_87, BX10_tells_90, BX10_tells_102, BX10_tells_108, BX10_tells_131, BX10_tells_134, EX9_isHolder, isH_eq h, Option.toList_some, Option.toList_none, List.cons_append, List.nil_append, Nat.zero_add, Nat.reduceAdd, Option.some.injEq, Value.int.injEq, exists_eq_left', true_and, and_true, true_or, or_true, false_or, g_10, ↓reduceIte, h.1, h.2, hNow h, hReg h, hGrd h, hBlk h, hTgo h, hWlk h, hPln h, hTap h, hHol h, h1]
    exact wRel_up hR (by omega)
  · obtain ⟨e1, e2, e3⟩ := g_ge (n := 5) (by decide) h1
    have e2 : ¬ a < 6 := e2
    simp only [EX9_tells, BX9_tells_4, BX9_tells_63, EX10_tells, BX10_tells_5, BX10_tells_14, BX10_tells_70, BX10_tells_87, BX10_tells_90, BX10_tells_102, BX10_tells_108, BX10_tells_131, BX10_tells_134, EX9_isHolder, isH_eq h, Option.toList_some, Option.toList_none, List.cons_append, List.nil_append, Nat.zero_add, Nat.reduceAdd, Option.some.injEq, Value.int.injEq, exists_eq_left', true_and, and_true, true_or, or_true, false_or, g_10, ↓reduceIte, h.1, h.2, hNow h, hReg h, hGrd h, hBlk h, hTgo h, hWlk h, hPln h, hTap h, hHol h, e1, e2]
    exact wRel_up hR (by omega)
  · obtain ⟨e1, e2, e3, e4, e5⟩ := g_ix (n := 5) hj (by decide)
    have e2 : nI j < 6 := e2
    obtain ⟨q1, q2, q3, q4⟩ := hR.2.2.2 j hj
    by_cases w0 : w < 0
    · simp only [EX9_tells, BX9_tells_4, BX9_tells_63, EX10_tells, BX10_tells_5, BX10_tells_14, BX10_tells_70, BX10_tells_87, BX10_tells_90, BX10_tells_102, BX10_tells_108, BX10_tells_131, BX10_tells_134, EX9_isHolder, EX10_in, isH_eq h, Option.toList_some, Option.toList_none, List.cons_append, List.nil_append, Nat.zero_add, Nat.reduceAdd, Option.some.injEq, Value.int.injEq, exists_eq_left', true_and, and_true, true_or, or_true, false_or, g_10, ↓reduceIte, h.1, h.2, hNow h, hReg h, hGrd h, hBlk h, hTgo h, hWlk h, hPln h, hTap h, hHol h, e1, e2, w0]
      exact wRel_up hR (by omega)
    by_cases w3 : 3 < w
    · simp only [EX9_tells, BX9_tells_4, BX9_tells_63, EX10_tells, BX10_tells_5, BX10_tells_14, BX10_tells_70, BX10_tells_87, BX10_tells_90, BX10_tells_102, BX10_tells_108, BX10_tells_131, BX10_tells_134, EX9_isHolder, EX10_in, isH_eq h, Option.toList_some, Option.toList_none, List.cons_append, List.nil_append, Nat.zero_add, Nat.reduceAdd, Option.some.injEq, Value.int.injEq, exists_eq_left', true_and, and_true, true_or, or_true, false_or, g_10, ↓reduceIte, h.1, h.2, hNow h, hReg h, hGrd h, hBlk h, hTgo h, hWlk h, hPln h, hTap h, hHol h, e1, e2, w0, w3]
      exact wRel_up hR (by omega)
    obtain ⟨k, -, hk, rfl⟩ := g_rng (a := 0) (b := 3) (by decide) (by decide) w0 w3
    rcases q2 with c | c | c
    · simp +decide only [EX9_tells, BX9_tells_4, BX9_tells_63, EX10_tells, BX10_tells_5, BX10_tells_14, BX10_tells_70, BX10_tells_87, BX10_tells_90, BX10_tells_102, BX10_tells_108, BX10_tells_131, BX10_tells_134, EX9_isHolder, EX10_in, isH_eq h, Option.toList_some, Option.toList_none, List.cons_append, List.nil_append, Nat.zero_add, Nat.reduceAdd, Option.some.injEq, Value.int.injEq, exists_eq_left', true_and, and_true, true_or, or_true, false_or, g_10, ↓reduceIte, h.1, h.2, hNow h, hReg h, hGrd h, hBlk h, hTgo h, hWlk h, hPln h, hTap h, hHol h, e1, e2, e4, e5, w0, w3, c, q1]
      exact wRel_up hR (by omega)
    · have q3 := q3 c
      rcases (by omega : k = 0 ∨ 1 ≤ k) with rfl | hk1
      · simp +decide only [EX9_tells, BX9_tells_4, BX9_tells_63, EX10_tells, BX10_tells_5, BX10_tells_14, BX10_tells_70, BX10_tells_87, BX10_tells_90, BX10_tells_102, BX10_tells_108, BX10_tells_131, BX10_tells_134, EX9_isHolder, EX10_in, EX9_takenFor, BX9_takenFor_20, isH_eq h, Option.toList_some, Option.toList_none, List.cons_append, List.nil_append, Nat.zero_add, Nat.reduceAdd, Option.some.injEq, Value.int.injEq, exists_eq_left', true_and, and_true, true_or, or_true, false_or, g_10, ↓reduceIte, h.1, h.2, hNow h, hReg h, hGrd h, hBlk h, hTgo h, hWlk h, hPln h, hTap h, hHol h, e1, e2, e4, e5, c, q1, q3]
        exact wRel_up hR (by omega)
      · have k0 : ¬ nI k = 0 := nI_ne0 (by omega) (by omega)
        rcases Classical.em (∃ s, gGood σ (σ 101 j) s) with ⟨s, hg⟩ | hg
        · obtain ⟨hs, hl, -⟩ := id hg
          obtain ⟨y1, y2⟩ := good_y (G := G) (B := B) h hg
          obtain ⟨f1, f2, f3, f4, f5⟩ := g_ix (n := 29) hs (by decide)
          have fm := g_m1 (j := s) (by omega)
          obtain ⟨l, q, r, o, p, b1, b2, b3, b4, b5, b6, b7, b8, -, -, -, b9, -⟩ := rBlk hR hs (by rw [hl]; decide)
          rcases (by omega : k = 1 ∨ k = 2 ∨ k = 3) with rfl | rfl | rfl
          · simp +decide only [EX9_tells, BX9_tells_4, BX9_tells_63, EX10_tells, BX10_tells_5, BX10_tells_14, BX10_tells_70, BX10_tells_87, BX10_tells_90, BX10_tells_102, BX10_tells_108, BX10_tells_131, BX10_tells_134, EX9_isHolder, EX10_in, EX9_takenFor, BX9_takenFor_20, isH_eq h, at_3 h hs, rs3 hR _ hs, Option.toList_some, Option.toList_none, List.cons_append, List.nil_append, Nat.zero_add, Nat.reduceAdd, Option.some.injEq, Value.int.injEq, exists_eq_left', true_and, and_true, true_or, or_true, false_or, g_10, ↓reduceIte, h.1, h.2, hNow h, hReg h, hGrd h, hBlk h, hTgo h, hWlk h, hPln h, hTap h, hHol h, e1, e2, e4, e5, c, q1, q3, y1, y2, rs0 hR _ hs, rs1 hR _ hs, f1, f4, f5, fm]
            exact wRel_up hR (by omega)
          · by_cases p0 : p = 0
            · subst p0
              simp +decide only [EX9_tells, BX9_tells_4, BX9_tells_63, EX10_tells, BX10_tells_5, BX10_tells_14, BX10_tells_70, BX10_tells_87, BX10_tells_90, BX10_tells_102, BX10_tells_108, BX10_tells_131, BX10_tells_134, EX9_isHolder, EX10_in, EX9_takenFor, BX9_takenFor_20, isH_eq h, at_6 h hs, rs6 hR _ hs, Option.toList_some, Option.toList_none, List.cons_append, List.nil_append, Nat.zero_add, Nat.reduceAdd, Option.some.injEq, Value.int.injEq, exists_eq_left', true_and, and_true, true_or, or_true, false_or, g_10, ↓reduceIte, h.1, h.2, hNow h, hReg h, hGrd h, hBlk h, hTgo h, hWlk h, hPln h, hTap h, hHol h, e1, e2, e4, e5, c, q1, q3, y1, y2, rs0 hR _ hs, rs1 hR _ hs, f1, f4, f5, fm, b5]
              exact wRel_up hR (by omega)
            · have p1 : 0 < nI p := nI_lt (a := 0) (by omega) (by omega)
              have p2 : ¬ nI p = 0 := nI_ne0 (by omega) (by omega)
              simp +decide only [EX9_tells, BX9_tells_4, BX9_tells_63, EX10_tells, BX10_tells_5, BX10_tells_14, BX10_tells_70, BX10_tells_87, BX10_tells_90, BX10_tells_102, BX10_tells_108, BX10_tells_131, BX10_tells_134, EX9_isHolder, EX10_in, EX9_takenFor, BX9_takenFor_20, isH_eq h, at_6 h hs, rs6 hR _ hs, Option.toList_some, Option.toList_none, List.cons_append, List.nil_append, Nat.zero_add, Nat.reduceAdd, Option.some.injEq, Value.int.injEq, exists_eq_left', true_and, and_true, true_or, or_true, false_or, g_10, ↓reduceIte, h.1, h.2, hNow h, hReg h, hGrd h, hBlk h, hTgo h, hWlk h, hPln h, hTap h, hHol h, e1, e2, e4, e5, c, q1, q3, y1, y2, rs0 hR _ hs, rs1 hR _ hs, f1, f4, f5, fm, b5, p1, p2]
              exact wRel_up hR (by omega)
          · rcases (rSl hR s hs).2.2.2.1 with ht | ht
            · have ht : σ 17 s = -1 := ht
              simp +decide only [EX9_tells, BX9_tells_4, BX9_tells_63, EX10_tells, BX10_tells_5, BX10_tells_14, BX10_tells_70, BX10_tells_87, BX10_tells_90, BX10_tells_102, BX10_tells_108, BX10_tells_131, BX10_tells_134, EX9_isHolder, EX10_in, EX9_takenFor, BX9_takenFor_20, isH_eq h, at_7 h hs, rs7 hR _ hs, Option.toList_some, Option.toList_none, List.cons_append, List.nil_append, Nat.zero_add, Nat.reduceAdd, Option.some.injEq, Value.int.injEq, exists_eq_left', true_and, and_true, true_or, or_true, false_or, g_10, ↓reduceIte, h.1, h.2, hNow h, hReg h, hGrd h, hBlk h, hTgo h, hWlk h, hPln h, hTap h, hHol h, e1, e2, e4, e5, c, q1, q3, y1, y2, rs0 hR _ hs, rs1 hR _ hs, f1, f4, f5, fm, ht]
              exact wRel_up hR (by omega)
            · have ht : gNn (σ 17 s) 499 := ht
              have ht2 : ¬ σ 17 s < 0 := gNn_neg ht (by decide)
              have ht3 : ¬ σ 17 s = -1 := by rw [ht.1]; exact g_m1 (by have := ht.2; omega)
              simp +decide only [EX9_tells, BX9_tells_4, BX9_tells_63, EX10_tells, BX10_tells_5, BX10_tells_14, BX10_tells_70, BX10_tells_87, BX10_tells_90, BX10_tells_102, BX10_tells_108, BX10_tells_131, BX10_tells_134, EX9_isHolder, EX10_in, EX9_takenFor, BX9_takenFor_20, isH_eq h, at_7 h hs, rs7 hR _ hs, Option.toList_some, Option.toList_none, List.cons_append, List.nil_append, Nat.zero_add, Nat.reduceAdd, Option.some.injEq, Value.int.injEq, exists_eq_left', true_and, and_true, true_or, or_true, false_or, g_10, ↓reduceIte, h.1, h.2, hNow h, hReg h, hGrd h, hBlk h, hTgo h, hWlk h, hPln h, hTap h, hHol h, e1, e2, e4, e5, c, q1, q3, y1, y2, rs0 hR _ hs, rs1 hR _ hs, f1, f4, f5, fm, ht2, ht3]
              exact wRel_up hR (by omega)
        · obtain ⟨n1, n2⟩ := good_n' h hR (not_exists.mp hg)
          simp +decide only [EX9_tells, BX9_tells_4, BX9_tells_63, EX10_tells, BX10_tells_5, BX10_tells_14, BX10_tells_70, BX10_tells_87, BX10_tells_90, BX10_tells_102, BX10_tells_108, BX10_tells_131, BX10_tells_134, EX9_isHolder, EX10_in, EX9_takenFor, BX9_takenFor_20, isH_eq h, Option.toList_some, Option.toList_none, List.cons_append, List.nil_append, Nat.zero_add, Nat.reduceAdd, Option.some.injEq, Value.int.injEq, exists_eq_left', true_and, and_true, true_or, or_true, false_or, g_10, ↓reduceIte, h.1, h.2, hNow h, hReg h, hGrd h, hBlk h, hTgo h, hWlk h, hPln h, hTap h, hHol h, e1, e2, e4, e5, w0, w3, k0, c, q1, q3, n1, n2]
          exact wRel_up hR (by omega)
    · simp +decide only [EX9_tells, BX9_tells_4, BX9_tells_63, EX10_tells, BX10_tells_5, BX10_tells_14, BX10_tells_70, BX10_tells_87, BX10_tells_90, BX10_tells_102, BX10_tells_108, BX10_tells_131, BX10_tells_134, EX9_isHolder, EX10_in, isH_eq h, Option.toList_some, Option.toList_none, List.cons_append, List.nil_append, Nat.zero_add, Nat.reduceAdd, Option.some.injEq, Value.int.injEq, exists_eq_left', true_and, and_true, true_or, or_true, false_or, g_10, ↓reduceIte, h.1, h.2, hNow h, hReg h, hGrd h, hBlk h, hTgo h, hWlk h, hPln h, hTap h, hHol h, e1, e2, e4, e5, w0, w3, c, q1]
      exact wRel_up hR (by omega)
end O23
