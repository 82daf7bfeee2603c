section O32
variable {G : gG} {d B : Nat} {σ : gM} {K : gK}
theorem tag_u (hR : wRel B σ) {s x : Nat} (hs : s < 30) (hx : x < 30) (h1 : σ 11 s = 1) (h2 : σ 11 x = 1) (h3 : σ 17 s ≠ -1) (h4 : σ 17 x = σ 17 s) : x = s := by
  obtain ⟨t1, t2, t3, t4, t5⟩ := hR.1.2.1
  obtain ⟨k, hk, ek⟩ := t4 s hs h1 h3
  obtain ⟨j, hj, ej⟩ := t4 x hx h2 (by show σ 17 x ≠ -1; rw [h4]; exact h3)
  have gk : gN (gMem σ 1 19 k) = s := by rw [ek, gN_nI (by omega)]
  have gj : gN (gMem σ 1 19 j) = x := by rw [ej, gN_nI (by omega)]
  rcases Nat.lt_trichotomy k j with z | z | z
  · exact absurd (by rw [gk, gj]; exact h4.symm) (t5 k j z hj).2
  · rw [← gk, ← gj, z]
  · exact absurd (by rw [gk, gj]; exact h4) (t5 j k z hk).2
theorem rOrd (hR : wRel B σ) {k M : Nat} (hM : M = gN (σ 19 0)) (hk : k < M) : ∃ s, s < 30 ∧ σ 20 k = nI s ∧ gN (σ 20 k) = s ∧ σ 11 s = 1 ∧ σ 17 s ≠ -1 := by
  obtain ⟨t1, t2, t3, t4, t5⟩ := hR.1.2.1
  obtain ⟨u1, u2, u3, -⟩ := t3 k (by rw [hM] at hk; exact hk)
  have := u1.2
  exact ⟨gN (σ 20 k), Nat.lt_succ_of_le this, u1.1, rfl, u2, u3⟩
theorem bear_y (h : gOK G) (hR : wRel B σ) {s t : Nat} (hs : s < 30) (h1 : σ 11 s = 1) (h2 : σ 17 s = nI t) (ht : t < 500) : (∀ d K, g_inv (gCm' G (d + 2)) mX3_tagBearer [.ref 1, .int (nI t)] σ K = K (some (.int (nI s))) σ) ∧ ∀ d K z, z 105 = σ 105 → g_inv (gCm' G (d + 3)) mX10_taggedBy [.ref 104, .int (nI t)] z K = K (some (.int (nI s))) z := by
  obtain ⟨M, hM, eM⟩ : ∃ M, M = gN (σ 19 0) ∧ σ 19 0 = nI M := ⟨_, rfl, hR.1.2.1.1.1⟩
  have M30 : M ≤ 30 := by rw [hM]; exact hR.1.2.1.1.2
  have ht1 : σ 17 s ≠ -1 := by rw [h2]; exact g_m1 (by omega)
  refine ⟨fun d K => ?_, fun d K z hz => ?_⟩
  · obtain ⟨k0, hk0, ek0⟩ := hR.1.2.1.2.2.2.1 s hs h1 ht1
    have hk0 : k0 < M := by rw [hM]; exact hk0
    have ek0 : σ 20 k0 = nI s := ek0
    rw [EX3_tagBearer (hNow h)]
    refine Eq.trans (g_find (W := fun i (v : Value) => gw (gCm' G (d + 1)) G mX3_tagBearer K 2 [.ref 1, .int (nI t), .int (nI i), v] [] σ) (F := fun i _ => .int (σ 20 i)) (c := fun i => decide (σ 17 (gN (σ 20 i)) = nI t)) (R := fun k => K (some (.int (σ 20 k))) σ) (E := K (some (.int (-1))) σ) (L := M) (fun i hi v => ?_) (fun v => ?_) _) ?_
    · obtain ⟨x, hx, ex, gx, x1, x2⟩ := rOrd hR hM hi
      obtain ⟨f1, f2, f3, f4, f5⟩ := g_ix (n := 29) hx (by decide)
      have xm := g_m1 (j := x) (by omega)
      have g0 : nI i < nI M := nI_lt hi (by omega)
      have g1 : nI i < 30 := nI_lt (b := 30) (by omega) (by decide)
      have g2 : ¬ nI i < 0 := nI_pos (by omega)
      have g3 : vp_in (nI i) 30 := vp_in_nI (by omega) (by decide)
      have g4 : (nI i).toNatClampNeg = i := nI_clamp (by omega)
      rw [BX3_tagBearer_2 (hNow h)]
      simp only [EX6_slotAt, BX3_tagBearer_21 (hNow h), Option.toList_some, Option.toList_none, List.cons_append, List.nil_append, Nat.zero_add, Nat.reduceAdd, Option.some.injEq, Value.int.injEq, exists_eq_left', true_and, and_true, true_or, or_true, false_or, g_10, ↓reduceIte, h.1, h.2, hNow h, hReg h, hGrd h, hBlk h, hTgo h, hWlk h, hPln h, hTap h, hHol h, eM, g0, g1, g2, g3, g4, ex, gx, xm, f4, f5, nI_1, decide_eq_true_eq, gN]
    · rw [BX3_tagBearer_2 (hNow h)]
      simp only [eM, Option.toList_some, Option.toList_none, List.cons_append, List.nil_append, Nat.zero_add, Nat.reduceAdd, Option.some.injEq, Value.int.injEq, exists_eq_left', true_and, and_true, true_or, or_true, false_or, g_10, ↓reduceIte, show ¬ nI M < nI M from nI_nlt (Nat.le_refl _) (by omega)]
    · cases hf : gFst (fun i => decide (σ 17 (gN (σ 20 i)) = nI t)) M 0 with
      | none => exact absurd (gFst_none hf k0 (by omega) (by omega)) (by rw [ek0, gN_nI (by omega), h2]; simp)
      | some k =>
        obtain ⟨-, hk, hc, -⟩ := gFst_some hf
        obtain ⟨x, hx, ex, gx, x1, x2⟩ := rOrd hR hM (show k < M by omega)
        have hc := of_decide_eq_true hc
        rw [gx] at hc
        have := tag_u hR hs hx h1 x1 ht1 (by rw [hc, h2])
        subst this
        show K (some (.int (σ 20 k))) σ = _
        rw [ex]
  · rw [EX10_taggedBy h.2]
    refine Eq.trans (g_find (W := fun i (_ : Unit) => gw (gCm' G (d + 2)) G mX10_taggedBy K 2 [.ref 104, .int (nI t), .int (nI i)] [] z) (F := fun _ _ => ()) (c := fun i => decide (σ 11 i = 1 ∧ σ 17 i = nI t)) (R := fun k => K (some (.int (nI k))) z) (E := K (some (.int (-2))) z) (L := 30) (fun i hi v => ?_) (fun v => ?_) ()) ?_
    · obtain ⟨f1, f2, f3, f4, f5⟩ := g_ix (n := 29) hi (by decide)
      have f2 : nI i < 30 := f2
      rw [BX10_taggedBy_2 h.2]
      by_cases c1 : σ 11 i = 1 <;> by_cases c2 : σ 17 i = nI t <;>
        simp +decide only [f2, f4, f5, Option.toList_some, Option.toList_none, List.cons_append, List.nil_append, Nat.zero_add, Nat.reduceAdd, Option.some.injEq, Value.int.injEq, exists_eq_left', true_and, and_true, true_or, or_true, false_or, g_10, ↓reduceIte, nI_1, live_eq h hi, at_7 h hi, BX10_taggedBy_13 h.2, BX10_taggedBy_23 h.2, hz, rs0 hR _ hi, rs7 hR _ hi, c1, c2, decide_eq_true_eq, and_self, and_false, false_and]
    · rw [BX10_taggedBy_2 h.2]
      simp only [show ¬ nI 30 < 30 by decide, Option.toList_some, Option.toList_none, List.cons_append, List.nil_append, Nat.zero_add, Nat.reduceAdd, Option.some.injEq, Value.int.injEq, exists_eq_left', true_and, and_true, true_or, or_true, false_or, g_10, ↓reduceIte]
    · cases hf : gFst (fun i => decide (σ 11 i = 1 ∧ σ 17 i = nI t)) 30 0 with
      | none => exact absurd (gFst_none hf s (by omega) (by omega)) (by simp [h1, h2])
      | some k =>
        obtain ⟨-, hk, hc, -⟩ := gFst_some hf
        have hc := of_decide_eq_true hc
        have := tag_u hR hs (show k < 30 by omega) h1 hc.1 ht1 (by rw [hc.2, h2])
        subst this
        rfl
theorem bear_n (h : gOK G) (hR : wRel B σ) {t : Nat} (ht : t < 500) (hn : ∀ s, s < 30 → σ 11 s = 1 → σ 17 s ≠ nI t) : (∀ d K, g_inv (gCm' G (d + 2)) mX3_tagBearer [.ref 1, .int (nI t)] σ K = K (some (.int (-1))) σ) ∧ ∀ d K z, z 105 = σ 105 → g_inv (gCm' G (d + 3)) mX10_taggedBy [.ref 104, .int (nI t)] z K = K (some (.int (-2))) z := by
  obtain ⟨M, hM, eM⟩ : ∃ M, M = gN (σ 19 0) ∧ σ 19 0 = nI M := ⟨_, rfl, hR.1.2.1.1.1⟩
  have M30 : M ≤ 30 := by rw [hM]; exact hR.1.2.1.1.2
  refine ⟨fun d K => ?_, fun d K z hz => ?_⟩
  · rw [EX3_tagBearer (hNow h)]
    refine (g_for (W := fun i (v : Value) => gw (gCm' G (d + 1)) G mX3_tagBearer K 2 [.ref 1, .int (nI t), .int (nI i), v] [] σ) (R := fun _ => K (some (.int (-1))) σ) (F := fun i _ => .int (σ 20 i)) (L := M) (fun i hi v => ?_) (fun v => ?_) _)
    · obtain ⟨x, hx, ex, gx, x1, x2⟩ := rOrd hR hM hi
      obtain ⟨f1, f2, f3, f4, f5⟩ := g_ix (n := 29) hx (by decide)
      have xm := g_m1 (j := x) (by omega)
      have g0 : nI i < nI M := nI_lt hi (by omega)
      have g1 : nI i < 30 := nI_lt (b := 30) (by omega) (by decide)
      have g2 : ¬ nI i < 0 := nI_pos (by omega)
      have g3 : vp_in (nI i) 30 := vp_in_nI (by omega) (by decide)
      have g4 : (nI i).toNatClampNeg = i := nI_clamp (by omega)
      rw [BX3_tagBearer_2 (hNow h)]
      simp only [EX6_slotAt, BX3_tagBearer_21 (hNow h), Option.toList_some, Option.toList_none, List.cons_append, List.nil_append, Nat.zero_add, Nat.reduceAdd, Option.some.injEq, Value.int.injEq, exists_eq_left', true_and, and_true, true_or, or_true, false_or, g_10, ↓reduceIte, h.1, h.2, hNow h, hReg h, hGrd h, hBlk h, hTgo h, hWlk h, hPln h, hTap h, hHol h, eM, g0, g1, g2, g3, g4, ex, gx, xm, f4, f5, nI_1, hn x hx x1, gN]
    · rw [BX3_tagBearer_2 (hNow h)]
      simp only [eM, Option.toList_some, Option.toList_none, List.cons_append, List.nil_append, Nat.zero_add, Nat.reduceAdd, Option.some.injEq, Value.int.injEq, exists_eq_left', true_and, and_true, true_or, or_true, false_or, g_10, ↓reduceIte, show ¬ nI M < nI M from nI_nlt (Nat.le_refl _) (by omega)]
  · rw [EX10_taggedBy h.2]
    refine (g_for (W := fun i (_ : Unit) => gw (gCm' G (d + 2)) G mX10_taggedBy K 2 [.ref 104, .int (nI t), .int (nI i)] [] z) (R := fun _ => K (some (.int (-2))) z) (F := fun _ _ => ()) (L := 30) (fun i hi v => ?_) (fun v => ?_) ())
    · obtain ⟨f1, f2, f3, f4, f5⟩ := g_ix (n := 29) hi (by decide)
      have f2 : nI i < 30 := f2
      rw [BX10_taggedBy_2 h.2]
      by_cases c1 : σ 11 i = 1
      · simp +decide only [f2, f4, f5, Option.toList_some, Option.toList_none, List.cons_append, List.nil_append, Nat.zero_add, Nat.reduceAdd, Option.some.injEq, Value.int.injEq, exists_eq_left', true_and, and_true, true_or, or_true, false_or, g_10, ↓reduceIte, nI_1, live_eq h hi, at_7 h hi, BX10_taggedBy_13 h.2, BX10_taggedBy_23 h.2, hz, rs0 hR _ hi, rs7 hR _ hi, c1, hn i hi c1]
      · simp +decide only [f2, f4, f5, Option.toList_some, Option.toList_none, List.cons_append, List.nil_append, Nat.zero_add, Nat.reduceAdd, Option.some.injEq, Value.int.injEq, exists_eq_left', true_and, and_true, true_or, or_true, false_or, g_10, ↓reduceIte, nI_1, live_eq h hi, at_7 h hi, BX10_taggedBy_13 h.2, BX10_taggedBy_23 h.2, hz, rs0 hR _ hi, rs7 hR _ hi, c1]
    · rw [BX10_taggedBy_2 h.2]
      simp only [show ¬ nI 30 < 30 by decide, Option.toList_some, Option.toList_none, List.cons_append, List.nil_append, Nat.zero_add, Nat.reduceAdd, Option.some.injEq, Value.int.injEq, exists_eq_left', true_and, and_true, true_or, or_true, false_or, g_10, ↓reduceIte]
theorem op_find (h : gOK G) (hB : B < 1000000) (hR : wRel B σ) (a : Int32) : gOp G (d + 4) B mX9_find mX10_find [.int a] σ := by
  unfold gOp
  by_cases c1 : a < 0
  · simp only [EX9_find, BX9_find_4, BX9_find_17, BX9_find_39, EX10_find, BX10_find_8, BX10_find_18, BX10_find_33, EX10_in, EX9_isTag, Option.toList_some, Option.toList_none, List.cons_append, List.nil_append, Nat.zero_add, Nat.reduceAdd, Option.some.injEq, Value.int.injEq, exists_eq_left', true_and, and_true, true_or, or_true, false_or, g_10, ↓reduceIte, h.1, h.2, hNow h, hReg h, hGrd h, hBlk h, hTgo h, hWlk h, hPln h, hTap h, hHol h, c1]
    exact wRel_up hR (by omega)
  by_cases c2 : 499 < a
  · have c3 : ¬ a < 500 := fun z => by
      rw [Int32.lt_iff_toInt_lt] at c2 z
      have e1 : (499 : Int32).toInt = 499 := by decide
      have e2 : (500 : Int32).toInt = 500 := by decide
      omega
    simp only [EX9_find, BX9_find_4, BX9_find_17, BX9_find_39, EX10_find, BX10_find_8, BX10_find_18, BX10_find_33, EX10_in, EX9_isTag, Option.toList_some, Option.toList_none, List.cons_append, List.nil_append, Nat.zero_add, Nat.reduceAdd, Option.some.injEq, Value.int.injEq, exists_eq_left', true_and, and_true, true_or, or_true, false_or, g_10, ↓reduceIte, h.1, h.2, hNow h, hReg h, hGrd h, hBlk h, hTgo h, hWlk h, hPln h, hTap h, hHol h, c1, c2, c3]
    exact wRel_up hR (by omega)
  obtain ⟨t, -, ht, rfl⟩ := g_rng (a := 0) (b := 499) (by decide) (by decide) c1 c2
  have c3 : nI t < 500 := nI_lt (b := 500) (by omega) (by decide)
  rcases Classical.em (∃ s, s < 30 ∧ σ 11 s = 1 ∧ σ 17 s = nI t) with ⟨s, hs, h1, h2⟩ | hn
  · obtain ⟨y1, y2⟩ := bear_y h hR hs h1 h2 (by omega)
    obtain ⟨f1, f2, f3, f4, f5⟩ := g_ix (n := 29) hs (by decide)
    have sm := g_m1 (j := s) (by omega)
    simp only [EX9_find, BX9_find_4, BX9_find_17, BX9_find_39, EX10_find, BX10_find_8, BX10_find_18, BX10_find_33, EX10_in, EX9_isTag, Option.toList_some, Option.toList_none, List.cons_append, List.nil_append, Nat.zero_add, Nat.reduceAdd, Option.some.injEq, Value.int.injEq, exists_eq_left', true_and, and_true, true_or, or_true, false_or, g_10, ↓reduceIte, h.1, h.2, hNow h, hReg h, hGrd h, hBlk h, hTgo h, hWlk h, hPln h, hTap h, hHol h, c1, c2, c3, y1, y2 _ _ σ rfl, sm, f1, hof9_eq h hs, hof_eq h hs, rs1 hR _ hs]
    exact wRel_up hR (by omega)
  · obtain ⟨y1, y2⟩ := bear_n h hR (t := t) (by omega) (fun s hs h1 h2 => hn ⟨s, hs, h1, h2⟩)
    simp +decide only [EX9_find, BX9_find_4, BX9_find_17, BX9_find_39, EX10_find, BX10_find_8, BX10_find_18, BX10_find_33, EX10_in, EX9_isTag, Option.toList_some, Option.toList_none, List.cons_append, List.nil_append, Nat.zero_add, Nat.reduceAdd, Option.some.injEq, Value.int.injEq, exists_eq_left', true_and, and_true, true_or, or_true, false_or, g_10, ↓reduceIte, h.1, h.2, hNow h, hReg h, hGrd h, hBlk h, hTgo h, hWlk h, hPln h, hTap h, hHol h, c1, c2, c3, y1, y2 _ _ σ rfl]
    exact wRel_up hR (by omega)
theorem wTag_tag {B' : Nat} {m m' : gM} {g g' : Nat → Int32} {s M' v : Nat} {e : Nat → Nat} (hT : wTag B m g) (hs : s < 30) (hB : B < B') (hB2 : B' < 2000000) (h18 : m' 18 0 = nI (M' + 1)) (hM : M' < 30) (h19 : ∀ k, k < M' → e k < gN (m 18 0) ∧ m' 19 k = m 19 (e k) ∧ m 19 (e k) ≠ nI s) (h19s : m' 19 M' = nI s) (hmo : ∀ k j, k < j → j < M' → e k < e j) (hon : ∀ k, k < gN (m 18 0) → m 19 k ≠ nI s → ∃ j, j < M' ∧ e j = k)
    (h10 : ∀ t, t < 30 → m' 10 t = m 10 t) (h16 : ∀ t, t < 30 → t ≠ s → m' 16 t = m 16 t) (hs1 : m 10 s = 1) (hs2 : m' 16 s = nI v) (hv : v < 500) (hu : ∀ t, t < 30 → t ≠ s → m 10 t = 1 → m 16 t ≠ nI v) (hc : g' 606 = g 606 + 1) (hg8 : g' (s * 11 + 8) = g 606) (hg : ∀ t, t < 30 → t ≠ s → g' (t * 11 + 8) = g (t * 11 + 8)) : wTag B' m' g' := by
  obtain ⟨t1, t2, t3, t4, t5⟩ := hT
  have n30 := t1.2
  have c30 := t2.2
  have eM : gN (m' 18 0) = M' + 1 := by rw [h18, gN_nI (by omega)]
  have ec : g' 606 = nI (gN (g 606) + 1) := by rw [hc, t2.1, nI_1, gN_nI (by omega)]
  have ec2 : gN (g' 606) = gN (g 606) + 1 := by rw [ec, gN_nI (by omega)]
  have ne : ∀ k, k < M' → gN (m 19 (e k)) < 30 ∧ gN (m 19 (e k)) ≠ s := fun k hk => by
    obtain ⟨u1, u2, u3⟩ := h19 k hk
    obtain ⟨v1, -⟩ := t3 _ u1
    have := v1.2
    refine ⟨by omega, fun z => u3 ?_⟩
    rw [← z]; exact v1.1
  have es : gN (m' 19 M') = s := by rw [h19s, gN_nI (by omega)]
  unfold wTag
  rw [eM]
  refine ⟨by rw [h18]; exact gNn_nI (by omega) (by decide), by rw [ec]; exact gNn_nI (by omega) (by omega), fun k hk => ?_, fun t ht z1 z2 => ?_, fun k j hkj hj => ?_⟩
  · by_cases ek : k = M'
    · subst ek
      rw [es, h19s, h10 s hs, hs2, hg8, ec2]
      exact ⟨gNn_nI (by omega) (by decide), hs1, g_m1 (by omega), gNn_up t2 (by omega), by omega⟩
    · obtain ⟨u1, u2, u3⟩ := h19 k (by omega)
      obtain ⟨v1, v2, v3, v4, v5⟩ := t3 _ u1
      obtain ⟨w1, w2⟩ := ne k (by omega)
      rw [u2, h10 _ w1, h16 _ w1 w2, hg _ w1 w2, ec2]
      exact ⟨v1, v2, v3, gNn_up v4 (by omega), by omega⟩
  · by_cases hts : t = s
    · subst hts; exact ⟨M', by omega, h19s⟩
    · rw [h10 t ht] at z1
      rw [h16 t ht hts] at z2
      obtain ⟨k, hk, ek⟩ := t4 t ht z1 z2
      obtain ⟨j, hj, ej⟩ := hon k hk (fun z => hts (nI_inj (by omega) (by omega) (ek.symm.trans z)))
      exact ⟨j, by omega, by rw [(h19 j hj).2.1, ej, ek]⟩
  · obtain ⟨u1, u2, u3⟩ := h19 k (by omega)
    obtain ⟨w1, w2⟩ := ne k (by omega)
    by_cases ej : j = M'
    · subst ej
      rw [es, u2, h16 _ w1 w2, hg _ w1 w2, hg8, hs2]
      obtain ⟨v1, v2, v3, v4, v5⟩ := t3 _ u1
      exact ⟨v5, hu _ w1 w2 v2⟩
    · obtain ⟨u1', u2', u3'⟩ := h19 j (by omega)
      obtain ⟨w1', w2'⟩ := ne j (by omega)
      rw [u2, u2', h16 _ w1 w2, h16 _ w1' w2', hg _ w1 w2, hg _ w1' w2']
      exact t5 _ _ (hmo k j hkj (by omega)) u1'
theorem op_tag (h : gOK G) (hB : B < 1000000) (hR : wRel B σ) (x a : Int32) : gOp G (d + 4) B mX9_tag mX10_tag [.int x, .int a] σ := by
  unfold gOp
  by_cases c1 : a < 0
  · simp only [EX9_tag, BX9_tag_4, BX9_tag_20, BX9_tag_37, BX9_tag_54, BX9_tag_63, EX10_tag, BX10_tag_8, BX10_tag_18, BX10_tag_31, BX10_tag_47, BX10_tag_55, BX10_tag_72, BX10_tag_75, BX10_tag_79, EX10_in, EX9_isTag, Option.toList_some, Option.toList_none, List.cons_append, List.nil_append, Nat.zero_add, Nat.reduceAdd, Option.some.injEq, Value.int.injEq, exists_eq_left', true_and, and_true, true_or, or_true, false_or, g_10, ↓reduceIte, h.1, h.2, hNow h, hReg h, hGrd h, hBlk h, hTgo h, hWlk h, hPln h, hTap h, hHol h, c1]
    exact wRel_up hR (by omega)
  by_cases c2 : 499 < a
  · have c3 : ¬ a < 500 := fun z => by
      rw [Int32.lt_iff_toInt_lt] at c2 z
      have e1 : (499 : Int32).toInt = 499 := by decide
      have e2 : (500 : Int32).toInt = 500 := by decide
      omega
    simp only [EX9_tag, BX9_tag_4, BX9_tag_20, BX9_tag_37, BX9_tag_54, BX9_tag_63, EX10_tag, BX10_tag_8, BX10_tag_18, BX10_tag_31, BX10_tag_47, BX10_tag_55, BX10_tag_72, BX10_tag_75, BX10_tag_79, EX10_in, EX9_isTag, Option.toList_some, Option.toList_none, List.cons_append, List.nil_append, Nat.zero_add, Nat.reduceAdd, Option.some.injEq, Value.int.injEq, exists_eq_left', true_and, and_true, true_or, or_true, false_or, g_10, ↓reduceIte, h.1, h.2, hNow h, hReg h, hGrd h, hBlk h, hTgo h, hWlk h, hPln h, hTap h, hHol h, c1, c2, c3]
    exact wRel_up hR (by omega)
  obtain ⟨v, -, hv, rfl⟩ := g_rng (a := 0) (b := 499) (by decide) (by decide) c1 c2
  have c3 : nI v < 500 := nI_lt (b := 500) (by omega) (by decide)
  rcases Classical.em (∃ s, gGood σ x s) with ⟨s, hg⟩ | hg
  · obtain ⟨hs, hl, -⟩ := id hg
    obtain ⟨y1, y2⟩ := good_y (G := G) (B := B) h hg
    obtain ⟨f1, f2, f3, f4, f5⟩ := g_ix (n := 29) hs (by decide)
    have sm := g_m1 (j := s) (by omega)
    rcases Classical.em (∃ t, t < 30 ∧ t ≠ s ∧ σ 11 t = 1 ∧ σ 17 t = nI v) with ⟨t, ht, hts, h1, h2⟩ | hn
    · obtain ⟨u1, u2⟩ := bear_y h hR ht h1 h2 (by omega)
      have tm := g_m1 (j := t) (by omega)
      have ts : ¬ nI t = nI s := fun e => hts (nI_inj (by omega) (by omega) e)
      have tn : ¬ nI t < 0 := nI_pos (by omega)
      simp only [EX9_tag, BX9_tag_4, BX9_tag_20, BX9_tag_37, BX9_tag_54, BX9_tag_63, EX10_tag, BX10_tag_8, BX10_tag_18, BX10_tag_31, BX10_tag_47, BX10_tag_55, BX10_tag_72, BX10_tag_75, BX10_tag_79, EX10_in, EX9_isTag, Option.toList_some, Option.toList_none, List.cons_append, List.nil_append, Nat.zero_add, Nat.reduceAdd, Option.some.injEq, Value.int.injEq, exists_eq_left', true_and, and_true, true_or, or_true, false_or, g_10, ↓reduceIte, h.1, h.2, hNow h, hReg h, hGrd h, hBlk h, hTgo h, hWlk h, hPln h, hTap h, hHol h, c1, c2, c3, y1, y2, rs0 hR _ hs, rs1 hR _ hs, f1, sm, u1, u2 _ _ σ rfl, tm, ts, tn]
      exact wRel_up hR (by omega)
    · obtain ⟨M, hM, eM⟩ : ∃ M, M = gN (σ 19 0) ∧ σ 19 0 = nI M := ⟨_, rfl, hR.1.2.1.1.1⟩
      have M30 : M ≤ 30 := by rw [hM]; exact hR.1.2.1.1.2
      obtain ⟨k, hk, ek⟩ : ∃ k, k ≤ B ∧ σ 105 606 = nI k := ⟨_, hR.1.2.1.2.1.2, hR.1.2.1.2.1.1⟩
      obtain ⟨z, M', e, d1, d2, d3, d4, d5, d6, d7⟩ := drop_sp (G := G) (σ := σ) (s := s) (M := M) (hTgo h) eM M30
      have d3 : z 19 0 = nI M' := d3
      have hM' : M' < 30 := by
        refine ord_lt (t := fun k => gN (σ 20 (e k))) hs (fun k hk => ?_) (fun k j hkj hj => ?_) (fun k hk => ?_)
        · obtain ⟨x, hx, ex, gx, x1, x2⟩ := rOrd hR hM (d5 k hk).1
          show gN (σ 20 (e k)) < 30
          rw [gx]; exact hx
        · have := (hR.1.2.1.2.2.2.2 (e k) (e j) (d6 k j hkj hj) (by have := (d5 j hj).1; rw [hM] at this; exact this)).2
          intro z
          have z : gN (σ 20 (e k)) = gN (σ 20 (e j)) := z
          exact this (congrArg (σ 17) z)
        · obtain ⟨x, hx, ex, gx, x1, x2⟩ := rOrd hR hM (d5 k hk).1
          intro z
          have z : gN (σ 20 (e k)) = s := z
          exact (d5 k hk).2.2 (by show σ 20 (e k) = nI s; rw [ex, ← gx, z])
      have zo : ∀ i, i ≠ 19 → i ≠ 20 → z i = σ i := d2
      have g1 : nI M' < 30 := nI_lt (b := 30) (by omega) (by decide)
      have g3 : vp_in (nI M') 30 := vp_in_nI (by omega) (by decide)
      have g4 : (nI M').toNatClampNeg = M' := nI_clamp (by omega)
      obtain ⟨w, hw⟩ : ∃ w, w = g_up (g_up (g_up z 20 M' (nI s)) 19 0 (nI (M' + 1))) 17 s (nI v) := ⟨_, rfl⟩
      have w5 : w 105 = σ 105 := by rw [hw, g_up_o (by decide), g_up_o (by decide), g_up_o (by decide)]; exact zo _ (by decide) (by decide)
      have gv : ∀ K : gK, g_inv (gCm' G (d + 3)) mX3_giveTag [.ref 1, .int (nI s), .int (nI v)] σ K = K none w := fun K => by
        simp only [EX3_giveTag, BX3_giveTag_8, BX3_giveTag_16, EX6_addLast, BX6_addLast_20, Option.toList_some, Option.toList_none, List.cons_append, List.nil_append, Nat.zero_add, Nat.reduceAdd, Option.some.injEq, Value.int.injEq, exists_eq_left', true_and, and_true, true_or, or_true, false_or, g_10, ↓reduceIte, h.1, h.2, hNow h, hReg h, hGrd h, hBlk h, hTgo h, hWlk h, hPln h, hTap h, hHol h, d1, d3, g1, g3, g4, f4, f5, g_up_d, Nat.reduceEqDiff, nI_1, hw]
      have w19 : w 19 0 = nI (M' + 1) := by simp only [hw, g_up_d, Nat.reduceEqDiff, ↓reduceIte]
      have brs : ∃ p : Int32, (p = -1 ∨ p = nI s) ∧ ∃ p2 : Int32, (p2 = -2 ∨ p2 = nI s) ∧ (∀ d K, g_inv (gCm' G (d + 2)) mX3_tagBearer [.ref 1, .int (nI v)] σ K = K (some (.int p)) σ) ∧ ∀ d K, g_inv (gCm' G (d + 3)) mX10_taggedBy [.ref 104, .int (nI v)] w K = K (some (.int p2)) w := by
        by_cases cs : σ 17 s = nI v
        · obtain ⟨u1, u2⟩ := bear_y h hR hs hl cs (by omega)
          exact ⟨_, Or.inr rfl, _, Or.inr rfl, u1, fun d K => u2 d K w w5⟩
        · obtain ⟨u1, u2⟩ := bear_n h hR (t := v) (by omega) (fun t ht h1 h2 => by
            by_cases e : t = s
            · subst e; exact cs h2
            · exact hn ⟨t, ht, e, h1, h2⟩)
          exact ⟨_, Or.inl rfl, _, Or.inl rfl, u1, fun d K => u2 d K w w5⟩
      obtain ⟨p, hp, p2, hp2, u1, u2⟩ := brs
      have cls : ∀ K : gK, g_inv (gCm' G (d + 4)) mX9_tag [.ref 0, .int x, .int (nI v)] σ K = K (some (.int (nI (M' + 1)))) w := fun K => by
        rcases hp with rfl | rfl
        · simp only [EX9_tag, BX9_tag_4, BX9_tag_20, BX9_tag_37, BX9_tag_54, BX9_tag_63, EX9_isTag, Option.toList_some, Option.toList_none, List.cons_append, List.nil_append, Nat.zero_add, Nat.reduceAdd, Option.some.injEq, Value.int.injEq, exists_eq_left', true_and, and_true, true_or, or_true, false_or, g_10, ↓reduceIte, h.1, h.2, hNow h, hReg h, hGrd h, hBlk h, hTgo h, hWlk h, hPln h, hTap h, hHol h, c1, c3, y1, sm, u1, gv, w19]
        · simp only [EX9_tag, BX9_tag_4, BX9_tag_20, BX9_tag_37, BX9_tag_54, BX9_tag_63, EX9_isTag, Option.toList_some, Option.toList_none, List.cons_append, List.nil_append, Nat.zero_add, Nat.reduceAdd, Option.some.injEq, Value.int.injEq, exists_eq_left', true_and, and_true, true_or, or_true, false_or, g_10, ↓reduceIte, h.1, h.2, hNow h, hReg h, hGrd h, hBlk h, hTgo h, hWlk h, hPln h, hTap h, hHol h, c1, c3, y1, sm, u1, gv, w19]
      obtain ⟨y, hy⟩ : ∃ y, y = g_up (g_up (g_up w 105 (s * 11 + 7) (nI v)) 105 606 (nI (k + 1))) 105 (s * 11 + 8) (nI k) := ⟨_, rfl⟩
      have yo : ∀ i, i ≠ 105 → y i = w i := fun i hi => by rw [hy, g_up_o hi, g_up_o hi, g_up_o hi]
      have yk : ∀ w, w < 11 → y 105 (s * 11 + w) = if w = 8 then nI k else if w = 7 then nI v else σ 105 (s * 11 + w) := fun w hw => by
        have : ¬ s * 11 + w = 606 := by omega
        simp only [hy, g_up_d, ↓reduceIte, Nat.add_left_cancel_iff, w5, this]
      have yi : ∀ i, (i < s * 11 ∨ s * 11 + 11 ≤ i) → i ≠ 606 → y 105 i = σ 105 i := fun i h1 h2 => by
        simp only [hy, g_up_d, ↓reduceIte, h2, w5]
        rw [if_neg (by omega), if_neg (by omega)]
      have yc : y 105 606 = nI (k + 1) := by
        have : ¬ 606 = s * 11 + 8 := by omega
        simp only [hy, g_up_d, ↓reduceIte, this]
      have wo : ∀ i, i ≠ 17 → i ≠ 19 → i ≠ 20 → w i = σ i := fun i h1 h2 h3 => by rw [hw, g_up_o h1, g_up_o h2, g_up_o h3, zo i h2 h3]
      have wt : ∀ t, t ≠ s → w 17 t = σ 17 t := fun t ht => by
        rw [hw, g_up_2 ht, g_up_o (by decide), g_up_o (by decide), zo _ (by decide) (by decide)]
      have ws : w 17 s = nI v := by rw [hw, g_up_3]
      have mi : ∀ k t, k < 22 → gMem y 1 k t = w (1 + k) t := fun k t hk => by rw [gMem_k hk, yo _ (by omega)]
      have mo : ∀ i, i ≠ 16 → i ≠ 18 → i ≠ 19 → gMem y 1 i = gMem σ 1 i := fun i h1 h2 h3 => by
        funext t
        by_cases hi2 : i < 22
        · rw [mi i t hi2, wo _ (by omega) (by omega) (by omega), gMem_k hi2]
        · simp [gMem, hi2]
      have mt : ∀ k t, 9 ≤ k → k ≤ 17 → t ≠ s → gMem y 1 k t = gMem σ 1 k t := fun k t h1 h2 ht => by
        by_cases ek : k = 16
        · subst ek; rw [mi 16 t (by decide)]; exact wt t ht
        · rw [mo k (by omega) (by omega) (by omega)]
      have fin : wRel (B + 1) y := by
        refine wRel_fr hR (by omega) ⟨⟨wReg_c hR.1.1.1 (mo 2 (by decide) (by decide) (by decide)) (mo 3 (by decide) (by decide) (by decide)) (mo 4 (by decide) (by decide) (by decide)) (mo 5 (by decide) (by decide) (by decide)), fun t ht => ?_, wGrd_c hR.1.1.2.2.1 (mo 7 (by decide) (by decide) (by decide)) (mo 10 (by decide) (by decide) (by decide)) (mo 11 (by decide) (by decide) (by decide)) (mo 12 (by decide) (by decide) (by decide)), wRest_c hR.1.1.2.2.2 (by omega) (congrFun (mo 0 (by decide) (by decide) (by decide)) 0) (mo 20 (by decide) (by decide) (by decide)) (mo 21 (by decide) (by decide) (by decide))⟩, wTag_tag (s := s) (M' := M') (v := v) (e := e) hR.1.2.1 hs (by omega) (by omega) ?_ hM' (fun k hk => ?_) ?_ d6 (fun k hk h1 => ?_) (fun t ht => by rw [mo 10 (by decide) (by decide) (by decide)]) (fun t ht h1 => mt 16 t (by decide) (by decide) h1) hl ?_ (by omega) (fun t ht h1 h2 h3 => hn ⟨t, ht, h1, h2, h3⟩) ?_ ?_ (fun t ht h1 => yi _ (by omega) (by omega)), wEq_sl (s := s) hR.1.2.2 hs (fun i hi => mo i (by omega) (by omega) (by omega)) mt (fun i h1 h2 h3 => yi i h1 h3) (fun i hi => ?_) ⟨?_, ?_, ?_, ?_, ?_, ?_, ?_, ?_, ?_⟩⟩ (fun i hi => ?_) ?_ ?_ ?_
        · by_cases e1 : t = s
          · subst e1
            obtain ⟨g1, g2, g3, g4, g5⟩ := rSl hR t ht
            unfold wSlot
            rw [mo 9 (by decide) (by decide) (by decide), mo 10 (by decide) (by decide) (by decide), mo 17 (by decide) (by decide) (by decide), mi 16 t (by decide)]
            refine ⟨gNn_up g1 (by omega), g2, gNn_up g3 (by omega), Or.inr ?_, fun z => wBlk_c (g5 z) (mo 2 (by decide) (by decide) (by decide)) (mo 3 (by decide) (by decide) (by decide)) (mo 4 (by decide) (by decide) (by decide)) (congrFun (mo 11 (by decide) (by decide) (by decide)) t) (congrFun (mo 12 (by decide) (by decide) (by decide)) t) (congrFun (mo 13 (by decide) (by decide) (by decide)) t) (congrFun (mo 14 (by decide) (by decide) (by decide)) t) (congrFun (mo 15 (by decide) (by decide) (by decide)) t)⟩
            show gNn (w 17 t) 499
            rw [ws]; exact gNn_nI hv (by decide)
          · exact wSlot_c (rSl hR t ht) (by omega) (mo 2 (by decide) (by decide) (by decide)) (mo 3 (by decide) (by decide) (by decide)) (mo 4 (by decide) (by decide) (by decide)) (mt _ t (by decide) (by decide) e1) (mt _ t (by decide) (by decide) e1) (mt _ t (by decide) (by decide) e1) (mt _ t (by decide) (by decide) e1) (mt _ t (by decide) (by decide) e1) (mt _ t (by decide) (by decide) e1) (mt _ t (by decide) (by decide) e1) (mt _ t (by decide) (by decide) e1) (mt _ t (by decide) (by decide) e1)
        · rw [mi 18 0 (by decide)]; exact w19
        · obtain ⟨g1, g2, g3⟩ := d5 k hk
          rw [mi 19 k (by decide)]
          refine ⟨by show e k < gN (σ 19 0); omega, ?_, g3⟩
          show w 20 k = σ 20 (e k)
          rw [← g2, hw, g_up_o (by decide), g_up_o (by decide), g_up_2 (by omega)]
        · rw [mi 19 M' (by decide)]
          show w 20 M' = nI s
          rw [hw, g_up_o (by decide), g_up_o (by decide), g_up_3]
        · exact d7 k (by have hk : k < gN (σ 19 0) := hk; omega) h1
        · rw [mi 16 s (by decide)]; exact ws
        · rw [yc, ek, nI_1]
        · rw [yk _ (by decide), ek]; rfl
        · rw [yi _ (by omega) (by omega), mo 1 (by decide) (by decide) (by decide)]; exact r330 hR i hi
        · rw [yk _ (by decide), mo 10 (by decide) (by decide) (by decide)]; exact rs0 hR s hs
        · rw [yk _ (by decide), mo 9 (by decide) (by decide) (by decide)]; exact rs1 hR s hs
        · rw [yk _ (by decide), mo 11 (by decide) (by decide) (by decide)]; exact rs2 hR s hs
        · rw [yk _ (by decide), mo 12 (by decide) (by decide) (by decide)]; exact rs3 hR s hs
        · rw [yk _ (by decide), mo 13 (by decide) (by decide) (by decide)]; exact rs4 hR s hs
        · rw [yk _ (by decide), mo 14 (by decide) (by decide) (by decide)]; exact rs5 hR s hs
        · rw [yk _ (by decide), mo 15 (by decide) (by decide) (by decide)]; exact rs6 hR s hs
        · rw [yk _ (by decide), mi 16 s (by decide)]; exact ws.symm
        · rw [yk _ (by decide), mo 17 (by decide) (by decide) (by decide)]; exact rs9 hR s hs
        · unfold gRl at hi; rw [yo i (by omega), wo i (by omega) (by omega) (by omega)]
        · rw [yo 95 (by decide), wo 95 (by decide) (by decide) (by decide)]
        · rw [yo 104 (by decide), wo 104 (by decide) (by decide) (by decide)]
        · rw [yo 104 (by decide), wo 104 (by decide) (by decide) (by decide)]
      have tmn : ∀ K : gK, g_inv (gCm' G (d + 3)) mX10_tagsMany [.ref 104] y K = K (some (.int (nI (M' + 1)))) y := fun K => by
        rw [tagsMany_eq h fin rfl, gTags_eq fin, yo 19 (by decide), w19]
      have sn : ¬ nI s < 0 := f1
      have q8 : ¬ 606 = s * 11 + 7 := by omega
      have yg : ∀ K : gK, g_inv (gCm' G (d + 3)) mX10_good [.ref 104, .int x] w K = K (some (.int (nI s))) w := fun K => y2 _ _ _ (by rw [w5]; exact rs0 hR _ hs) (by rw [w5]; exact rs1 hR _ hs)
      rw [cls]
      rcases hp2 with rfl | rfl
      · simp +decide only [EX10_tag, BX10_tag_8, BX10_tag_18, BX10_tag_31, BX10_tag_47, BX10_tag_55, BX10_tag_72, BX10_tag_75, BX10_tag_79, EX10_in, sets_7 h hs, sets_8 h hs, Option.toList_some, Option.toList_none, List.cons_append, List.nil_append, Nat.zero_add, Nat.reduceAdd, Option.some.injEq, Value.int.injEq, exists_eq_left', true_and, and_true, true_or, or_true, false_or, g_10, ↓reduceIte, g_up_d, Nat.reduceEqDiff, h.1, h.2, hNow h, hReg h, hGrd h, hBlk h, hTgo h, hWlk h, hPln h, hTap h, hHol h, c1, c2, yg, sn, u2, vp606, cl606, q8, w5, ek, nI_1]
        rw [← hy]
        simp only [tmn, BX10_tag_79, Option.toList_some, Option.toList_none, List.cons_append, List.nil_append, Nat.zero_add, Nat.reduceAdd, Option.some.injEq, Value.int.injEq, exists_eq_left', true_and, and_true, true_or, or_true, false_or, g_10, ↓reduceIte, h.1, h.2, hNow h, hReg h, hGrd h, hBlk h, hTgo h, hWlk h, hPln h, hTap h, hHol h]
        exact fin
      · simp +decide only [EX10_tag, BX10_tag_8, BX10_tag_18, BX10_tag_31, BX10_tag_47, BX10_tag_55, BX10_tag_72, BX10_tag_75, BX10_tag_79, EX10_in, sets_7 h hs, sets_8 h hs, Option.toList_some, Option.toList_none, List.cons_append, List.nil_append, Nat.zero_add, Nat.reduceAdd, Option.some.injEq, Value.int.injEq, exists_eq_left', true_and, and_true, true_or, or_true, false_or, g_10, ↓reduceIte, g_up_d, Nat.reduceEqDiff, h.1, h.2, hNow h, hReg h, hGrd h, hBlk h, hTgo h, hWlk h, hPln h, hTap h, hHol h, c1, c2, yg, sn, u2, vp606, cl606, q8, w5, ek, nI_1]
        rw [← hy]
        simp only [tmn, BX10_tag_79, Option.toList_some, Option.toList_none, List.cons_append, List.nil_append, Nat.zero_add, Nat.reduceAdd, Option.some.injEq, Value.int.injEq, exists_eq_left', true_and, and_true, true_or, or_true, false_or, g_10, ↓reduceIte, h.1, h.2, hNow h, hReg h, hGrd h, hBlk h, hTgo h, hWlk h, hPln h, hTap h, hHol h]
        exact fin
  · obtain ⟨n1, n2⟩ := good_n' h hR (not_exists.mp hg)
    simp +decide only [EX9_tag, BX9_tag_4, BX9_tag_20, BX9_tag_37, BX9_tag_54, BX9_tag_63, EX10_tag, BX10_tag_8, BX10_tag_18, BX10_tag_31, BX10_tag_47, BX10_tag_55, BX10_tag_72, BX10_tag_75, BX10_tag_79, EX10_in, EX9_isTag, Option.toList_some, Option.toList_none, List.cons_append, List.nil_append, Nat.zero_add, Nat.reduceAdd, Option.some.injEq, Value.int.injEq, exists_eq_left', true_and, and_true, true_or, or_true, false_or, g_10, ↓reduceIte, h.1, h.2, hNow h, hReg h, hGrd h, hBlk h, hTgo h, hWlk h, hPln h, hTap h, hHol h, c1, c2, c3, n1, n2]
    exact wRel_up hR (by omega)
end O32
