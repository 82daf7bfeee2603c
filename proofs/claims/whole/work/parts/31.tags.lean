section O31
variable {G : gG} {d B : Nat} {σ : gM} {K : gK}
theorem g_up_id {a i : Nat} {v : Int32} (h : σ a i = v) : g_up σ a i v = σ := by
  funext b j
  unfold g_up
  by_cases e : b = a ∧ j = i
  · rw [if_pos e, e.1, e.2, h]
  · rw [if_neg e]
/-- an order without one slot -/
theorem drop_sp {a M s : Nat} (h6 : isX6 G a) (eM : σ a 0 = nI M) (hM : M ≤ 30) : ∃ (σ' : gM) (M' : Nat) (e : Nat → Nat), (∀ d K, g_inv (gCm' G (d + 1)) mX6_drop [.ref a, .int (nI s)] σ K = K none σ') ∧ (∀ i, i ≠ a → i ≠ a + 1 → σ' i = σ i) ∧ σ' a 0 = nI M' ∧ M' ≤ M ∧ (∀ k, k < M' → e k < M ∧ σ' (a + 1) k = σ (a + 1) (e k) ∧ σ (a + 1) (e k) ≠ nI s) ∧ (∀ k j, k < j → j < M' → e k < e j) ∧ (∀ k, k < M → σ (a + 1) k ≠ nI s → ∃ j, j < M' ∧ e j = k) := by
  have key : ∀ k, k ≤ M → ∃ (z : gM) (L : Nat) (e : Nat → Nat), (∀ d K, gw (gCm' G d) G mX6_drop K 4 [.ref a, .int (nI s), .int 0, .int 0] [] σ = gw (gCm' G d) G mX6_drop K 4 [.ref a, .int (nI s), .int (nI L), .int (nI k)] [] z) ∧ (∀ i, i ≠ a + 1 → z i = σ i) ∧ L ≤ k ∧ (∀ j, k ≤ j → z (a + 1) j = σ (a + 1) j) ∧ (∀ j, j < L → e j < k ∧ z (a + 1) j = σ (a + 1) (e j) ∧ σ (a + 1) (e j) ≠ nI s) ∧ (∀ i j, i < j → j < L → e i < e j) ∧ (∀ i, i < k → σ (a + 1) i ≠ nI s → ∃ j, j < L ∧ e j = i) := by
    intro k
    induction k with
    | zero => intro _; exact ⟨σ, 0, id, fun _ _ => rfl, fun _ _ => rfl, Nat.le_refl _, fun _ _ => rfl, fun j h => by omega, fun i j h1 h2 => by omega, fun i h => by omega⟩
    | succ k ih =>
      intro hk
      obtain ⟨z, L, e, i1, i2, i3, i4, i5, i6, i7⟩ := ih (by omega)
      have z0 : z a 0 = nI M := by rw [i2 a (by omega)]; exact eM
      have g1 : nI k < nI M := nI_lt (by omega) (by omega)
      have g2 : nI k < 30 := nI_lt (b := 30) (by omega) (by decide)
      have g3 : vp_in (nI k) 30 := vp_in_nI (by omega) (by decide)
      have g4 : (nI k).toNatClampNeg = k := nI_clamp (by omega)
      have g5 : vp_in (nI L) 30 := vp_in_nI (by omega) (by decide)
      have g6 : (nI L).toNatClampNeg = L := nI_clamp (by omega)
      have zk : z (a + 1) k = σ (a + 1) k := i4 k (Nat.le_refl _)
      by_cases c : σ (a + 1) k = nI s
      · refine ⟨z, L, e, fun d K => ?_, i2, by omega, fun j hj => i4 j (by omega), fun j hj => ⟨by have := (i5 j hj).1; omega, (i5 j hj).2⟩, i6, fun i hi h1 => ?_⟩
        · rw [i1 d K, BX6_drop_4 h6]
          simp only [z0, g1, g2, g3, g4, zk, c, Option.toList_some, Option.toList_none, List.cons_append, List.nil_append, Nat.zero_add, Nat.reduceAdd, Option.some.injEq, Value.int.injEq, exists_eq_left', true_and, and_true, true_or, or_true, false_or, g_10, ↓reduceIte, nI_1]
        · by_cases e1 : i = k
          · subst e1; exact absurd c h1
          · exact i7 i (by omega) h1
      · refine ⟨g_up z (a + 1) L (σ (a + 1) k), L + 1, fun j => if j = L then k else e j, fun d K => ?_, fun i hi => by rw [g_up_o hi]; exact i2 i hi, by omega, fun j hj => ?_, fun j hj => ?_, fun i j hij hj => ?_, fun i hi h1 => ?_⟩
        · rw [i1 d K, BX6_drop_4 h6]
          simp only [z0, g1, g2, g3, g4, g5, g6, zk, c, Option.toList_some, Option.toList_none, List.cons_append, List.nil_append, Nat.zero_add, Nat.reduceAdd, Option.some.injEq, Value.int.injEq, exists_eq_left', true_and, and_true, true_or, or_true, false_or, g_10, ↓reduceIte, nI_1]
        · rw [g_up_2 (by omega)]; exact i4 j (by omega)
        · by_cases e1 : j = L
          · subst e1
            simp only [↓reduceIte]
            exact ⟨by omega, g_up_3, c⟩
          · simp only [e1, ↓reduceIte]
            rw [g_up_2 e1]
            have := i5 j (by omega)
            exact ⟨by omega, this.2⟩
        · by_cases e1 : j = L
          · subst e1
            have e2 : ¬ i = j := by omega
            simp only [↓reduceIte, e2]
            exact (i5 i hij).1
          · have e2 : ¬ i = L := by omega
            simp only [e1, e2, ↓reduceIte]
            exact i6 i j hij (by omega)
        · by_cases e1 : i = k
          · exact ⟨L, by omega, by simp [e1]⟩
          · obtain ⟨j, hj, e2⟩ := i7 i (by omega) h1
            have e3 : ¬ j = L := by omega
            exact ⟨j, by omega, by simp only [e3, ↓reduceIte]; exact e2⟩
  obtain ⟨z, L, e, i1, i2, i3, i4, i5, i6, i7⟩ := key M (Nat.le_refl _)
  have z0 : z a 0 = nI M := by rw [i2 a (by omega)]; exact eM
  refine ⟨g_up z a 0 (nI L), L, e, fun d K => ?_, fun i h1 h2 => by rw [g_up_o h1]; exact i2 i h2, g_up_3, i3, fun k hk => by rw [g_up_1 (by omega)]; exact i5 k hk, i6, i7⟩
  rw [EX6_drop h6, i1 d K, BX6_drop_4 h6]
  simp only [z0, show ¬ nI M < nI M from nI_nlt (Nat.le_refl _) (by omega), Option.toList_some, Option.toList_none, List.cons_append, List.nil_append, Nat.zero_add, Nat.reduceAdd, Option.some.injEq, Value.int.injEq, exists_eq_left', true_and, and_true, true_or, or_true, false_or, g_10, ↓reduceIte]
theorem ord_lt {t : Nat → Nat} {N s : Nat} (hs : s < 30) (h1 : ∀ k, k < N → t k < 30) (h2 : ∀ k j, k < j → j < N → t k ≠ t j) (h3 : ∀ k, k < N → t k ≠ s) : N < 30 := by
  have := gCnt_list (t := t) (L := 30) (N := N) (c := fun x => @decide (∃ k, k < N ∧ t k = x) (Classical.propDecidable _)) h1 h2 (fun x hx => by simp)
  have h4 := gCnt_rm (c := fun x => @decide (∃ k, k < N ∧ t k = x) (Classical.propDecidable _) || x == s) (a := s) (L := 30) hs (by simp)
  have h5 : gCnt (fun x => (@decide (∃ k, k < N ∧ t k = x) (Classical.propDecidable _) || x == s) && !(x == s)) 30 = gCnt (fun x => @decide (∃ k, k < N ∧ t k = x) (Classical.propDecidable _)) 30 := gCnt_congr fun x hx => by
    by_cases e : x = s
    · subst e
      have : ¬ ∃ k, k < N ∧ t k = x := fun ⟨k, hk, e⟩ => h3 k hk e
      simp [this]
    · have e' : (x == s) = false := by simpa using e
      simp only [e', Bool.or_false, Bool.not_false, Bool.and_true]
  have h6 := gCnt_le (c := fun x => @decide (∃ k, k < N ∧ t k = x) (Classical.propDecidable _) || x == s) 30
  omega
/-- tags when one slot has lost its own -/
theorem wTag_rm {B' : Nat} {m m' : gM} {g g' : Nat → Int32} {s M' : Nat} {e : Nat → Nat} (hT : wTag B m g) (hs30 : s < 30) (hB : B ≤ B') (h18 : m' 18 0 = nI M') (hM : M' ≤ gN (m 18 0)) (h19 : ∀ k, k < M' → e k < gN (m 18 0) ∧ m' 19 k = m 19 (e k) ∧ m 19 (e k) ≠ nI s) (hmo : ∀ k j, k < j → j < M' → e k < e j) (hon : ∀ k, k < gN (m 18 0) → m 19 k ≠ nI s → ∃ j, j < M' ∧ e j = k)
    (h10 : ∀ t, t < 30 → t ≠ s → m' 10 t = m 10 t) (h16 : ∀ t, t < 30 → t ≠ s → m' 16 t = m 16 t) (hs : m' 10 s ≠ 1) (hc : gNn (g' 606) B') (hc2 : gN (g 606) ≤ gN (g' 606)) (hg : ∀ t, t < 30 → t ≠ s → g' (t * 11 + 8) = g (t * 11 + 8)) : wTag B' m' g' := by
  obtain ⟨t1, t2, t3, t4, t5⟩ := hT
  have n30 := t1.2
  have eM : gN (m' 18 0) = M' := by rw [h18, gN_nI (by omega)]
  have ne : ∀ k, k < M' → gN (m 19 (e k)) < 30 ∧ gN (m 19 (e k)) ≠ s := fun k hk => by
    obtain ⟨u1, u2, u3⟩ := h19 k hk
    obtain ⟨v1, -⟩ := t3 _ u1
    have := v1.2
    refine ⟨by omega, fun z => u3 ?_⟩
    rw [← z]; exact v1.1
  unfold wTag
  rw [eM]
  refine ⟨by rw [h18]; exact gNn_nI (by omega) (by decide), hc, fun k hk => ?_, fun t ht z1 z2 => ?_, fun k j hkj hj => ?_⟩
  · obtain ⟨u1, u2, u3⟩ := h19 k hk
    obtain ⟨v1, v2, v3, v4, v5⟩ := t3 _ u1
    obtain ⟨w1, w2⟩ := ne k hk
    rw [u2, h10 _ w1 w2, h16 _ w1 w2, hg _ w1 w2]
    exact ⟨v1, v2, v3, gNn_up v4 hB, by omega⟩
  · have hts : t ≠ s := fun z => hs (by rw [← z]; exact z1)
    rw [h10 t ht hts] at z1
    rw [h16 t ht hts] at z2
    obtain ⟨k, hk, ek⟩ := t4 t ht z1 z2
    obtain ⟨j, hj, ej⟩ := hon k hk (fun z => hts (nI_inj (by omega) (by omega) (ek.symm.trans z)))
    exact ⟨j, hj, by rw [(h19 j hj).2.1, ej, ek]⟩
  · obtain ⟨u1, u2, u3⟩ := h19 k (by omega)
    obtain ⟨u1', u2', u3'⟩ := h19 j hj
    obtain ⟨w1, w2⟩ := ne k (by omega)
    obtain ⟨w1', w2'⟩ := ne j hj
    rw [u2, u2', h16 _ w1 w2, h16 _ w1' w2', hg _ w1 w2, hg _ w1' w2']
    exact t5 _ _ (hmo k j hkj hj) u1'
theorem wGrd_l {m m' : gM} (h : wGrd m) (h7 : m' 7 = m 7) (h10 : ∀ t, t < 30 → (m' 10 t = 0 ↔ m 10 t = 0)) (h11 : m' 11 = m 11) (h12 : m' 12 = m 12) : wGrd m' := by
  intro c hc
  obtain ⟨a1, a2⟩ := h c hc
  rw [h7, h11, h12]
  refine ⟨a1.imp id fun ⟨s, hs, z1, z2⟩ => ⟨s, hs, fun z => z1 ((h10 s hs).mp z), z2⟩, fun s hs z => a2 s hs fun y => z ((h10 s hs).mpr y)⟩
theorem op_free (h : gOK G) (hB : B < 1000000) (hR : wRel B σ) (x : Int32) : gOp G (d + 4) B mX9_free mX10_free [.int x] σ := by
  unfold gOp
  rcases Classical.em (∃ s, gGood σ x s) with ⟨s, hg⟩ | hg
  · obtain ⟨hs, hl, -⟩ := id hg
    obtain ⟨y1, y2⟩ := good_y (G := G) (B := B) h hg
    obtain ⟨f1, f2, f3, f4, f5⟩ := g_ix (n := 29) hs (by decide)
    have sm := g_m1 (j := s) (by omega)
    obtain ⟨l, q, r, o, p, b1, b2, b3, b4, b5, b6, b7, b8, b9, b10, b11, b12, -⟩ := rBlk hR hs (by rw [hl]; decide)
    by_cases p0 : p = 0
    · subst p0
      obtain ⟨M, hM, eM⟩ : ∃ M, M = gN (σ 19 0) ∧ σ 19 0 = nI M := ⟨_, rfl, hR.1.2.1.1.1⟩
      have M30 : M ≤ 30 := by rw [hM]; exact hR.1.2.1.1.2
      obtain ⟨k, hk, ek⟩ : ∃ k, k ≤ B ∧ σ 105 606 = nI k := ⟨_, hR.1.2.1.2.1.2, hR.1.2.1.2.1.1⟩
      obtain ⟨z, M', e, d1, d2, d3, d4, d5, d6, d7⟩ := drop_sp (G := G) (σ := g_up (g_up (g_up σ 11 s 2) 18 s (σ 1 0)) 17 s (-1)) (s := s) (M := M) (hTgo h) (by simp only [g_up_d, Nat.reduceEqDiff, ↓reduceIte]; exact eM) M30
      have z20 : ∀ k, (g_up (g_up (g_up σ 11 s 2) 18 s (σ 1 0)) 17 s (-1)) 20 k = σ 20 k := fun k => by simp only [g_up_d, Nat.reduceEqDiff, ↓reduceIte]
      have zo : ∀ i, i ≠ 19 → i ≠ 20 → i ≠ 11 → i ≠ 18 → i ≠ 17 → z i = σ i := fun i h1 h2 h3 h4 h5 => by rw [d2 i h1 h2, g_up_o h5, g_up_o h4, g_up_o h3]
      have zs : z 11 s = 2 ∧ z 18 s = σ 1 0 ∧ z 17 s = -1 := by
        rw [d2 11 (by decide) (by decide), d2 18 (by decide) (by decide), d2 17 (by decide) (by decide)]
        simp only [g_up_d, Nat.reduceEqDiff, ↓reduceIte]
        exact ⟨trivial, trivial, trivial⟩
      have zt : ∀ t, t ≠ s → z 11 t = σ 11 t ∧ z 18 t = σ 18 t ∧ z 17 t = σ 17 t := fun t ht => by
        rw [d2 11 (by decide) (by decide), d2 18 (by decide) (by decide), d2 17 (by decide) (by decide)]
        simp only [g_up_d, Nat.reduceEqDiff, ↓reduceIte, ht]
        exact ⟨trivial, trivial, trivial⟩
      have z5 : z 105 = σ 105 := zo 105 (by decide) (by decide) (by decide) (by decide) (by decide)
      have z1 : z 1 = σ 1 := zo 1 (by decide) (by decide) (by decide) (by decide) (by decide)
      have q6 : ¬ s * 11 + 6 = 606 := by omega
      have q7 : ¬ 605 = s * 11 + 0 := by omega
      have q8 : ¬ 605 = s * 11 + 7 := by omega
      have q9 : ¬ 605 = s * 11 + 9 := by omega
      have q10 : ¬ 605 = s * 11 + 10 := by omega
      have q11 : ¬ 606 = s * 11 + 0 := by omega
      have q12 : ¬ 606 = s * 11 + 7 := by omega
      have q13 : ¬ 606 = s * 11 + 9 := by omega
      simp +decide only [EX9_free, BX9_free_11, BX9_free_46, EX10_free, BX10_free_5, BX10_free_20, BX10_free_33, BX10_free_41, BX10_free_56, BX10_free_73, BX10_free_76, EX3_doom, BX3_doom_10, BX3_doom_23, BX3_doom_33, BX3_doom_41, at_6 h hs, rs6 hR _ hs, sets_0 h hs, sets_7 h hs, sets_9 h hs, sets_10 h hs, Option.toList_some, Option.toList_none, List.cons_append, List.nil_append, Nat.zero_add, Nat.reduceAdd, Option.some.injEq, Value.int.injEq, exists_eq_left', true_and, and_true, true_or, or_true, false_or, g_10, ↓reduceIte, g_up_d, Nat.reduceEqDiff, h.1, h.2, hNow h, hReg h, hGrd h, hBlk h, hTgo h, hWlk h, hPln h, hTap h, hHol h, y1, y2, f4, f5, sm, f1, b5, d1, z5, z1, rs0 hR _ hs, rs1 hR _ hs, vp605, vp606, cl605, cl606, q6, q7, q8, q9, q10, q11, q12, q13, r605 hR]
      obtain ⟨y, hy⟩ : ∃ y, y = g_up (g_up (g_up (g_up (g_up z 105 (s * 11 + 0) 2) 105 (s * 11 + 7) (-1)) 105 (s * 11 + 9) (σ 1 0)) 105 606 (σ 105 606 + 1)) 105 (s * 11 + 10) (σ 105 606) := ⟨_, rfl⟩
      rw [← hy]
      have yo : ∀ i, i ≠ 105 → y i = z i := fun i hi => by rw [hy, g_up_o hi, g_up_o hi, g_up_o hi, g_up_o hi, g_up_o hi]
      have yk : ∀ w, w < 11 → y 105 (s * 11 + w) = if w = 10 then σ 105 606 else if w = 9 then σ 1 0 else if w = 7 then -1 else if w = 0 then 2 else σ 105 (s * 11 + w) := fun w hw => by
        have : ¬ s * 11 + w = 606 := by omega
        simp only [hy, g_up_d, ↓reduceIte, Nat.add_left_cancel_iff, z5, this]
      have yi : ∀ i, (i < s * 11 ∨ s * 11 + 11 ≤ i) → i ≠ 606 → y 105 i = σ 105 i := fun i h1 h2 => by
        simp only [hy, g_up_d, ↓reduceIte, h2, z5]
        rw [if_neg (by omega), if_neg (by omega), if_neg (by omega), if_neg (by omega)]
      have yc : y 105 606 = nI (k + 1) := by
        have : ¬ 606 = s * 11 + 10 := by omega
        simp only [hy, g_up_d, ↓reduceIte, this, ek, nI_1]
      have mi : ∀ k t, k < 22 → gMem y 1 k t = z (1 + k) t := fun k t hk => by rw [gMem_k hk, yo _ (by omega)]
      have mo : ∀ i, i ≠ 10 → i ≠ 16 → i ≠ 17 → i ≠ 18 → i ≠ 19 → gMem y 1 i = gMem σ 1 i := fun i h1 h2 h3 h4 h5 => by
        funext t
        by_cases hi2 : i < 22
        · rw [mi i t hi2, zo _ (by omega) (by omega) (by omega) (by omega) (by omega), gMem_k hi2]
        · simp [gMem, hi2]
      have mt : ∀ k t, 9 ≤ k → k ≤ 17 → t ≠ s → gMem y 1 k t = gMem σ 1 k t := fun k t h1 h2 ht => by
        rw [mi k t (by omega), gMem_k (by omega)]
        rcases (by omega : k = 10 ∨ k = 16 ∨ k = 17 ∨ (k ≠ 10 ∧ k ≠ 16 ∧ k ≠ 17)) with rfl | rfl | rfl | ⟨g1, g2, g3⟩
        · exact (zt t ht).1
        · exact (zt t ht).2.2
        · exact (zt t ht).2.1
        · rw [zo _ (by omega) (by omega) (by omega) (by omega) (by omega)]
      refine wRel_fr hR (by omega) ⟨⟨wReg_c hR.1.1.1 (mo 2 (by decide) (by decide) (by decide) (by decide) (by decide)) (mo 3 (by decide) (by decide) (by decide) (by decide) (by decide)) (mo 4 (by decide) (by decide) (by decide) (by decide) (by decide)) (mo 5 (by decide) (by decide) (by decide) (by decide) (by decide)), fun t ht => ?_, wGrd_l hR.1.1.2.2.1 (mo 7 (by decide) (by decide) (by decide) (by decide) (by decide)) (fun t ht => ?_) (mo 11 (by decide) (by decide) (by decide) (by decide) (by decide)) (mo 12 (by decide) (by decide) (by decide) (by decide) (by decide)), wRest_c hR.1.1.2.2.2 (by omega) (congrFun (mo 0 (by decide) (by decide) (by decide) (by decide) (by decide)) 0) (mo 20 (by decide) (by decide) (by decide) (by decide) (by decide)) (mo 21 (by decide) (by decide) (by decide) (by decide) (by decide))⟩, wTag_rm (s := s) (M' := M') (e := e) hR.1.2.1 hs (by omega) ?_ ?_ (fun k hk => ?_) d6 (fun k hk h1 => ?_) (fun t ht h1 => mt 10 t (by decide) (by decide) h1) (fun t ht h1 => mt 16 t (by decide) (by decide) h1) ?_ ?_ ?_ (fun t ht h1 => yi _ (by omega) (by omega)), wEq_sl (s := s) hR.1.2.2 hs (fun i hi => mo i (by omega) (by omega) (by omega) (by omega) (by omega)) mt (fun i h1 h2 h3 => yi i h1 h3) (fun i hi => ?_) ⟨?_, ?_, ?_, ?_, ?_, ?_, ?_, ?_, ?_⟩⟩ (fun i hi => ?_) ?_ ?_ ?_
      · by_cases e1 : t = s
        · subst e1
          obtain ⟨g1, g2, g3, g4, g5⟩ := rSl hR t ht
          refine ⟨?_, ?_, ?_, ?_, fun _ => wBlk_c (g5 (by show σ 11 t ≠ 0; rw [hl]; decide)) (mo 2 (by decide) (by decide) (by decide) (by decide) (by decide)) (mo 3 (by decide) (by decide) (by decide) (by decide) (by decide)) (mo 4 (by decide) (by decide) (by decide) (by decide) (by decide)) (congrFun (mo 11 (by decide) (by decide) (by decide) (by decide) (by decide)) t) (congrFun (mo 12 (by decide) (by decide) (by decide) (by decide) (by decide)) t) (congrFun (mo 13 (by decide) (by decide) (by decide) (by decide) (by decide)) t) (congrFun (mo 14 (by decide) (by decide) (by decide) (by decide) (by decide)) t) (congrFun (mo 15 (by decide) (by decide) (by decide) (by decide) (by decide)) t)⟩
          · rw [mo 9 (by decide) (by decide) (by decide) (by decide) (by decide)]; exact gNn_up g1 (by omega)
          · rw [mi 10 t (by decide)]; exact Or.inr (Or.inr zs.1)
          · rw [mi 17 t (by decide)]
            show gNn (z 18 t) (B + 1)
            rw [zs.2.1]; exact gNn_up (rEp hR) (by omega)
          · rw [mi 16 t (by decide)]; exact Or.inl zs.2.2
        · exact wSlot_c (rSl hR t ht) (by omega) (mo 2 (by decide) (by decide) (by decide) (by decide) (by decide)) (mo 3 (by decide) (by decide) (by decide) (by decide) (by decide)) (mo 4 (by decide) (by decide) (by decide) (by decide) (by decide)) (mt _ t (by decide) (by decide) e1) (mt _ t (by decide) (by decide) e1) (mt _ t (by decide) (by decide) e1) (mt _ t (by decide) (by decide) e1) (mt _ t (by decide) (by decide) e1) (mt _ t (by decide) (by decide) e1) (mt _ t (by decide) (by decide) e1) (mt _ t (by decide) (by decide) e1) (mt _ t (by decide) (by decide) e1)
      · by_cases e1 : t = s
        · subst e1
          rw [mi 10 t (by decide)]
          show z 11 t = 0 ↔ σ 11 t = 0
          rw [zs.1, hl]; decide
        · rw [mt 10 t (by decide) (by decide) e1]
      · rw [mi 18 0 (by decide)]; exact d3
      · show M' ≤ gN (σ 19 0); omega
      · obtain ⟨g1, g2, g3⟩ := d5 k hk
        rw [z20] at g2 g3
        rw [mi 19 k (by decide)]
        exact ⟨by show e k < gN (σ 19 0); omega, g2, g3⟩
      · exact d7 k (by have hk : k < gN (σ 19 0) := hk; omega) (by rw [z20]; exact h1)
      · rw [mi 10 s (by decide)]; show z 11 s ≠ 1; rw [zs.1]; decide
      · rw [yc]; exact gNn_nI (by omega) (by omega)
      · rw [yc, ek, gN_nI (by omega), gN_nI (by omega)]; omega
      · rw [yi _ (by omega) (by omega), mo 1 (by decide) (by decide) (by decide) (by decide) (by decide)]; exact r330 hR i hi
      · rw [yk _ (by decide), mi 10 s (by decide)]; exact zs.1.symm
      · rw [yk _ (by decide), mo 9 (by decide) (by decide) (by decide) (by decide) (by decide)]; exact rs1 hR s hs
      · rw [yk _ (by decide), mo 11 (by decide) (by decide) (by decide) (by decide) (by decide)]; exact rs2 hR s hs
      · rw [yk _ (by decide), mo 12 (by decide) (by decide) (by decide) (by decide) (by decide)]; exact rs3 hR s hs
      · rw [yk _ (by decide), mo 13 (by decide) (by decide) (by decide) (by decide) (by decide)]; exact rs4 hR s hs
      · rw [yk _ (by decide), mo 14 (by decide) (by decide) (by decide) (by decide) (by decide)]; exact rs5 hR s hs
      · rw [yk _ (by decide), mo 15 (by decide) (by decide) (by decide) (by decide) (by decide)]; exact rs6 hR s hs
      · rw [yk _ (by decide), mi 16 s (by decide)]; exact zs.2.2.symm
      · rw [yk _ (by decide), mi 17 s (by decide)]; exact zs.2.1.symm
      · unfold gRl at hi; rw [yo i (by omega), zo i (by omega) (by omega) (by omega) (by omega) (by omega)]
      · rw [yo 95 (by decide), zo 95 (by decide) (by decide) (by decide) (by decide) (by decide)]
      · rw [yo 104 (by decide), zo 104 (by decide) (by decide) (by decide) (by decide) (by decide)]
      · rw [yo 104 (by decide), zo 104 (by decide) (by decide) (by decide) (by decide) (by decide)]
    · have p1 : 0 < nI p := nI_lt (a := 0) (by omega) (by omega)
      simp +decide only [EX9_free, BX9_free_11, BX9_free_46, EX10_free, BX10_free_5, BX10_free_20, BX10_free_33, BX10_free_41, BX10_free_56, BX10_free_73, BX10_free_76, at_6 h hs, rs6 hR _ hs, Option.toList_some, Option.toList_none, List.cons_append, List.nil_append, Nat.zero_add, Nat.reduceAdd, Option.some.injEq, Value.int.injEq, exists_eq_left', true_and, and_true, true_or, or_true, false_or, g_10, ↓reduceIte, h.1, h.2, hNow h, hReg h, hGrd h, hBlk h, hTgo h, hWlk h, hPln h, hTap h, hHol h, y1, y2, rs0 hR _ hs, rs1 hR _ hs, f1, f4, f5, sm, b5, p1]
      exact wRel_up hR (by omega)
  · obtain ⟨n1, n2⟩ := good_n' h hR (not_exists.mp hg)
    simp +decide only [EX9_free, BX9_free_11, BX9_free_46, EX10_free, BX10_free_5, BX10_free_20, BX10_free_33, BX10_free_41, BX10_free_56, BX10_free_73, BX10_free_76, Option.toList_some, Option.toList_none, List.cons_append, List.nil_append, Nat.zero_add, Nat.reduceAdd, Option.some.injEq, Value.int.injEq, exists_eq_left', true_and, and_true, true_or, or_true, false_or, g_10, ↓reduceIte, h.1, h.2, hNow h, hReg h, hGrd h, hBlk h, hTgo h, hWlk h, hPln h, hTap h, hHol h, n1, n2]
    exact wRel_up hR (by omega)
end O31
