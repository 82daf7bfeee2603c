section O50
variable {G : gG} {d B : Nat} {σ : gM} {K : gK}
def mPl (m : gM) (r n : Nat) : Option Nat := gPl (m 7) (gN (m 3 r)) (gN (m 4 r)) (gIs (m 5 r) 0) n
def mLe (r n : Nat) : Nat → gM → Nat → Option Nat
  | 0, _, _ => none
  | f + 1, m, u => if (mPl m r n).isSome = true then some u else match mNx m r with
    | none => none
    | some s => mLe r n f (mMv m r s) (u + gN (m 12 s))
theorem mLe_y {r n f u : Nat} {m : gM} (h : (mPl m r n).isSome = true) : mLe r n (f + 1) m u = some u := by
  unfold mLe; rw [if_pos h]
theorem mLe_n {r n f u : Nat} {m : gM} (h : (mPl m r n).isSome = false) (h2 : mNx m r = none) : mLe r n (f + 1) m u = none := by
  unfold mLe; rw [if_neg (by rw [h]; decide), h2]
theorem mLe_s {r n f u s : Nat} {m : gM} (h : (mPl m r n).isSome = false) (h2 : mNx m r = some s) : mLe r n (f + 1) m u = mLe r n f (mMv m r s) (u + gN (m 12 s)) := by
  have : mLe r n (f + 1) m u = if (mPl m r n).isSome = true then some u else match mNx m r with
    | none => none
    | some s => mLe r n f (mMv m r s) (u + gN (m 12 s)) := rfl
  rw [this, if_neg (by rw [h]; decide), h2]
theorem mLe_go {r n : Nat} : ∀ (f : Nat) (m : gM) (u : Nat) (g : Nat → Int32), wMem B m g → r < gN (m 2 0) →
    (∀ v, mLe r n (f + 1) m u = some v → u ≤ v ∧ v ≤ u + 40 * f ∧ (mPl (mGo r v f m u).1 r n).isSome = true ∧ (mGo r v f m u).2 = v ∧ ∀ b, u ≤ b → b < v → (mPl (mGo r b f m u).1 r n).isSome = false) ∧ (mLe r n (f + 1) m u = none → ∀ b, (mPl (mGo r b f m u).1 r n).isSome = false) := by
  intro f
  induction f with
  | zero =>
    intro m u g hM hr
    cases hp : (mPl m r n).isSome with
    | true =>
      rw [mLe_y hp]
      refine ⟨fun v e => ?_, fun e => by cases e⟩
      cases e
      exact ⟨Nat.le_refl _, Nat.le_refl _, hp, rfl, fun b h1 h2 => by omega⟩
    | false =>
      have : mLe r n 1 m u = none := by
        cases hn : mNx m r with
        | none => exact mLe_n hp hn
        | some s => rw [mLe_s hp hn]; rfl
      rw [this]
      exact ⟨fun v e => (by cases e), fun _ b => hp⟩
  | succ f ih =>
    intro m u g hM hr
    cases hn : mNx m r with
    | none =>
      cases hp : (mPl m r n).isSome with
      | true =>
        rw [mLe_y hp]
        refine ⟨fun v e => ?_, fun e => by cases e⟩
        cases e
        rw [mGo_none hn]
        exact ⟨Nat.le_refl _, by omega, hp, rfl, fun b h1 h2 => by omega⟩
      | false =>
        rw [mLe_n hp hn]
        exact ⟨fun v e => (by cases e), fun _ b => by rw [mGo_none hn]; exact hp⟩
    | some s =>
      have hN := mNx_s hM hr hn
      obtain ⟨L, Q, a1, a2, a3, a4, a5, -⟩ := mReg hM hr
      obtain ⟨l, q, b1, b2, b3, b4, b5, b6, b7, b8, b9, b10, b11, b12⟩ := mBlk hM a5 hN
      cases hp : (mPl m r n).isSome with
      | true =>
        rw [mLe_y hp]
        refine ⟨fun v e => ?_, fun e => by cases e⟩
        cases e
        rw [mGo_some hn, if_pos (by omega)]
        exact ⟨Nat.le_refl _, by omega, hp, rfl, fun b h1 h2 => by omega⟩
      | false =>
        obtain ⟨g', hg'⟩ := mv_ex hM hr hN
        obtain ⟨i1, i2⟩ := ih (mMv m r s) (u + gN (m 12 s)) g' hg' (by rw [mMv_o (by decide) (by decide) (by decide)]; exact hr)
        rw [mLe_s hp hn]
        refine ⟨fun v e => ?_, fun e b => ?_⟩
        · obtain ⟨j1, j2, j3, j4, j5⟩ := i1 v e
          rw [mGo_some hn, if_neg (by omega)]
          refine ⟨by omega, by omega, j3, j4, fun b h1 h2 => ?_⟩
          rw [mGo_some hn]
          by_cases c : b < u + gN (m 12 s)
          · rw [if_pos c]; exact hp
          · rw [if_neg c]; exact j5 b (by omega) h2
        · rw [mGo_some hn]
          by_cases c : b < u + gN (m 12 s)
          · rw [if_pos c]; exact hp
          · rw [if_neg c]; exact i2 e b
theorem placeB_eq {x : gM} {b : Nat} {g : Nat → Int32} (h3 : isX3 G b) (hM : wMem B (gMem x b) g) {r n : Nat} (hr : r < gN (gMem x b 2 0)) (hn : 1 ≤ n) (hn2 : n ≤ 200) : g_inv (gCm' G (d + 3)) mX3_placeFor [.ref b, .int (nI r), .int (nI n)] x K = K (some (.int (gAns (mPl (gMem x b) r n) (-1)))) x := by
  obtain ⟨L, Q, a1, a2, a3, a4, a5, a6, a7, a8, a9⟩ := mReg hM hr
  have w : x (b + 5) r = 0 ∨ x (b + 5) r = 1 := by
    rw [gMem_k (by decide)] at a9
    rcases a9 with ⟨z, -⟩ | ⟨z, -⟩
    · exact Or.inl z
    · exact Or.inr z
  have key : ∀ K : gK, g_inv (gCm' G (d + 2)) mX1_placeIn [.ref (b + 6), .ref (b + 2), .int (nI r), .int (nI n)] x K = K (some (.int (gAns (gPl (x (b + 6 + 1)) L Q (gIs (x (b + 2 + 3) r) 0) n) (-1)))) x := fun K => placeIn_eq (iX3_3 h3) (iX3_2 h3) a5 (by rw [← a1, gMem_k (by decide)]) (by rw [← a2, gMem_k (by decide)]) w (by omega) (by omega) hn hn2
  have e7 : gMem x b 7 = x (b + 7) := by funext j; rw [gMem_k (by decide)]
  simp only [EX3_placeFor, BX3_placeFor_13, h3, Option.toList_some, Option.toList_none, List.cons_append, List.nil_append, Nat.zero_add, Nat.reduceAdd, Option.some.injEq, Value.int.injEq, exists_eq_left', true_and, and_true, true_or, or_true, false_or, g_10, ↓reduceIte, key]
  unfold mPl
  rw [a3, a4, e7, gMem_k (by decide)]
theorem leW_eq {b r n : Nat} (h : gOK G) (h3 : isX3 G b) (hn1 : 1 ≤ n) (hn2 : n ≤ 40) : ∀ (f i u : Nat) (x : gM) (g : Nat → Int32) (v : Value), i + f = 31 → wMem B (gMem x b) g → r < gN (gMem x b 2 0) → ∃ x' : gM, (∀ (d : Nat) (K : gK), gw (gCm' G (d + 3)) G mX3_leastBudget K 5 [.ref b, .int (nI r), .int (nI n), .int (nI u), .int (nI i), v] [] x = K (some (.int (gAns (mLe r n f (gMem x b) u) (-1)))) x') ∧ ∀ k, k ≠ b + 1 → k ≠ b + 7 → k ≠ b + 11 → x' k = x k := by
  intro f
  induction f with
  | zero =>
    intro i u x g v hi hM hr
    refine ⟨x, fun d K => ?_, fun _ _ _ _ => rfl⟩
    obtain rfl : i = 31 := by omega
    rw [BX3_leastBudget_5 h3]
    simp only [show 30 < nI 31 by decide, Option.toList_some, Option.toList_none, List.cons_append, List.nil_append, Nat.zero_add, Nat.reduceAdd, Option.some.injEq, Value.int.injEq, exists_eq_left', true_and, and_true, true_or, or_true, false_or, g_10, ↓reduceIte]
    rfl
  | succ f ih =>
    intro i u x g v hi hM hr
    have g0 : ¬ 30 < nI i := nI_nlt (b := i) (a := 30) (by omega) (by omega)
    cases hp : mPl (gMem x b) r n with
    | some c =>
      obtain ⟨L, Q, a1, a2, a3, a4, a5, a6, a7, a8, a9⟩ := mReg hM hr
      have hp' := hp
      unfold mPl at hp'
      rw [a3, a4] at hp'
      obtain ⟨v1, v2, -⟩ := gPl_some hn1 hp'
      have cm := g_m1 (j := c) (by omega)
      have hl : mLe r n (f + 1) (gMem x b) u = some u := mLe_y (by rw [hp]; rfl)
      refine ⟨x, fun d K => ?_, fun _ _ _ _ => rfl⟩
      rw [BX3_leastBudget_5 h3, hl]
      simp only [g0, placeB_eq h3 hM hr hn1 (show n ≤ 200 by omega), hp, gAns, cm, BX3_leastBudget_18 h3, Option.toList_some, Option.toList_none, List.cons_append, List.nil_append, Nat.zero_add, Nat.reduceAdd, Option.some.injEq, Value.int.injEq, exists_eq_left', true_and, and_true, true_or, or_true, false_or, g_10, ↓reduceIte]
    | none =>
      have hp1 : (mPl (gMem x b) r n).isSome = false := by rw [hp]; rfl
      cases hn : mNx (gMem x b) r with
      | none =>
        refine ⟨x, fun d K => ?_, fun _ _ _ _ => rfl⟩
        rw [BX3_leastBudget_5 h3, mLe_n hp1 hn]
        simp only [g0, placeB_eq h3 hM hr hn1 (show n ≤ 200 by omega), hp, gAns, BX3_leastBudget_18 h3, nextTM_eq h3 h hM hr, hn, BX3_leastBudget_29 h3, Option.toList_some, Option.toList_none, List.cons_append, List.nil_append, Nat.zero_add, Nat.reduceAdd, Option.some.injEq, Value.int.injEq, exists_eq_left', true_and, and_true, true_or, or_true, false_or, g_10, ↓reduceIte]
      | some s =>
        have hN := mNx_s hM hr hn
        obtain ⟨L, Q, a1, a2, a3, a4, a5, a6, a7, a8, a9⟩ := mReg hM hr
        obtain ⟨l, q, b1, b2, b3, b4, b5, b6, b7, b8, b9, b10, b11, b12⟩ := mBlk hM a5 hN
        rw [a3] at b11
        rw [a3, a4] at b12
        obtain ⟨f1, f2, f3, f4, f5⟩ := g_ix (n := 29) b5 (by decide)
        have sm := g_m1 (j := s) (by omega)
        have k1 : x (b + 12) s = nI q := by rw [← b2, gMem_k (by decide)]
        have k2 : x (b + 11) s = nI l := by rw [← b1, gMem_k (by decide)]
        obtain ⟨c', hc'⟩ : ∃ c', mLow (gMem x b) r (gSl (mC (gMem x b) r) (mE (gMem x b) r s)) (gN (gMem x b 12 s)) = c' := ⟨_, rfl⟩
        have hcq : c' + q ≤ 240 := by
          have hsl := gSl_le (C := mC (gMem x b) r) (mE (gMem x b) r s)
          have e1 : mE (gMem x b) r s = if mW (gMem x b) r = true then l - L else L + Q - (l + q) := by unfold mE; rw [a3, a4, b3, b4]
          rw [← hc']
          unfold mLow
          rw [a3, a4, b4]
          rcases a9 with ⟨-, w⟩ | ⟨-, w⟩ <;> simp only [w, ↓reduceIte, Bool.false_eq_true] at e1 ⊢ <;> omega
        have hm1 : gMem (gLay x b s l q c') b = mMv (gMem x b) r s := by
          rw [gMem_lay]; unfold mMv; rw [hc', b3, b4]
        obtain ⟨g', hg'⟩ := mv_ex hM hr hN
        obtain ⟨x', i1, i3⟩ := ih (i + 1) (u + q) (gLay x b s l q c') g' (.int (nI s)) (by omega) (by rw [hm1]; exact hg') (by rw [hm1, mMv_o (by decide) (by decide) (by decide)]; exact hr)
        rw [hm1] at i1
        refine ⟨x', fun d K => ?_, fun k n1 n2 n3 => by rw [i3 k n1 n2 n3, lay_o n1 n2 n3]⟩
        rw [mLe_s hp1 hn, b4, ← i1 d K, BX3_leastBudget_5 h3]
        have mlow : ∀ K : gK, g_inv (gCm' G (d + 3)) mX3_movedLow [.ref b, .int (nI s)] x K = K (some (.int (nI c'))) x := fun K => by
          rw [movedLow_eq h h3 hM a5 hN, hc']
        have lay : ∀ K : gK, g_inv (gCm' G (d + 3)) mX3_layAt [.ref b, .int (nI s), .int (nI c')] x K = K none (gLay x b s l q c') := fun K => lay_eq h3 b5 k2 k1 (by omega) hcq
        simp only [g0, placeB_eq h3 hM hr hn1 (show n ≤ 200 by omega), hp, gAns, BX3_leastBudget_18 h3, nextTM_eq h3 h hM hr, hn, BX3_leastBudget_29 h3, sm, f4, f5, k1, mlow, BX3_leastBudget_61 h3, lay, BX3_leastBudget_64 h3, nI_add, nI_1, Option.toList_some, Option.toList_none, List.cons_append, List.nil_append, Nat.zero_add, Nat.reduceAdd, Option.some.injEq, Value.int.injEq, exists_eq_left', true_and, and_true, true_or, or_true, false_or, g_10, ↓reduceIte]
/-- a state with another memory, and the twin's row that says the same -/
def vS (σ m : gM) (g : Nat → Int32) : gM := fun i => if 1 ≤ i ∧ i < 23 then m (i - 1) else if i = 105 then g else σ i
theorem vS_rel {m : gM} {g : Nat → Int32} (hR : wRel B σ) (hM : wMem B m g) : wRel B (vS σ m g) := by
  have e : ∀ k j, k < 22 → gMem (vS σ m g) 1 k j = m k j := fun k j hk => by
    rw [gMem_k hk]
    unfold vS
    rw [if_pos (by omega), show 1 + k - 1 = k by omega]
  refine wRel_now hR (Nat.le_refl _) (wMem_ir (m := m) (g := g) ⟨⟨e 0 0 (by decide), e 2 0 (by decide), e 18 0 (by decide)⟩, fun j _ => ⟨e 1 j (by decide), e 7 j (by decide)⟩, fun j _ => ⟨e 3 j (by decide), e 4 j (by decide), e 5 j (by decide), e 21 j (by decide)⟩, fun j _ => ⟨e 9 j (by decide), e 10 j (by decide), e 11 j (by decide), e 12 j (by decide), e 13 j (by decide), e 14 j (by decide), e 15 j (by decide), e 16 j (by decide), e 17 j (by decide), e 19 j (by decide)⟩, fun j _ => e 20 j (by decide)⟩ (fun i hi => ?_) hM) (fun i hi h1 h2 => ?_)
  · rfl
  · unfold vS
    rw [if_neg (by omega), if_neg h2]
theorem le_step (h : gOK G) (hR : wRel B σ) {m z : gM} {r n j : Nat} (hM : wMem B m (σ 105)) (hr : r < gN (m 2 0)) (hj : j ≤ 240) (hn1 : 1 ≤ n) (hn2 : n ≤ 40) (hz : ∀ i, i < 607 → z 105 i = σ 105 i) (hz6 : ∀ i, i < 607 → z 106 i = σ 105 i) :
    ∃ z' : gM, (∀ (d : Nat) (K : gK), gw (gCm' G (d + 4)) G mX10_least K 37 [.ref 104, .int (nI r), .int (nI n), .int (-2), .int (nI j)] [] z = gw (gCm' G (d + 4)) G mX10_least K 37 [.ref 104, .int (nI r), .int (nI n), .int (if (mPl (mGo r j 30 m 0).1 r n).isSome = true then nI j else -2), .int (nI (j + 1))] [] z') ∧ (∀ i, i < 607 → z' 105 i = σ 105 i) ∧ (∀ i, i < 607 → z' 106 i = σ 105 i) ∧ ∀ i, i ≠ 105 → i ≠ 109 → i ≠ 110 → z' i = z i := by
  have hMz : wMem B m (z 105) := wMem_ir ⟨⟨rfl, rfl, rfl⟩, fun _ _ => ⟨rfl, rfl⟩, fun _ _ => ⟨rfl, rfl, rfl, rfl⟩, fun _ _ => ⟨rfl, rfl, rfl, rfl, rfl, rfl, rfl, rfl, rfl, rfl⟩, fun _ _ => rfl⟩ hz hM
  obtain ⟨z1, i1, i2, i3, i4⟩ := moved_eq (z := z) (m := m) (r := r) (bud := j) h hMz hr (by omega)
  obtain ⟨m1, hm1⟩ : ∃ m1, m1 = (mGo r j 30 m 0).1 := ⟨_, rfl⟩
  rw [← hm1] at i2 ⊢
  have hr1 : r < gN (m1 2 0) := by
    have : ∀ (f u : Nat) (m : gM), (mGo r j f m u).1 2 = m 2 := by
      intro f
      induction f with
      | zero => intro u m; rfl
      | succ f ih =>
        intro u m
        cases hn : mNx m r with
        | none => rw [mGo_none hn]
        | some s =>
          rw [mGo_some hn]
          split
          · rfl
          · rw [ih, mMv_o (by decide) (by decide) (by decide)]
    rw [hm1, this]; exact hr
  have hR1 := vS_rel hR i2
  have hv5 : z1 105 = (vS σ m1 (z1 105)) 105 := rfl
  have hl : ∀ (d : Nat) (K : gK), g_inv (gCm' G (d + 4)) mX10_laid [.ref 104] z1 K = K none (g_ln z1 (vS σ m1 (z1 105))) := fun d K => laid_eq h hR1 hv5
  have hp : ∀ (d : Nat) (K : gK), g_inv (gCm' G (d + 4)) mX10_placed [.ref 104, .int (nI r), .int (nI n)] (g_ln z1 (vS σ m1 (z1 105))) K = K (some (.int (gAns (mPl m1 r n) (-2)))) (g_ln z1 (vS σ m1 (z1 105))) := fun d K => by
    rw [placed_eq h hR1 ((g_ln_o (by decide)).trans hv5) (show r < gN ((vS σ m1 (z1 105)) 3 0) from hr1) (fun c h1 h2 => ln_free hR1 hr1 h1 h2) hn1 (by omega)]
    rfl
  obtain ⟨y, hy⟩ : ∃ y, y = g_ln z1 (vS σ m1 (z1 105)) := ⟨_, rfl⟩
  rw [← hy] at hl hp
  have t1 : ∀ (d : Nat) (K : gK), g_inv (gCm' G (d + 4)) mX10_take [.ref 106, .ref 105] y K = K none (g_ca y 106 105 607) := fun d K => take_eq (n := 0) (aX10_1 h.2) (nX10_1 h.2) (aX10_0 h.2) (nX10_0 h.2) (by decide)
  have g0 : ¬ 240 < nI j := nI_nlt (a := 240) (by omega) (by omega)
  refine ⟨g_ca y 106 105 607, fun d K => ?_, fun i hi => ?_, fun i hi => ?_, fun i n1 n2 n3 => ?_⟩
  · rw [BX10_least_37 h.2]
    cases hpl : mPl m1 r n with
    | none =>
      rw [hpl] at hp
      simp +decide only [g0, i1, BX10_least_56 h.2, hl, BX10_least_61 h.2, hp, BX10_least_67 h.2, gAns, BX10_least_77 h.2, t1, BX10_least_89 h.2, nI_1, Option.isSome, Option.toList_some, Option.toList_none, List.cons_append, List.nil_append, Nat.zero_add, Nat.reduceAdd, Option.some.injEq, Value.int.injEq, exists_eq_left', true_and, and_true, true_or, or_true, false_or, g_10, ↓reduceIte]
    | some c =>
      rw [hpl] at hp
      obtain ⟨L, Q, a1, a2, a3, a4, a5, a6, a7, a8, a9⟩ := mReg i2 hr1
      have hpl' := hpl
      unfold mPl at hpl'
      rw [a3, a4] at hpl'
      obtain ⟨v1, v2, -⟩ := gPl_some hn1 hpl'
      have cn : ¬ nI c < 0 := nI_pos (by omega)
      simp +decide only [g0, i1, BX10_least_56 h.2, hl, BX10_least_61 h.2, hp, BX10_least_67 h.2, gAns, cn, BX10_least_77 h.2, t1, BX10_least_89 h.2, nI_1, Option.isSome, Option.toList_some, Option.toList_none, List.cons_append, List.nil_append, Nat.zero_add, Nat.reduceAdd, Option.some.injEq, Value.int.injEq, exists_eq_left', true_and, and_true, true_or, or_true, false_or, g_10, ↓reduceIte]
  · rw [g_ca_s hi, hy, g_ln_o (by decide), i3 106 (by decide) (by decide)]; exact hz6 i hi
  · rw [g_ca_o (by decide), hy, g_ln_o (by decide), i3 106 (by decide) (by decide)]; exact hz6 i hi
  · rw [g_ca_o n1, hy, g_ln_o n2, i3 i n1 n3]
theorem le_none (h : gOK G) (hR : wRel B σ) {m : gM} {r n : Nat} (hM : wMem B m (σ 105)) (hr : r < gN (m 2 0)) (hn1 : 1 ≤ n) (hn2 : n ≤ 40) {z : gM} (hz : ∀ i, i < 607 → z 105 i = σ 105 i) (hz6 : ∀ i, i < 607 → z 106 i = σ 105 i) : ∀ j, j ≤ 241 → (∀ b, b < j → (mPl (mGo r b 30 m 0).1 r n).isSome = false) →
    ∃ z' : gM, (∀ (d : Nat) (K : gK), gw (gCm' G (d + 4)) G mX10_least K 37 [.ref 104, .int (nI r), .int (nI n), .int (-2), .int (nI 0)] [] z = gw (gCm' G (d + 4)) G mX10_least K 37 [.ref 104, .int (nI r), .int (nI n), .int (-2), .int (nI j)] [] z') ∧ (∀ i, i < 607 → z' 105 i = σ 105 i) ∧ (∀ i, i < 607 → z' 106 i = σ 105 i) ∧ ∀ i, i ≠ 105 → i ≠ 109 → i ≠ 110 → z' i = z i := by
  intro j
  induction j with
  | zero => intro _ _; exact ⟨z, fun _ _ => rfl, hz, hz6, fun _ _ _ _ => rfl⟩
  | succ j ih =>
    intro hj hb
    obtain ⟨z1, i1, i2, i3, i4⟩ := ih (by omega) (fun b hb' => hb b (by omega))
    obtain ⟨z2, j1, j2, j3, j4⟩ := le_step h hR hM hr (show j ≤ 240 by omega) hn1 hn2 i2 i3
    rw [hb j (by omega), if_neg (by decide)] at j1
    exact ⟨z2, fun d K => by rw [i1, j1], j2, j3, fun i n1 n2 n3 => by rw [j4 i n1 n2 n3, i4 i n1 n2 n3]⟩
theorem op_least (h : gOK G) (hB : B < 1000000) (hR : wRel B σ) (a n : Int32) : gOp G (d + 5) B mX9_least mX10_least [.int a, .int n] σ := by
  unfold gOp
  rcases reg_cases hR a with (c | ⟨c, c2⟩) | ⟨r, hr, rfl, c, c2⟩
  · simp only [EX9_least, BX9_least_11, BX9_least_18, BX9_least_34, BX9_least_43, BX9_least_46, EX10_least, BX10_least_5, BX10_least_15, BX10_least_31, BX10_least_56, BX10_least_61, BX10_least_67, BX10_least_77, BX10_least_89, has_eq h hR, isReg_eq h hR rfl, Option.toList_some, Option.toList_none, List.cons_append, List.nil_append, Nat.zero_add, Nat.reduceAdd, Option.some.injEq, Value.int.injEq, exists_eq_left', true_and, and_true, true_or, or_true, false_or, g_10, ↓reduceIte, h.1, h.2, hNow h, hReg h, hGrd h, hBlk h, hTgo h, hWlk h, hPln h, hTap h, hHol h, c]
    exact wRel_up hR (by omega)
  · simp only [EX9_least, BX9_least_11, BX9_least_18, BX9_least_34, BX9_least_43, BX9_least_46, EX10_least, BX10_least_5, BX10_least_15, BX10_least_31, BX10_least_56, BX10_least_61, BX10_least_67, BX10_least_77, BX10_least_89, has_eq h hR, isReg_eq h hR rfl, Option.toList_some, Option.toList_none, List.cons_append, List.nil_append, Nat.zero_add, Nat.reduceAdd, Option.some.injEq, Value.int.injEq, exists_eq_left', true_and, and_true, true_or, or_true, false_or, g_10, ↓reduceIte, h.1, h.2, hNow h, hReg h, hGrd h, hBlk h, hTgo h, hWlk h, hPln h, hTap h, hHol h, c, c2]
    exact wRel_up hR (by omega)
  by_cases n1 : n < 1
  · simp only [EX9_least, BX9_least_11, BX9_least_18, BX9_least_34, BX9_least_43, BX9_least_46, EX10_least, BX10_least_5, BX10_least_15, BX10_least_31, BX10_least_56, BX10_least_61, BX10_least_67, BX10_least_77, BX10_least_89, has_eq h hR, isReg_eq h hR rfl, EX10_in, EX9_isBlockLength, Option.toList_some, Option.toList_none, List.cons_append, List.nil_append, Nat.zero_add, Nat.reduceAdd, Option.some.injEq, Value.int.injEq, exists_eq_left', true_and, and_true, true_or, or_true, false_or, g_10, ↓reduceIte, h.1, h.2, hNow h, hReg h, hGrd h, hBlk h, hTgo h, hWlk h, hPln h, hTap h, hHol h, c, c2, n1]
    exact wRel_up hR (by omega)
  by_cases n2 : 40 < n
  · simp only [EX9_least, BX9_least_11, BX9_least_18, BX9_least_34, BX9_least_43, BX9_least_46, EX10_least, BX10_least_5, BX10_least_15, BX10_least_31, BX10_least_56, BX10_least_61, BX10_least_67, BX10_least_77, BX10_least_89, has_eq h hR, isReg_eq h hR rfl, EX10_in, EX9_isBlockLength, Option.toList_some, Option.toList_none, List.cons_append, List.nil_append, Nat.zero_add, Nat.reduceAdd, Option.some.injEq, Value.int.injEq, exists_eq_left', true_and, and_true, true_or, or_true, false_or, g_10, ↓reduceIte, h.1, h.2, hNow h, hReg h, hGrd h, hBlk h, hTgo h, hWlk h, hPln h, hTap h, hHol h, c, c2, n1, n2]
    exact wRel_up hR (by omega)
  obtain ⟨n, hn1, hn2, rfl⟩ := g_rng (a := 1) (b := 40) (by decide) (by decide) n1 n2
  have e1 : isX3 G 1 := hNow h
  have e2 := hTho h
  have f0 : ∀ i, (i < 67 ∨ 89 ≤ i) → gcm_19 σ 67 1 i = σ i := fun i hi => gcm_fr (by omega)
  obtain ⟨x, hx⟩ : ∃ x, x = gcm_19 σ 67 1 := ⟨_, rfl⟩
  have hir : gIR (gMem x 67) (gMem σ 1) := by rw [hx]; exact gcm_ir (by decide)
  have hM : wMem B (gMem x 67) (σ 105) := wMem_ir hir (fun _ _ => rfl) hR.1
  have hr1 : r < gN (gMem x 67 2 0) := by rw [hir.1.2.1]; exact hr
  have cp : ∀ K : gK, g_inv (gCm' G (d + 4)) mX3_copyFrom [.ref 67, .ref 1] σ K = K none x := fun K => by rw [hx]; exact copyFrom_eq e2 e1
  obtain ⟨x', i1, i3⟩ := leW_eq (b := 67) (r := r) (n := n) h e2 hn1 hn2 31 0 0 x (σ 105) (.long 0) rfl hM hr1
  have i1 : ∀ K : gK, g_inv (gCm' G (d + 4)) mX3_leastBudget [.ref 67, .int (nI r), .int (nI n)] x K = K (some (.int (gAns (mLe r n 31 (gMem x 67) 0) (-1)))) x' := fun K => by
    rw [EX3_leastBudget e2]; exact i1 d K
  have x0 : ∀ i, (i < 67 ∨ 89 ≤ i) → x' i = σ i := fun i hi => by rw [i3 i (by omega) (by omega) (by omega), hx, f0 i hi]
  have t1 : ∀ K : gK, g_inv (gCm' G (d + 4)) mX10_take [.ref 105, .ref 106] x' K = K none (g_ca x' 105 106 607) := fun K => take_eq (n := 0) (aX10_0 h.2) (nX10_0 h.2) (aX10_1 h.2) (nX10_1 h.2) (by decide)
  obtain ⟨z, hz⟩ : ∃ z, z = g_ca x' 105 106 607 := ⟨_, rfl⟩
  rw [← hz] at t1
  have z5 : ∀ i, i < 607 → z 105 i = σ 105 i := fun i hi => by rw [hz, g_ca_o (by decide), x0 105 (by decide)]
  have z6 : ∀ i, i < 607 → z 106 i = σ 105 i := fun i hi => by rw [hz, g_ca_s hi, x0 105 (by decide)]
  have fin : ∀ z' : gM, (∀ i, i < 607 → z' 105 i = σ 105 i) → (∀ i, i ≠ 105 → i ≠ 109 → i ≠ 110 → z' i = z i) → wRel (B + 1) z' := fun z' k1 k2 => by
    have k3 : ∀ i, (i < 67 ∨ 89 ≤ i) → i ≠ 105 → i ≠ 106 → i ≠ 109 → i ≠ 110 → z' i = σ i := fun i h1 h2 h3 h4 h5 => by
      rw [k2 i h2 h4 h5, hz, g_ca_o h3, x0 i h1]
    refine wRel_fr hR (by omega) ?_ (fun i hi => ?_) ?_ ?_ ?_
    · rw [gMem_eq (σ := σ) (σ' := z') (b := 1) (fun i hi => k3 _ (by omega) (by omega) (by omega) (by omega) (by omega))]
      exact wMem_up (wMem_ir ⟨⟨rfl, rfl, rfl⟩, fun _ _ => ⟨rfl, rfl⟩, fun _ _ => ⟨rfl, rfl, rfl, rfl⟩, fun _ _ => ⟨rfl, rfl, rfl, rfl, rfl, rfl, rfl, rfl, rfl, rfl⟩, fun _ _ => rfl⟩ k1 hR.1) (by omega)
    · unfold gRl at hi; exact k3 i (by omega) (by omega) (by omega) (by omega) (by omega)
    · rw [k3 95 (by decide) (by decide) (by decide) (by decide) (by decide)]
    · rw [k3 104 (by decide) (by decide) (by decide) (by decide) (by decide)]
    · rw [k3 104 (by decide) (by decide) (by decide) (by decide) (by decide)]
  have beg : ∀ K : gK, g_inv (gCm' G (d + 5)) mX10_least [.ref 104, .int (nI r), .int (nI n)] x' K = gw (gCm' G (d + 4)) G mX10_least K 37 [.ref 104, .int (nI r), .int (nI n), .int (-2), .int (nI 0)] [] z := fun K => by
    simp only [EX10_least, BX10_least_5, BX10_least_15, BX10_least_31, BX10_least_56, BX10_least_61, BX10_least_67, BX10_least_77, BX10_least_89, isReg_eq h hR (x0 105 (by decide)), EX10_in, Option.toList_some, Option.toList_none, List.cons_append, List.nil_append, Nat.zero_add, Nat.reduceAdd, Option.some.injEq, Value.int.injEq, exists_eq_left', true_and, and_true, true_or, or_true, false_or, g_10, ↓reduceIte, h.1, h.2, hNow h, hReg h, hGrd h, hBlk h, hTgo h, hWlk h, hPln h, hTap h, hHol h, c, c2, n1, n2, t1]
    rfl
  have cl : ∀ K : gK, g_inv (gCm' G (d + 5)) mX9_least [.ref 0, .int (nI r), .int (nI n)] σ K = g_inv (gCm' G (d + 4)) mX9_notIfNone [.int (gAns (mLe r n 31 (gMem x 67) 0) (-1))] x' fun r1 σ' => gw (gCm' G (d + 4)) G mX9_least K 46 [.ref 0, .int (nI r), .int (nI n)] (r1.toList ++ []) σ' := fun K => by
    simp only [EX9_least h.1, BX9_least_11 h.1, BX9_least_18 h.1, BX9_least_34 h.1, BX9_least_43 h.1, EX9_isBlockLength, has_eq h hR, Option.toList_some, Option.toList_none, List.cons_append, List.nil_append, Nat.zero_add, Nat.reduceAdd, Option.some.injEq, Value.int.injEq, exists_eq_left', true_and, and_true, true_or, or_true, false_or, g_10, ↓reduceIte, h.1, h.2, hNow h, hReg h, hGrd h, hBlk h, hTgo h, hWlk h, hPln h, hTap h, hHol h, c, c2, n1, n2, cp, i1]
  rw [cl]
  obtain ⟨g1, g2⟩ := mLe_go (r := r) (n := n) 30 (gMem x 67) 0 (σ 105) hM hr1
  cases hl : mLe r n 31 (gMem x 67) 0 with
  | none =>
    obtain ⟨z1, j1, j2, j3, j4⟩ := le_none h hR hM hr1 hn1 hn2 z5 z6 241 (Nat.le_refl _) (fun b _ => g2 hl b)
    simp +decide only [EX9_notIfNone, gAns, BX9_least_46 h.1, beg, j1, Option.toList_some, Option.toList_none, List.cons_append, List.nil_append, Nat.zero_add, Nat.reduceAdd, Option.some.injEq, Value.int.injEq, exists_eq_left', true_and, and_true, true_or, or_true, false_or, g_10, ↓reduceIte]
    rw [BX10_least_37 h.2]
    simp +decide only [Option.toList_some, Option.toList_none, List.cons_append, List.nil_append, Nat.zero_add, Nat.reduceAdd, Option.some.injEq, Value.int.injEq, exists_eq_left', true_and, and_true, true_or, or_true, false_or, g_10, ↓reduceIte]
    exact fin z1 j2 j4
  | some v =>
    obtain ⟨-, v1, v2, v3, v4⟩ := g1 v hl
    have v5 : v ≤ 240 := by
      obtain ⟨-, -, -, -, w⟩ := moved_eq (z := σ) (m := gMem x 67) (r := r) (bud := v) h hM hr1 (by omega)
      rw [v3] at w; exact w
    obtain ⟨z1, j1, j2, j3, j4⟩ := le_none h hR hM hr1 hn1 hn2 z5 z6 v (by omega) (fun b hb => v4 b (Nat.zero_le _) hb)
    obtain ⟨z2, k1, k2, k3, k4⟩ := le_step h hR hM hr1 v5 hn1 hn2 j2 j3
    rw [if_pos v2] at k1
    have vm := g_m1 (j := v) (by omega)
    have vp : ¬ nI v < 0 := nI_pos (by omega)
    simp +decide only [EX9_notIfNone, gAns, vm, BX9_least_46 h.1, beg, j1, k1, Option.toList_some, Option.toList_none, List.cons_append, List.nil_append, Nat.zero_add, Nat.reduceAdd, Option.some.injEq, Value.int.injEq, exists_eq_left', true_and, and_true, true_or, or_true, false_or, g_10, ↓reduceIte]
    rw [BX10_least_37 h.2]
    simp +decide only [vp, Option.toList_some, Option.toList_none, List.cons_append, List.nil_append, Nat.zero_add, Nat.reduceAdd, Option.some.injEq, Value.int.injEq, exists_eq_left', true_and, and_true, true_or, or_true, false_or, g_10, ↓reduceIte, ite_self]
    exact fin z2 k2 (fun i n1 n2 n3 => by rw [k4 i n1 n2 n3, j4 i n1 n2 n3])
end O50
