section O38
variable {G : gG} {d B : Nat} {σ : gM} {K : gK}
theorem neg_ix {v : Int32} {M : Nat} (hM : M ≤ 60) (h1 : v < 0) (h2 : ¬ v < -(nI M)) : ∃ κ, κ < M ∧ (-1 : Int32) - v = nI κ ∧ -v - 1 = nI κ := by
  have f1 : ∀ m : Nat, m < 61 → (-(nI m)).toInt = -(m : Int) := by decide
  have f2 : ∀ m : Nat, m < 61 → 1 ≤ m → (-1 : Int32) - (-(nI m)) = nI (m - 1) ∧ -(-(nI m)) - 1 = nI (m - 1) := by decide
  rw [Int32.lt_iff_toInt_lt] at h1 h2
  rw [f1 M (by omega)] at h2
  have e0 : (0 : Int32).toInt = 0 := by decide
  rw [e0] at h1
  have hm : (-v.toInt).toNat < 61 := by omega
  have hm1 : 1 ≤ (-v.toInt).toNat := by omega
  have ev : v = -(nI (-v.toInt).toNat) := by
    apply Int32.toInt_inj.mp
    rw [f1 _ hm]
    omega
  obtain ⟨q1, q2⟩ := f2 _ hm hm1
  refine ⟨(-v.toInt).toNat - 1, by omega, ?_, ?_⟩
  · rw [← ev] at q1; exact q1
  · rw [← ev] at q2; exact q2
theorem neg_0 {M : Nat} (hM : M ≤ 60) : ¬ (0 : Int32) < -(nI M) := by
  have f : ∀ m : Nat, m < 61 → ¬ (0 : Int32) < -(nI m) := by decide
  exact f M (by omega)
theorem fills_eq (h : gOK G) {z : gM} {c n : Nat} {w : Int32} (hcn : c + n ≤ 240) : g_inv (gCm' G (d + 1)) mX10_fills [.ref 104, .int (nI c), .int (nI n), .int w] z K = K none (g_fl z 109 c n w) := by
  rw [EX10_fills h.2]
  have key := g_for (W := fun i (y : gM) => gw (gCm' G d) G mX10_fills K 3 [.ref 104, .int (nI c), .int (nI n), .int w, .int (nI i)] [] y) (R := fun y => K none y) (F := fun i y => g_up y 109 (c + i) w) (L := n) (fun i hi y => ?_) (fun y => ?_) z
  · refine Eq.trans key ?_
    rw [gFold_fl]
  · rw [BX10_fills_3 h.2]
    have g1 : nI i < nI n := nI_lt hi (by omega)
    have g2 : vp_in (nI (c + i)) 240 := vp_in_nI (by omega) (by decide)
    have g3 : (nI (c + i)).toNatClampNeg = c + i := nI_clamp (by omega)
    simp only [g1, nI_add, g2, g3, Option.toList_some, Option.toList_none, List.cons_append, List.nil_append, Nat.zero_add, Nat.reduceAdd, Option.some.injEq, Value.int.injEq, exists_eq_left', true_and, and_true, true_or, or_true, false_or, g_10, ↓reduceIte, nI_1]
  · rw [BX10_fills_3 h.2]
    simp only [show ¬ nI n < nI n from nI_nlt (Nat.le_refl _) (by omega), Option.toList_some, Option.toList_none, List.cons_append, List.nil_append, Nat.zero_add, Nat.reduceAdd, Option.some.injEq, Value.int.injEq, exists_eq_left', true_and, and_true, true_or, or_true, false_or, g_10, ↓reduceIte]
/-- a plan's blocks, in the class -/
def pC (σ x : gM) (l q M : Nat) : Prop := (∀ i, i ≠ 74 → i ≠ 92 → i ≠ 93 → i ≠ 94 → x i = σ i) ∧ x 92 0 = nI M ∧ ∀ k, k < M → x 94 k = 0 ∨ ∃ c n, x 93 k = nI c ∧ x 94 k = nI n ∧ 1 ≤ n ∧ n ≤ 40 ∧ l ≤ c ∧ c + n ≤ l + q
/-- and in the twin -/
def pT (σ x z : gM) (l q M : Nat) : Prop := (∀ i, 104 ≤ i → i ≠ 109 → i ≠ 111 → z i = σ i) ∧ (∀ c, l ≤ c → c < l + q → (z 109 c = 100 ↔ x 74 c = -1)) ∧ ∀ k, k < M → (x 94 k = 0 ∧ z 111 k = -2) ∨ ∃ c n, x 93 k = nI c ∧ x 94 k = nI n ∧ 1 ≤ n ∧ n ≤ 40 ∧ c + n ≤ 240 ∧ z 111 k = nI (100 * c + n)
theorem plan_lp (h : gOK G) (hB : B < 1000000) (hR : wRel B σ) {j N r l q : Nat} (hj : j < 6) (hN : N ≤ 60) (eN : σ 102 j = nI N) (eN2 : σ 117 j = nI N) (hit : ∀ i, i < N → σ (119 + j) i = σ 103 (j * 60 + i)) (hr : r < gN (σ 3 0)) (el : σ 4 r = nI l) (eq : σ 5 r = nI q) (hq : 8 ≤ q) (hlq : l + q ≤ 240) (ew : σ 6 r = 0 ∨ σ 6 r = 1) : ∀ (rem i M : Nat) (x : gM), i + rem = N → M ≤ i → pC σ x l q M →
    ∃ (a : Int32) (x' : gM), (∀ (d : Nat) (K : gK), gw (gCm' G (d + 4)) G mX9_plan K 66 [.ref 0, .int (nI j), .int (nI r), .int 0, .int (nI i)] [] x = K (some (.int a)) x') ∧ (∀ i, i ≠ 74 → i ≠ 92 → i ≠ 93 → i ≠ 94 → x' i = σ i) ∧
    ∀ (z : gM), pT σ x z l q M → ∃ z' : gM, (∀ i, 104 ≤ i → i ≠ 109 → i ≠ 111 → z' i = σ i) ∧ (∀ i, i < 104 → z' i = z i) ∧ ∀ (d : Nat) (w5 w6 : Value) (K : gK), gw (gCm' G (d + 4)) G mX10_plan K 54 [.ref 104, .int (nI j), .int (nI r), .int (nI M), .int (nI i), w5, w6] [] z = K (some (.int a)) z' := by
  obtain ⟨e1, e2, e3, e4, e5⟩ := g_ix (n := 5) hj (by decide)
  have h6 : r < 6 := (rReg hR hr).1
  have hTg : isX1 G 73 := iX3_3 (hTho h)
  have gl : gN (σ 4 r) = l := by rw [el, gN_nI (by omega)]
  have gq : gN (σ 5 r) = q := by rw [eq, gN_nI (by omega)]
  intro rem
  induction rem with
  | zero =>
    intro i M x hi hM hx
    have : i = N := by omega
    subst this
    have nn : ¬ nI i < nI i := nI_nlt (Nat.le_refl _) (by omega)
    refine ⟨-2, x, fun d K => ?_, hx.1, fun z hz => ⟨z, hz.1, fun _ _ => rfl, fun d w5 w6 K => ?_⟩⟩
    · rw [BX9_plan_66 h.1]
      simp only [e4, e5, hx.1 102 (by decide) (by decide) (by decide) (by decide), eN, nn, Option.toList_some, Option.toList_none, List.cons_append, List.nil_append, Nat.zero_add, Nat.reduceAdd, Option.some.injEq, Value.int.injEq, exists_eq_left', true_and, and_true, true_or, or_true, false_or, g_10, ↓reduceIte]
    · rw [BX10_plan_54 h.2]
      simp only [e4, e5, hz.1 117 (by decide) (by decide) (by decide), eN2, nn, Option.toList_some, Option.toList_none, List.cons_append, List.nil_append, Nat.zero_add, Nat.reduceAdd, Option.some.injEq, Value.int.injEq, exists_eq_left', true_and, and_true, true_or, or_true, false_or, g_10, ↓reduceIte]
  | succ rem ih =>
    intro i M x hi hM hx
    obtain ⟨x1, x2, x3⟩ := id hx
    have hiN : i < N := by omega
    have g0 : nI i < nI N := nI_lt hiN (by omega)
    obtain ⟨u1, u2, u3⟩ := itemF hj (show i < 60 by omega)
    have v4 : vp_in (nI i) 60 := vp_in_nI (by omega) (by decide)
    have v5 : (nI i).toNatClampNeg = i := nI_clamp (by omega)
    obtain ⟨v, hv⟩ : ∃ v, v = σ 103 (j * 60 + i) := ⟨_, rfl⟩
    have c66 : ∀ (d : Nat) (K : gK), gw (gCm' G (d + 4)) G mX9_plan K 66 [.ref 0, .int (nI j), .int (nI r), .int 0, .int (nI i)] [] x = g_inv (gCm' G (d + 4)) mX9_planElement [.ref 0, .int v, .int (nI r)] x fun r1 σ' => gw (gCm' G (d + 4)) G mX9_plan K 95 [.ref 0, .int (nI j), .int (nI r), .int 0, .int (nI i)] (r1.toList ++ []) σ' := fun d K => by
      rw [BX9_plan_66 h.1]
      simp only [e4, e5, x1 102 (by decide) (by decide) (by decide) (by decide), x1 103 (by decide) (by decide) (by decide) (by decide), eN, g0, EX2_item, BX9_plan_91 h.1, u1, u2, u3, ← hv, Option.toList_some, Option.toList_none, List.cons_append, List.nil_append, Nat.zero_add, Nat.reduceAdd, Option.some.injEq, Value.int.injEq, exists_eq_left', true_and, and_true, true_or, or_true, false_or, g_10, ↓reduceIte, h.1, h.2, hNow h, hReg h, hGrd h, hBlk h, hTgo h, hWlk h, hPln h, hTap h, hHol h]
    have stop : (∀ (d : Nat) (K : gK), g_inv (gCm' G (d + 4)) mX9_planElement [.ref 0, .int v, .int (nI r)] x K = K (some (.int 0)) x) → (∀ z, pT σ x z l q M → ∃ z' : gM, (∀ i, 104 ≤ i → i ≠ 109 → i ≠ 111 → z' i = σ i) ∧ (∀ i, i < 104 → z' i = z i) ∧ ∀ (d : Nat) (w5 w6 : Value) (K : gK), gw (gCm' G (d + 4)) G mX10_plan K 54 [.ref 104, .int (nI j), .int (nI r), .int (nI M), .int (nI i), w5, w6] [] z = K (some (.int (nI i))) z') → ∃ (a : Int32) (x' : gM), (∀ (d : Nat) (K : gK), gw (gCm' G (d + 4)) G mX9_plan K 66 [.ref 0, .int (nI j), .int (nI r), .int 0, .int (nI i)] [] x = K (some (.int a)) x') ∧ (∀ i, i ≠ 74 → i ≠ 92 → i ≠ 93 → i ≠ 94 → x' i = σ i) ∧ ∀ (z : gM), pT σ x z l q M → ∃ z' : gM, (∀ i, 104 ≤ i → i ≠ 109 → i ≠ 111 → z' i = σ i) ∧ (∀ i, i < 104 → z' i = z i) ∧ ∀ (d : Nat) (w5 w6 : Value) (K : gK), gw (gCm' G (d + 4)) G mX10_plan K 54 [.ref 104, .int (nI j), .int (nI r), .int (nI M), .int (nI i), w5, w6] [] z = K (some (.int a)) z' := fun hc ht => by
      refine ⟨nI i, x, fun d K => ?_, x1, ht⟩
      rw [c66, hc]
      simp only [BX9_plan_95 h.1, Option.toList_some, Option.toList_none, List.cons_append, List.nil_append, Nat.zero_add, Nat.reduceAdd, Option.some.injEq, Value.int.injEq, exists_eq_left', true_and, and_true, true_or, or_true, false_or, g_10, ↓reduceIte]
    have z54 : ∀ (z : gM), pT σ x z l q M → ∀ (d : Nat) (w5 w6 : Value) (K : gK), gw (gCm' G (d + 4)) G mX10_plan K 54 [.ref 104, .int (nI j), .int (nI r), .int (nI M), .int (nI i), w5, w6] [] z = if 0 < v then (if 40 < v then gw (gCm' G (d + 4)) G mX10_plan K 100 [.ref 104, .int (nI j), .int (nI r), .int (nI M), .int (nI i), .int v, w6] [.int (-2)] z else g_inv (gCm' G (d + 4)) mX10_placed [.ref 104, .int (nI r), .int v] z fun r1 σ' => gw (gCm' G (d + 4)) G mX10_plan K 100 [.ref 104, .int (nI j), .int (nI r), .int (nI M), .int (nI i), .int v, w6] (r1.toList ++ []) σ') else if v < -(nI M) then gw (gCm' G (d + 4)) G mX10_plan K 151 [.ref 104, .int (nI j), .int (nI r), .int (nI M), .int (nI i), .int v, w6] [] z else if v = 0 then gw (gCm' G (d + 4)) G mX10_plan K 151 [.ref 104, .int (nI j), .int (nI r), .int (nI M), .int (nI i), .int v, w6] [] z else gw (gCm' G (d + 4)) G mX10_plan K 161 [.ref 104, .int (nI j), .int (nI r), .int (nI M), .int (nI i), .int v, w6] [.int (-v - 1)] z := fun z hz d w5 w6 K => by
      rw [BX10_plan_54 h.2]
      have ei : σ (104 + 15 + j) i = v := by rw [hv]; exact hit i hiN
      simp only [e4, e5, hz.1 117 (by decide) (by decide) (by decide), hz.1 (104 + 15 + j) (by omega) (by omega) (by omega), eN2, g0, v4, v5, ei, Option.toList_some, Option.toList_none, List.cons_append, List.nil_append, Nat.zero_add, Nat.reduceAdd, Option.some.injEq, Value.int.injEq, exists_eq_left', true_and, and_true, true_or, or_true, false_or, g_10, ↓reduceIte]
    by_cases c1 : v < 0
    · have c1' : ¬ 0 < v := fun z => by rw [Int32.lt_iff_toInt_lt] at c1 z; omega
      have c1'' : ¬ v = 0 := fun z => by rw [z] at c1; exact absurd c1 (by decide)
      by_cases c2 : v < -(nI M)
      · refine stop (fun d K => ?_) (fun z hz => ⟨z, hz.1, fun _ _ => rfl, fun d w5 w6 K => ?_⟩)
        · simp +decide only [EX9_planElement, BX9_planElement_19, BX9_planElement_24, BX9_planElement_48, BX9_planElement_70, EX4_dropFrom, BX4_dropFrom_46, Option.toList_some, Option.toList_none, List.cons_append, List.nil_append, Nat.zero_add, Nat.reduceAdd, Option.some.injEq, Value.int.injEq, exists_eq_left', true_and, and_true, true_or, or_true, false_or, g_10, ↓reduceIte, h.1, h.2, hNow h, hReg h, hGrd h, hBlk h, hTgo h, hWlk h, hPln h, hTap h, hHol h, hTg, c1, x2, c2]
        · rw [z54 z hz]
          simp +decide only [c1', c2, BX10_plan_151 h.2, BX10_plan_161 h.2, Option.toList_some, Option.toList_none, List.cons_append, List.nil_append, Nat.zero_add, Nat.reduceAdd, Option.some.injEq, Value.int.injEq, exists_eq_left', true_and, and_true, true_or, or_true, false_or, g_10, ↓reduceIte]
      · obtain ⟨κ, hκ, k1, k2⟩ := neg_ix (by omega) c1 c2
        have k3 : vp_in (nI κ) 60 := vp_in_nI (by omega) (by decide)
        have k4 : (nI κ).toNatClampNeg = κ := nI_clamp (by omega)
        have kn : ¬ nI κ < 0 := nI_pos (by omega)
        rcases x3 κ hκ with x0 | ⟨c, n, y1, y2, y3, y4, y5, y6⟩
        · refine stop (fun d K => ?_) (fun z hz => ⟨z, hz.1, fun _ _ => rfl, fun d w5 w6 K => ?_⟩)
          · simp +decide only [EX9_planElement, BX9_planElement_19, BX9_planElement_24, BX9_planElement_48, BX9_planElement_70, EX4_dropFrom, BX4_dropFrom_46, Option.toList_some, Option.toList_none, List.cons_append, List.nil_append, Nat.zero_add, Nat.reduceAdd, Option.some.injEq, Value.int.injEq, exists_eq_left', true_and, and_true, true_or, or_true, false_or, g_10, ↓reduceIte, h.1, h.2, hNow h, hReg h, hGrd h, hBlk h, hTgo h, hWlk h, hPln h, hTap h, hHol h, hTg, c1, x2, c2, k1, k3, k4, x0]
          · rw [z54 z hz]
            have z0 : z 111 κ = -2 := by
              rcases hz.2.2 κ hκ with w | ⟨c, n, -, w2, w3, w4, -⟩
              · exact w.2
              · exact absurd (w2.symm.trans x0) (nI_ne0 (by omega) (by omega))
            simp +decide only [c1', c1'', c2, k2, kn, k3, k4, z0, BX10_plan_161 h.2, Option.toList_some, Option.toList_none, List.cons_append, List.nil_append, Nat.zero_add, Nat.reduceAdd, Option.some.injEq, Value.int.injEq, exists_eq_left', true_and, and_true, true_or, or_true, false_or, g_10, ↓reduceIte]
        · have n0 : ¬ nI n = 0 := nI_ne0 (by omega) (by omega)
          have ff : ∀ (d : Nat) (K : gK), g_inv (gCm' G (d + 1)) mX9_fill [.ref 74, .int (nI c), .int (nI n), .int (-1)] x K = K none (g_fl x 74 c n (-1)) := fun d K => fill_eq (aX1_0 (iX3_3 (hTho h))) (nX1_0 (iX3_3 (hTho h))) (by decide) (by omega)
          have hTg : isX1 G 73 := iX3_3 (hTho h)
          obtain ⟨a, x', i1, i2, i3⟩ := ih (i + 1) M (g_up (g_fl x 74 c n (-1)) 94 κ 0) (by omega) (by omega) ⟨fun b h1 h2 h3 h4 => by rw [g_up_o h4, g_fl_o h1]; exact x1 b h1 h2 h3 h4, by rw [g_up_o (by decide), g_fl_o (by decide)]; exact x2, fun k hk => by
            by_cases ek : k = κ
            · subst ek; exact Or.inl g_up_3
            · rw [g_up_2 ek, g_up_o (by decide), g_fl_o (by decide), g_fl_o (by decide)]; exact x3 k hk⟩
          refine ⟨a, x', fun d K => ?_, i2, fun z hz => ?_⟩
          · rw [← i1 d K, c66]
            simp +decide only [EX9_planElement, BX9_planElement_19, BX9_planElement_24, BX9_planElement_48, BX9_planElement_70, EX4_dropFrom, BX4_dropFrom_46, EX1_release, BX1_release_10, BX9_plan_95 h.1, Option.toList_some, Option.toList_none, List.cons_append, List.nil_append, Nat.zero_add, Nat.reduceAdd, Option.some.injEq, Value.int.injEq, exists_eq_left', true_and, and_true, true_or, or_true, false_or, g_10, ↓reduceIte, h.1, h.2, hNow h, hReg h, hGrd h, hBlk h, hTgo h, hWlk h, hPln h, hTap h, hHol h, hTg, c1, x2, c2, k1, k3, k4, y1, y2, n0, ff, nI_1]
          · have zp : z 111 κ = nI (100 * c + n) := by
              rcases hz.2.2 κ hκ with w | ⟨c', n', w1, w2, w3, w4, w5, w6⟩
              · exact absurd (y2.symm.trans w.1) n0
              · rw [w6, nI_inj (by omega) (by omega) (w1.symm.trans y1), nI_inj (by omega) (by omega) (w2.symm.trans y2)]
            have hz2 : pT σ (g_up (g_fl x 74 c n (-1)) 94 κ 0) (g_up (g_fl z 109 c n 100) 111 κ (-2)) l q M := by
              refine ⟨fun b h1 h2 h3 => by rw [g_up_o h3, g_fl_o h2]; exact hz.1 b h1 h2 h3, fun b h1 h2 => ?_, fun k hk => ?_⟩
              · simp only [g_fl_d, g_up_d, Nat.reduceEqDiff, ↓reduceIte]
                by_cases hb : c ≤ b ∧ b < c + n
                · simp [hb]
                · simp only [hb, ↓reduceIte]; exact hz.2.1 b h1 h2
              · simp only [g_fl_d, g_up_d, Nat.reduceEqDiff, ↓reduceIte]
                by_cases ek : k = κ
                · simp only [ek, ↓reduceIte]; exact Or.inl ⟨trivial, trivial⟩
                · simp only [ek, ↓reduceIte]; exact hz.2.2 k hk
            obtain ⟨z', j1, j2, j3⟩ := i3 _ hz2
            · refine ⟨z', j1, fun b hb => by rw [j2 b hb, g_up_o (by omega), g_fl_o (by omega)], fun d w5 w6 K => ?_⟩
              obtain ⟨m1, m2⟩ := g_dm (n := 100 * c + n) (by omega)
              rw [show (100 * c + n) / 100 = c by omega] at m1 m2
              rw [show (100 * c + n) % 100 = n by omega] at m2
              have pn : ¬ nI (100 * c + n) < 0 := nI_pos (by omega)
              rw [z54 z hz]
              have := fun (d : Nat) (K : gK) => fills_eq (G := G) (d := d) (K := K) h (z := z) (c := c) (n := n) (w := 100) (by omega)
              simp +decide only [c1', c1'', c2, k2, kn, k3, k4, zp, pn, m1, m2, BX10_plan_161 h.2, BX10_plan_207 h.2, this, Option.toList_some, Option.toList_none, List.cons_append, List.nil_append, Nat.zero_add, Nat.reduceAdd, Option.some.injEq, Value.int.injEq, exists_eq_left', true_and, and_true, true_or, or_true, false_or, g_10, ↓reduceIte, nI_1]
              exact j3 _ _ _ _
    · by_cases c2 : v < 1
      · have v0 : v = 0 := by
          apply Int32.toInt_inj.mp
          rw [Int32.lt_iff_toInt_lt] at c1 c2
          have e0 : (0 : Int32).toInt = 0 := by decide
          have e1 : (1 : Int32).toInt = 1 := by decide
          omega
        have nm := neg_0 (M := M) (by omega)
        refine stop (fun d K => ?_) (fun z hz => ⟨z, hz.1, fun _ _ => rfl, fun d w5 w6 K => ?_⟩)
        · simp +decide only [EX9_planElement, BX9_planElement_19, BX9_planElement_24, BX9_planElement_48, BX9_planElement_70, EX9_isBlockLength, Option.toList_some, Option.toList_none, List.cons_append, List.nil_append, Nat.zero_add, Nat.reduceAdd, Option.some.injEq, Value.int.injEq, exists_eq_left', true_and, and_true, true_or, or_true, false_or, g_10, ↓reduceIte, h.1, h.2, hNow h, hReg h, hGrd h, hBlk h, hTgo h, hWlk h, hPln h, hTap h, hHol h, v0]
        · rw [z54 z hz]
          simp +decide only [v0, nm, BX10_plan_151 h.2, BX10_plan_161 h.2, Option.toList_some, Option.toList_none, List.cons_append, List.nil_append, Nat.zero_add, Nat.reduceAdd, Option.some.injEq, Value.int.injEq, exists_eq_left', true_and, and_true, true_or, or_true, false_or, g_10, ↓reduceIte]
      · have c0 : 0 < v := by
          rw [Int32.lt_iff_toInt_lt] at c1 c2 ⊢
          have e0 : (0 : Int32).toInt = 0 := by decide
          have e1 : (1 : Int32).toInt = 1 := by decide
          omega
        by_cases c3 : 40 < v
        · refine stop (fun d K => ?_) (fun z hz => ⟨z, hz.1, fun _ _ => rfl, fun d w5 w6 K => ?_⟩)
          · simp +decide only [EX9_planElement, BX9_planElement_19, BX9_planElement_24, BX9_planElement_48, BX9_planElement_70, EX9_isBlockLength, Option.toList_some, Option.toList_none, List.cons_append, List.nil_append, Nat.zero_add, Nat.reduceAdd, Option.some.injEq, Value.int.injEq, exists_eq_left', true_and, and_true, true_or, or_true, false_or, g_10, ↓reduceIte, h.1, h.2, hNow h, hReg h, hGrd h, hBlk h, hTgo h, hWlk h, hPln h, hTap h, hHol h, c1, c2, c3]
          · rw [z54 z hz]
            simp +decide only [c0, c3, BX10_plan_100 h.2, Option.toList_some, Option.toList_none, List.cons_append, List.nil_append, Nat.zero_add, Nat.reduceAdd, Option.some.injEq, Value.int.injEq, exists_eq_left', true_and, and_true, true_or, or_true, false_or, g_10, ↓reduceIte]
        · obtain ⟨n, hn, hn2, rfl⟩ := g_rng (a := 1) (b := 40) (by decide) (by decide) c2 c3
          have hTg : isX1 G 73 := iX3_3 (hTho h)
          have pi : ∀ (d : Nat) (K : gK), g_inv (gCm' G (d + 2)) mX1_placeIn [.ref 73, .ref 3, .int (nI r), .int (nI n)] x K = K (some (.int (gAns (gPl (x 74) l q (gIs (σ 6 r) 0) n) (-1)))) x := fun d K => by
            have := placeIn_eq (G := G) (d := d) (K := K) (σ := x) (gd := 73) (rg := 3) (r := r) (l := l) (q := q) (n := n) hTg (hReg h) h6 (by rw [x1 _ (by decide) (by decide) (by decide) (by decide)]; exact el) (by rw [x1 _ (by decide) (by decide) (by decide) (by decide)]; exact eq) (by rw [x1 _ (by decide) (by decide) (by decide) (by decide)]; exact ew) (by omega) hlq hn (by omega)
            rw [show x (3 + 3) = σ 6 from x1 6 (by decide) (by decide) (by decide) (by decide)] at this
            exact this
          have pl : ∀ z, pT σ x z l q M → ∀ (d : Nat) (K : gK), g_inv (gCm' G (d + 2)) mX10_placed [.ref 104, .int (nI r), .int (nI n)] z K = K (some (.int (gAns (gPl (x 74) l q (gIs (σ 6 r) 0) n) (-2)))) z := fun z hz d K => by
            rw [placed_eq h hR (hz.1 105 (by decide) (by decide) (by decide)) hr (S := x 74) (fun c h1 h2 => hz.2.1 c (by rw [gl] at h1; exact h1) (by rw [gl, gq] at h2; exact h2)) hn (by omega), gl, gq]
          cases hp : gPl (x 74) l q (gIs (σ 6 r) 0) n with
          | none =>
            rw [hp] at pi
            refine stop (fun d K => ?_) (fun z hz => ⟨z, hz.1, fun _ _ => rfl, fun d w5 w6 K => ?_⟩)
            · simp +decide only [EX9_planElement, BX9_planElement_19, BX9_planElement_24, BX9_planElement_48, BX9_planElement_70, EX9_isBlockLength, Option.toList_some, Option.toList_none, List.cons_append, List.nil_append, Nat.zero_add, Nat.reduceAdd, Option.some.injEq, Value.int.injEq, exists_eq_left', true_and, and_true, true_or, or_true, false_or, g_10, ↓reduceIte, h.1, h.2, hNow h, hReg h, hGrd h, hBlk h, hTgo h, hWlk h, hPln h, hTap h, hHol h, c1, c2, c3, pi, gAns]
            · have pl := pl z hz
              rw [hp] at pl
              rw [z54 z hz]
              simp +decide only [c0, c3, pl, gAns, BX10_plan_100 h.2, Option.toList_some, Option.toList_none, List.cons_append, List.nil_append, Nat.zero_add, Nat.reduceAdd, Option.some.injEq, Value.int.injEq, exists_eq_left', true_and, and_true, true_or, or_true, false_or, g_10, ↓reduceIte]
          | some c =>
            rw [hp] at pi
            obtain ⟨w1, w2, w3⟩ := gPl_some hn hp
            have vm := g_m1 (j := c) (by omega)
            have cn : ¬ nI c < 0 := nI_pos (by omega)
            have m6 : nI M < 60 := nI_lt (b := 60) (by omega) (by decide)
            have m7 : vp_in (nI M) 60 := vp_in_nI (by omega) (by decide)
            have m8 : (nI M).toNatClampNeg = M := nI_clamp (by omega)
            have ff : ∀ (d : Nat) (y : gM) (K : gK), g_inv (gCm' G (d + 1)) mX9_fill [.ref 74, .int (nI c), .int (nI n), .int 30] y K = K none (g_fl y 74 c n 30) := fun d y K => fill_eq (aX1_0 hTg) (nX1_0 hTg) (by decide) (by omega)
            obtain ⟨a, x', i1, i2, i3⟩ := ih (i + 1) (M + 1) (g_fl (g_up (g_up (g_up x 93 M (nI c)) 94 M (nI n)) 92 0 (nI (M + 1))) 74 c n 30) (by omega) (by omega) ⟨fun b h1 h2 h3 h4 => by rw [g_fl_o h1, g_up_o h2, g_up_o h4, g_up_o h3]; exact x1 b h1 h2 h3 h4, by rw [g_fl_o (by decide), g_up_3], fun k hk => by
              simp only [g_fl_d, g_up_d, Nat.reduceEqDiff, ↓reduceIte]
              by_cases ek : k = M
              · simp only [ek, ↓reduceIte]; exact Or.inr ⟨c, n, rfl, rfl, hn, hn2, w1, w2⟩
              · simp only [ek, ↓reduceIte]; exact x3 k (by omega)⟩
            refine ⟨a, x', fun d K => ?_, i2, fun z hz => ?_⟩
            · rw [← i1 d K, c66]
              simp +decide only [EX9_planElement, BX9_planElement_19, BX9_planElement_24, BX9_planElement_48, BX9_planElement_70, EX9_isBlockLength, EX4_putOn, BX4_putOn_21, BX4_putOn_31, BX4_putOn_41, BX4_putOn_49, EX1_take, BX1_take_10, BX9_plan_95 h.1, Option.toList_some, Option.toList_none, List.cons_append, List.nil_append, Nat.zero_add, Nat.reduceAdd, Option.some.injEq, Value.int.injEq, exists_eq_left', true_and, and_true, true_or, or_true, false_or, g_10, ↓reduceIte, g_up_d, Nat.reduceEqDiff, h.1, h.2, hNow h, hReg h, hGrd h, hBlk h, hTgo h, hWlk h, hPln h, hTap h, hHol h, hTg, c1, c2, c3, pi, gAns, vm, x2, m6, m7, m8, ff, nI_1]
            · have hz2 : pT σ (g_fl (g_up (g_up (g_up x 93 M (nI c)) 94 M (nI n)) 92 0 (nI (M + 1))) 74 c n 30) (g_up (g_fl z 109 c n 0) 111 M (nI (100 * c + n))) l q (M + 1) := by
                refine ⟨fun b h1 h2 h3 => by rw [g_up_o h3, g_fl_o h2]; exact hz.1 b h1 h2 h3, fun b h1 h2 => ?_, fun k hk => ?_⟩
                · simp only [g_fl_d, g_up_d, Nat.reduceEqDiff, ↓reduceIte]
                  by_cases hb : c ≤ b ∧ b < c + n
                  · simp +decide [hb]
                  · simp only [hb, ↓reduceIte]; exact hz.2.1 b h1 h2
                · simp only [g_fl_d, g_up_d, Nat.reduceEqDiff, ↓reduceIte]
                  by_cases ek : k = M
                  · simp only [ek, ↓reduceIte]; exact Or.inr ⟨c, n, rfl, rfl, hn, hn2, by omega, rfl⟩
                  · simp only [ek, ↓reduceIte]; exact hz.2.2 k (by omega)
              obtain ⟨z', j1, j2, j3⟩ := i3 _ hz2
              · refine ⟨z', j1, fun b hb => by rw [j2 b hb, g_up_o (by omega), g_fl_o (by omega)], fun d w5 w6 K => ?_⟩
                have pl := pl z hz
                rw [hp] at pl
                rw [z54 z hz]
                have := fun (d : Nat) (K : gK) => fills_eq (G := G) (d := d) (K := K) h (z := z) (c := c) (n := n) (w := 0) (by omega)
                have e7 : (100 : Int32) * nI c + nI n = nI (100 * c + n) := hnd
                simp +decide only [c0, c3, pl, gAns, cn, m7, m8, e7, BX10_plan_100 h.2, BX10_plan_119 h.2, this, Option.toList_some, Option.toList_none, List.cons_append, List.nil_append, Nat.zero_add, Nat.reduceAdd, Option.some.injEq, Value.int.injEq, exists_eq_left', true_and, and_true, true_or, or_true, false_or, g_10, ↓reduceIte, nI_1]
                exact j3 _ _ _ _
theorem op_plan (h : gOK G) (hB : B < 1000000) (hR : wRel B σ) (a b : Int32) : gOp G (d + 5) B mX9_plan mX10_plan [.int a, .int b] σ := by
  unfold gOp
  rcases pk_ix a (n := 6) (by decide) with h1 | h1 | ⟨j, hj, rfl⟩
  · simp only [EX9_plan, BX9_plan_4, BX9_plan_18, BX9_plan_31, BX9_plan_55, BX9_plan_91, BX9_plan_95, BX10_plan_5, BX10_plan_13, BX10_plan_49, BX10_plan_100, BX10_plan_119, BX10_plan_151, BX10_plan_161, BX10_plan_207, EX9_isHolder, EX10_plan, isH_eq h, Option.toList_some, Option.toList_none, List.cons_append, List.nil_append, Nat.zero_add, Nat.reduceAdd, Option.some.injEq, Value.int.injEq, exists_eq_left', true_and, and_true, true_or, or_true, false_or, g_10, ↓reduceIte, h.1, h.2, hNow h, hReg h, hGrd h, hBlk h, hTgo h, hWlk h, hPln h, hTap h, hHol h, h1]
    exact wRel_up hR (by omega)
  · obtain ⟨e1, e2, e3⟩ := g_ge (n := 5) (by decide) h1
    have e2 : ¬ a < 6 := e2
    simp only [EX9_plan, BX9_plan_4, BX9_plan_18, BX9_plan_31, BX9_plan_55, BX9_plan_91, BX9_plan_95, BX10_plan_5, BX10_plan_13, BX10_plan_49, BX10_plan_100, BX10_plan_119, BX10_plan_151, BX10_plan_161, BX10_plan_207, EX9_isHolder, EX10_plan, isH_eq h, Option.toList_some, Option.toList_none, List.cons_append, List.nil_append, Nat.zero_add, Nat.reduceAdd, Option.some.injEq, Value.int.injEq, exists_eq_left', true_and, and_true, true_or, or_true, false_or, g_10, ↓reduceIte, h.1, h.2, hNow h, hReg h, hGrd h, hBlk h, hTgo h, hWlk h, hPln h, hTap h, hHol h, e1, e2]
    exact wRel_up hR (by omega)
  obtain ⟨e1, e2, e3, e4, e5⟩ := g_ix (n := 5) hj (by decide)
  have e2 : nI j < 6 := e2
  rcases reg_cases hR b with (c | ⟨c, c2⟩) | ⟨r, hr, rfl, c, c2⟩
  · simp only [EX9_plan h.1, EX10_plan h.2, BX9_plan_4 h.1, BX9_plan_18 h.1, BX10_plan_5 h.2, BX10_plan_13 h.2, EX9_isHolder, isH_eq h, has_eq h hR, isReg_eq h hR rfl, Option.toList_some, Option.toList_none, List.cons_append, List.nil_append, Nat.zero_add, Nat.reduceAdd, Option.some.injEq, Value.int.injEq, exists_eq_left', true_and, and_true, true_or, or_true, false_or, g_10, ↓reduceIte, h.1, h.2, hNow h, hReg h, hGrd h, hBlk h, hTgo h, hWlk h, hPln h, hTap h, hHol h, e1, e2, c]
    exact wRel_up hR (by omega)
  · simp only [EX9_plan h.1, EX10_plan h.2, BX9_plan_4 h.1, BX9_plan_18 h.1, BX10_plan_5 h.2, BX10_plan_13 h.2, EX9_isHolder, isH_eq h, has_eq h hR, isReg_eq h hR rfl, Option.toList_some, Option.toList_none, List.cons_append, List.nil_append, Nat.zero_add, Nat.reduceAdd, Option.some.injEq, Value.int.injEq, exists_eq_left', true_and, and_true, true_or, or_true, false_or, g_10, ↓reduceIte, h.1, h.2, hNow h, hReg h, hGrd h, hBlk h, hTgo h, hWlk h, hPln h, hTap h, hHol h, e1, e2, c, c2]
    exact wRel_up hR (by omega)
  obtain ⟨q1, q2, q3, q4⟩ := hR.2.2.2 j hj
  by_cases cr : σ 100 j = 2
  case neg =>
    by_cases c0 : σ 100 j = 0
    · simp +decide only [EX9_plan h.1, EX10_plan h.2, BX9_plan_4 h.1, BX9_plan_18 h.1, BX9_plan_31 h.1, BX10_plan_5 h.2, BX10_plan_13 h.2, EX9_isHolder, EX2_faultAsRow, isH_eq h, has_eq h hR, isReg_eq h hR rfl, Option.toList_some, Option.toList_none, List.cons_append, List.nil_append, Nat.zero_add, Nat.reduceAdd, Option.some.injEq, Value.int.injEq, exists_eq_left', true_and, and_true, true_or, or_true, false_or, g_10, ↓reduceIte, h.1, h.2, hNow h, hReg h, hGrd h, hBlk h, hTgo h, hWlk h, hPln h, hTap h, hHol h, e1, e2, e4, e5, c, c2, cr, c0, q1]
      exact wRel_up hR (by omega)
    · simp +decide only [EX9_plan h.1, EX10_plan h.2, BX9_plan_4 h.1, BX9_plan_18 h.1, BX9_plan_31 h.1, BX10_plan_5 h.2, BX10_plan_13 h.2, EX9_isHolder, EX2_faultAsRow, isH_eq h, has_eq h hR, isReg_eq h hR rfl, Option.toList_some, Option.toList_none, List.cons_append, List.nil_append, Nat.zero_add, Nat.reduceAdd, Option.some.injEq, Value.int.injEq, exists_eq_left', true_and, and_true, true_or, or_true, false_or, g_10, ↓reduceIte, h.1, h.2, hNow h, hReg h, hGrd h, hBlk h, hTgo h, hWlk h, hPln h, hTap h, hHol h, e1, e2, e4, e5, c, c2, cr, c0, q1]
      exact wRel_up hR (by omega)
  obtain ⟨w1, w2, w3⟩ := q4 cr
  obtain ⟨N, hN⟩ : ∃ n, n = gN (σ 102 j) := ⟨_, rfl⟩
  have eN : σ 102 j = nI N := by rw [hN]; exact w2.1
  have hN2 : N ≤ 60 := by rw [hN]; exact w2.2
  rw [← hN] at w3
  obtain ⟨h6, l, q, a1, a2, a3, a4, a5, a6, a7, a8⟩ := rReg hR hr
  have hTg : isX1 G 73 := iX3_3 (hTho h)
  have ca : ∀ (d : Nat) (K : gK), g_inv (gCm' G (d + 1)) mX9_copyAll [.ref 8, .ref 74] σ K = K none (g_ca σ 8 74 240) := fun d K => copyAll_eq (aX1_0 (hGrd h)) (nX1_0 (hGrd h)) (aX1_0 hTg) (nX1_0 hTg) (by decide)
  obtain ⟨x, hx⟩ : ∃ x, x = g_up (g_ca σ 8 74 240) 92 0 0 := ⟨_, rfl⟩
  have x74 : ∀ c, c < 240 → x 74 c = σ 8 c := fun c hc => by rw [hx, g_up_o (by decide), g_ca_s hc]
  obtain ⟨an, x', i1, i2, i3⟩ := plan_lp h hB hR hj hN2 eN (w1.trans eN) w3 hr a1 a2 a5 a7 a8 N 0 0 x (by omega) (by omega) ⟨fun i h1 h2 h3 h4 => by rw [hx, g_up_o h2, g_ca_o h1], by rw [hx, g_up_3]; rfl, fun k hk => by omega⟩
  obtain ⟨z', j1, j2, j3⟩ := i3 (g_ln x' σ) ⟨fun i h1 h2 h3 => by rw [g_ln_o h2]; exact i2 i (by omega) (by omega) (by omega) (by omega), fun c h1 h2 => by rw [x74 c (by omega)]; exact ln_free hR hr (by rw [a3]; exact h1) (by rw [a3, a4]; exact h2), fun k hk => by omega⟩
  have hl : ∀ (d : Nat) (K : gK), g_inv (gCm' G (d + 2)) mX10_laid [.ref 104] x' K = K none (g_ln x' σ) := fun d K => laid_eq h hR (i2 105 (by decide) (by decide) (by decide) (by decide))
  have cls : ∀ K : gK, g_inv (gCm' G (d + 5)) mX9_plan [.ref 0, .int (nI j), .int (nI r)] σ K = K (some (.int an)) x' := fun K => by
    rw [← i1 d K, hx]
    simp only [EX9_plan h.1, BX9_plan_4 h.1, BX9_plan_18 h.1, BX9_plan_31 h.1, BX9_plan_55 h.1, EX9_isHolder, EX2_faultAsRow, EX1_copyFrom, BX1_copyFrom_11, hTg, has_eq h hR, ca, Option.toList_some, Option.toList_none, List.cons_append, List.nil_append, Nat.zero_add, Nat.reduceAdd, Option.some.injEq, Value.int.injEq, exists_eq_left', true_and, and_true, true_or, or_true, false_or, g_10, ↓reduceIte, h.1, h.2, hNow h, hReg h, hGrd h, hBlk h, hTgo h, hWlk h, hPln h, hTap h, hHol h, e1, e2, e4, e5, c, c2, cr]
    rfl
  rw [cls]
  refine ⟨_, rfl, ?_⟩
  have k5 : x' 105 = σ 105 := i2 105 (by decide) (by decide) (by decide) (by decide)
  have k115 : x' 115 j = 2 := by rw [i2 115 (by decide) (by decide) (by decide) (by decide), q1]; exact cr
  simp only [EX10_plan h.2, BX10_plan_5 h.2, BX10_plan_13 h.2, BX10_plan_49 h.2, isH_eq h, isReg_eq h hR k5, hl, Option.toList_some, Option.toList_none, List.cons_append, List.nil_append, Nat.zero_add, Nat.reduceAdd, Option.some.injEq, Value.int.injEq, exists_eq_left', true_and, and_true, true_or, or_true, false_or, g_10, ↓reduceIte, h.1, h.2, hNow h, hReg h, hGrd h, hBlk h, hTgo h, hWlk h, hPln h, hTap h, hHol h, e1, e2, e4, e5, c, c2, k115]
  rw [show (0 : Int32) = nI 0 from rfl, j3]
  refine ⟨rfl, wRel_sc hR (by omega) (fun i h1 h2 => ?_) (j1 105 (by decide) (by decide) (by decide)) (fun i hi => ?_) ?_ ?_ ?_⟩
  · rw [j2 i (by omega), g_ln_o (by omega)]; exact i2 i (by omega) (by omega) (by omega) (by omega)
  · unfold gRl at hi
    by_cases hi2 : i < 104
    · rw [j2 i hi2, g_ln_o (by omega)]; exact i2 i (by omega) (by omega) (by omega) (by omega)
    · exact j1 i (by omega) (by omega) (by omega)
  · rw [j2 95 (by decide), g_ln_o (by decide), i2 95 (by decide) (by decide) (by decide) (by decide)]
  · rw [j1 104 (by decide) (by decide) (by decide)]
  · rw [j1 104 (by decide) (by decide) (by decide)]
end O38
