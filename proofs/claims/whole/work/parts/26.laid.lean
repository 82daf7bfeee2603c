theorem gFold_fl {z : gM} {a l : Nat} {v : Int32} : ∀ n, gFold (fun i (y : gM) => g_up y a (l + i) v) n z = g_fl z a l n v
  | 0 => by
    funext b j
    have : ¬ (b = a ∧ l ≤ j ∧ j < l + 0) := by omega
    show z b j = g_fl z a l 0 v b j
    unfold g_fl; rw [if_neg this]
  | n + 1 => by
    show g_up (gFold _ n z) a (l + n) v = _
    rw [gFold_fl n]
    funext b j
    unfold g_up g_fl
    by_cases e : b = a
    · by_cases e2 : j = l + n
      · simp [e, e2]
      · have : (l ≤ j ∧ j < l + n) ↔ (l ≤ j ∧ j < l + (n + 1)) := by omega
        simp [e, e2, this]
    · simp [e]
theorem g_fl_2 {z : gM} {a m q : Nat} {v : Int32} : g_fl (g_fl z a 0 m v) a m q v = g_fl z a 0 (m + q) v := by
  funext b j
  unfold g_fl
  by_cases e : b = a
  · by_cases e1 : j < m
    · have h1 : j < 0 + m := by omega
      have h2 : j < 0 + (m + q) := by omega
      simp [e, e1]; intro h; omega
    · by_cases e2 : j < m + q
      · have h2 : m ≤ j := by omega
        simp [e, e2, h2]
      · simp [e, e1, e2]
  · simp [e]
section O26
variable {G : gG} {d B : Nat} {σ : gM} {K : gK}
/-- what of a state the relation speaks of, beside the memory -/
def gRl (i : Nat) : Prop := i = 0 ∨ (23 ≤ i ∧ i < 67) ∨ (95 ≤ i ∧ i < 99) ∨ (100 ≤ i ∧ i < 105) ∨ i = 107 ∨ i = 108 ∨ (114 ≤ i ∧ i < 127 ∧ i ≠ 118) ∨ (200 ≤ i ∧ i < 400)
theorem wRel_fr {B' : Nat} {σ' : gM} (h : wRel B σ) (hB : B ≤ B') (hm : wMem B' (gMem σ' 1) (σ' 105)) (ho : ∀ i, gRl i → σ' i = σ i) (h1 : σ' 95 0 = σ 95 0) (h2 : σ' 104 4 = σ 104 4) (h3 : σ' 104 11 = σ 104 11) : wRel B' σ' := by
  obtain ⟨-, ⟨k1, k2, k3⟩, t, q⟩ := h
  have h0 : σ' 0 = σ 0 := ho 0 (Or.inl rfl)
  refine ⟨hm, ⟨by rw [h2, h0]; exact k1, by rw [h0]; exact k2, fun z => ?_⟩, ?_, fun x hx => ?_⟩
  · rw [h0] at z
    rw [gMem_fl (σ := σ) (fun i h1 h2 => ho i (by unfold gRl; omega)), ho 108 (by unfold gRl; omega)]
    exact wMem_up (k3 z) hB
  · obtain ⟨⟨t0, tg⟩, t⟩ := t
    unfold wTape wGh
    rw [h1, h3, ho 96 (by unfold gRl; omega), ho 114 (by unfold gRl; omega), ho 126 (by unfold gRl; omega)]
    refine ⟨⟨t0, fun z i hi => ?_⟩, t⟩
    have hi2 := hi
    unfold wF at hi2
    rw [ho i (by unfold gRl; omega), ho (200 + i) (by unfold gRl; omega)]
    exact tg z i hi
  · have := q x hx
    rw [ho 115 (by unfold gRl; omega), ho 100 (by unfold gRl; omega), ho 116 (by unfold gRl; omega), ho 101 (by unfold gRl; omega), ho 117 (by unfold gRl; omega), ho 102 (by unfold gRl; omega), ho 103 (by unfold gRl; omega), ho (119 + x) (by unfold gRl; omega)]
    exact this
/-- a state that differs in scratch alone -/
theorem wRel_sc {B' : Nat} {σ' : gM} (h : wRel B σ) (hB : B ≤ B') (hm : ∀ i, 1 ≤ i → i < 23 → σ' i = σ i) (h5 : σ' 105 = σ 105) (ho : ∀ i, gRl i → σ' i = σ i) (h1 : σ' 95 0 = σ 95 0) (h2 : σ' 104 4 = σ 104 4) (h3 : σ' 104 11 = σ 104 11) : wRel B' σ' :=
  wRel_fr h hB (by rw [gMem_fl (σ := σ) (fun i h1 h2 => hm i (by omega) (by omega)), h5]; exact wMem_up h.1 hB) ho h1 h2 h3
/-- what lies in a cell -/
def gLain (σ : gM) (c : Nat) : Int32 := if σ 8 c = -1 then (if c < gEnd σ (gN (σ 3 0)) then 100 else 101) else σ 8 c
def g_ln (z σ : gM) : gM := fun b j => if b = 109 ∧ j < 240 then gLain σ j else z b j
theorem g_ln_o {z : gM} {i : Nat} (h : i ≠ 109) : g_ln z σ i = z i := by
  funext j; simp [g_ln, h]
theorem rGrd (hR : wRel B σ) {c : Nat} (hc : c < 240) : (σ 8 c = -1 ∨ ∃ s, s < 30 ∧ σ 11 s ≠ 0 ∧ σ 8 c = nI s) ∧ ∀ s, s < 30 → σ 11 s ≠ 0 → ((gN (σ 12 s) ≤ c ∧ c < gN (σ 12 s) + gN (σ 13 s)) ↔ σ 8 c = nI s) := hR.1.1.2.2.1 c hc
theorem laid_eq (h : gOK G) (hR : wRel B σ) {z : gM} (hz : z 105 = σ 105) : g_inv (gCm' G (d + 2)) mX10_laid [.ref 104] z K = K none (g_ln z σ) := by
  obtain ⟨n, hn⟩ : ∃ n, n = gN (σ 3 0) := ⟨_, rfl⟩
  have en : σ 3 0 = nI n := by rw [hn]; exact hR.1.1.1.1.1
  have n6 : n ≤ 6 := by rw [hn]; exact hR.1.1.1.1.2
  have hend := gEnd_le hR (k := n) (by omega)
  have p1 : ∀ v : Value, gw (gCm' G (d + 1)) G mX10_laid K 2 [.ref 104, .int 0, v] [] z = gw (gCm' G (d + 1)) G mX10_laid K 25 [.ref 104, .int 0, v] [] (g_fl z 109 0 240 101) := fun v => by
    refine Eq.trans (g_for (W := fun i (y : gM) => gw (gCm' G (d + 1)) G mX10_laid K 2 [.ref 104, .int (nI i), v] [] y) (R := fun y => gw (gCm' G (d + 1)) G mX10_laid K 25 [.ref 104, .int 0, v] [] y) (F := fun i y => g_up y 109 (0 + i) 101) (L := 240) (fun i hi y => ?_) (fun y => ?_) z) (by rw [gFold_fl])
    · rw [BX10_laid_2 h.2]
      have g2 : nI i < 240 := nI_lt (b := 240) hi (by decide)
      have g3 : vp_in (nI i) 240 := vp_in_nI hi (by decide)
      have g4 : (nI i).toNatClampNeg = i := nI_clamp (by omega)
      simp only [g2, g3, g4, Option.toList_some, Option.toList_none, List.cons_append, List.nil_append, Nat.zero_add, Nat.reduceAdd, Option.some.injEq, Value.int.injEq, exists_eq_left', true_and, and_true, true_or, or_true, false_or, g_10, ↓reduceIte, nI_1]
    · rw [BX10_laid_2 h.2]
      simp only [show ¬ nI 240 < 240 by decide, Option.toList_some, Option.toList_none, List.cons_append, List.nil_append, Nat.zero_add, Nat.reduceAdd, Option.some.injEq, Value.int.injEq, exists_eq_left', true_and, and_true, true_or, or_true, false_or, g_10, ↓reduceIte]
  have p2 : ∀ k, k ≤ n → ∃ v : Value, gw (gCm' G (d + 1)) G mX10_laid K 25 [.ref 104, .int 0, .long 0] [] (g_fl z 109 0 240 101) = gw (gCm' G (d + 1)) G mX10_laid K 25 [.ref 104, .int (nI k), v] [] (g_fl (g_fl z 109 0 240 101) 109 0 (gEnd σ k) 100) := by
    intro k
    induction k with
    | zero =>
      intro _
      refine ⟨.long 0, ?_⟩
      have : g_fl (g_fl z 109 0 240 101) 109 0 (gEnd σ 0) 100 = g_fl z 109 0 240 101 := (gFold_fl 0).symm
      rw [this]; rfl
    | succ k ih =>
      intro hk
      obtain ⟨v, ih⟩ := ih (by omega)
      obtain ⟨s1, s2, s3⟩ := gEnd_s hR (k := k) (by omega)
      have hek := gEnd_le hR (k := k + 1) (by omega)
      obtain ⟨h6, l, q, a1, a2, a3, a4, a5, a6, a7, a8⟩ := rReg hR (r := k) (by omega)
      refine ⟨.int (nI q), ?_⟩
      rw [ih, BX10_laid_25 h.2]
      have y5 : ∀ y : gM, (∀ i, i ≠ 109 → y i = z i) → y 105 = σ 105 := fun y hy => by rw [hy 105 (by decide), hz]
      have g1 : nI k < nI n := nI_lt (by omega) (by omega)
      simp only [g_fl_o (show (105 : Nat) ≠ 109 by decide), hz, vp570, cl570, r570 hR, en, g1, Option.toList_some, Option.toList_none, List.cons_append, List.nil_append, Nat.zero_add, Nat.reduceAdd, Option.some.injEq, Value.int.injEq, exists_eq_left', true_and, and_true, true_or, or_true, false_or, g_10, ↓reduceIte]
      have ea : (571 : Int32) + nI k = nI (571 + k) := nI_add 571 k
      have eb : (577 : Int32) + nI k = nI (577 + k) := nI_add 577 k
      have ec : vp_in (nI (571 + k)) 607 := vp_c (by omega)
      have ed : (nI (571 + k)).toNatClampNeg = 571 + k := nI_clamp (by omega)
      have ee : vp_in (nI (577 + k)) 607 := vp_c (by omega)
      have ef : (nI (577 + k)).toNatClampNeg = 577 + k := nI_clamp (by omega)
      have key : ∀ i, i ≤ q → ∀ y : gM, y 105 = σ 105 → gw (gCm' G (d + 1)) G mX10_laid K 39 [.ref 104, .int (nI k), .int 0] [] y = gw (gCm' G (d + 1)) G mX10_laid K 39 [.ref 104, .int (nI k), .int (nI i)] [] (gFold (fun i (y : gM) => g_up y 109 (l + i) 100) i y) := by
        intro i
        induction i with
        | zero => intro _ y _; rfl
        | succ i ih2 =>
          intro hi y hy
          have hy2 : (gFold (fun i (y : gM) => g_up y 109 (l + i) 100) i y) 105 = σ 105 := by rw [gFold_fl, g_fl_o (by decide), hy]
          rw [ih2 (by omega) y hy, BX10_laid_39 h.2]
          have g2 : nI i < nI q := nI_lt (by omega) (by omega)
          have g3 : vp_in (nI (l + i)) 240 := vp_in_nI (by omega) (by decide)
          have g4 : (nI (l + i)).toNatClampNeg = l + i := nI_clamp (by omega)
          simp only [ea, eb, ec, ed, ee, ef, hy2, r577 hR _ h6, r571 hR _ h6, a1, a2, g2, nI_add, g3, g4, nI_1, Option.toList_some, Option.toList_none, List.cons_append, List.nil_append, Nat.zero_add, Nat.reduceAdd, Option.some.injEq, Value.int.injEq, exists_eq_left', true_and, and_true, true_or, or_true, false_or, g_10, ↓reduceIte]
          rfl
      rw [key q (Nat.le_refl _) _ (by rw [g_fl_o (by decide), g_fl_o (by decide), hz]), BX10_laid_39 h.2, gFold_fl]
      simp only [eb, ee, ef, g_fl_o (show (105 : Nat) ≠ 109 by decide), hz, r577 hR _ h6, a2, show ¬ nI q < nI q from nI_nlt (Nat.le_refl _) (by omega), nI_1, Option.toList_some, Option.toList_none, List.cons_append, List.nil_append, Nat.zero_add, Nat.reduceAdd, Option.some.injEq, Value.int.injEq, exists_eq_left', true_and, and_true, true_or, or_true, false_or, g_10, ↓reduceIte]
      have : l = gEnd σ k := by omega
      rw [this, g_fl_2, show gEnd σ k + q = gEnd σ (k + 1) by omega]
  obtain ⟨v2, p2⟩ := p2 n (Nat.le_refl _)
  obtain ⟨S, hS⟩ : ∃ S : Nat → gM, S = fun k b j => if b = 109 ∧ j < 240 then (if ¬ σ 8 j = -1 ∧ gN (σ 8 j) < k then σ 8 j else if j < gEnd σ n then 100 else 101) else z b j := ⟨_, rfl⟩
  have S0 : g_fl (g_fl z 109 0 240 101) 109 0 (gEnd σ n) 100 = S 0 := by
    rw [hS]
    funext b j
    unfold g_fl
    by_cases e : b = 109
    · by_cases e1 : j < gEnd σ n
      · have : j < 240 := by omega
        simp [e, e1, this]
      · by_cases e2 : j < 240
        · simp [e, e1, e2]
        · simp [e, e1, e2]
    · simp [e]
  have S5 : ∀ k, S k 105 = σ 105 := fun k => by rw [hS, ← hz]; funext j; simp
  have p3 : ∀ k, k ≤ 30 → ∃ v : Value, gw (gCm' G (d + 1)) G mX10_laid K 86 [.ref 104, .int 0, v2] [] (S 0) = gw (gCm' G (d + 1)) G mX10_laid K 86 [.ref 104, .int (nI k), v] [] (S k) := by
    intro k
    induction k with
    | zero => intro _; exact ⟨v2, rfl⟩
    | succ k ih =>
      intro hk
      obtain ⟨v, ih⟩ := ih (by omega)
      have hk30 : k < 30 := by omega
      have g1 : nI k < 30 := nI_lt (b := 30) hk30 (by decide)
      by_cases hl : σ 11 k = 0
      · have SS : S k = S (k + 1) := by
          rw [hS]
          funext b j
          by_cases e : b = 109 ∧ j < 240
          · simp only [e, and_self, ↓reduceIte]
            rcases (rGrd hR e.2).1 with q | ⟨s, hs, q1, q2⟩
            · simp [q]
            · have hne : s ≠ k := fun z => q1 (by rw [z]; exact hl)
              have : (gN (σ 8 j) < k) = (gN (σ 8 j) < k + 1) := by
                rw [q2, gN_nI (by omega)]; apply propext; omega
              simp only [this]
          · simp only [e, ↓reduceIte]
        refine ⟨.int 0, ?_⟩
        rw [ih, BX10_laid_86 h.2]
        simp only [g1, ↓reduceIte]
        rw [BX10_laid_94 h.2]
        by_cases c : (0 : Int32) < σ 13 k
        · simp only [at_3 h hk30, at_0 h hk30, S5, rs3 hR _ hk30, rs0 hR _ hk30, BX10_laid_101 h.2, BX10_laid_110 h.2, Option.toList_some, Option.toList_none, List.cons_append, List.nil_append, Nat.zero_add, Nat.reduceAdd, Option.some.injEq, Value.int.injEq, exists_eq_left', true_and, and_true, true_or, or_true, false_or, g_10, ↓reduceIte, c, hl, nI_1, SS]
        · simp only [at_3 h hk30, at_0 h hk30, S5, rs3 hR _ hk30, rs0 hR _ hk30, BX10_laid_101 h.2, BX10_laid_110 h.2, Option.toList_some, Option.toList_none, List.cons_append, List.nil_append, Nat.zero_add, Nat.reduceAdd, Option.some.injEq, Value.int.injEq, exists_eq_left', true_and, and_true, true_or, or_true, false_or, g_10, ↓reduceIte, c, hl, nI_1, SS]
      · obtain ⟨l, q, r, o, p, b1, b2, b3, b4, b5, b6, b7, b8, -⟩ := rBlk hR hk30 hl
        have bl : gN (σ 12 k) = l := by rw [b1]; exact gN_nI (by omega)
        have bq : gN (σ 13 k) = q := by rw [b2]; exact gN_nI (by omega)
        refine ⟨.int (nI q), ?_⟩
        rw [ih, BX10_laid_86 h.2]
        simp only [g1, ↓reduceIte]
        have key : ∀ i, i ≤ q → ∀ y : gM, y 105 = σ 105 → gw (gCm' G (d + 1)) G mX10_laid K 94 [.ref 104, .int (nI k), .int 0] [] y = gw (gCm' G (d + 1)) G mX10_laid K 94 [.ref 104, .int (nI k), .int (nI i)] [] (gFold (fun i (y : gM) => g_up y 109 (l + i) (nI k)) i y) := by
          intro i
          induction i with
          | zero => intro _ y _; rfl
          | succ i ih2 =>
            intro hi y hy
            have hy2 : (gFold (fun i (y : gM) => g_up y 109 (l + i) (nI k)) i y) 105 = σ 105 := by rw [gFold_fl, g_fl_o (by decide), hy]
            rw [ih2 (by omega) y hy, BX10_laid_94 h.2]
            have g2 : nI i < nI q := nI_lt (by omega) (by omega)
            have g3 : vp_in (nI (l + i)) 240 := vp_in_nI (by omega) (by decide)
            have g4 : (nI (l + i)).toNatClampNeg = l + i := nI_clamp (by omega)
            simp only [at_3 h hk30, at_0 h hk30, at_2 h hk30, hy2, rs3 hR _ hk30, rs0 hR _ hk30, rs2 hR _ hk30, BX10_laid_101 h.2, BX10_laid_110 h.2, BX10_laid_123 h.2, Option.toList_some, Option.toList_none, List.cons_append, List.nil_append, Nat.zero_add, Nat.reduceAdd, Option.some.injEq, Value.int.injEq, exists_eq_left', true_and, and_true, true_or, or_true, false_or, g_10, ↓reduceIte, b1, b2, g2, hl, nI_add, g3, g4, nI_1]
            rfl
        rw [key q (Nat.le_refl _) _ (S5 k), BX10_laid_94 h.2, gFold_fl]
        simp only [at_3 h hk30, g_fl_o (show (105 : Nat) ≠ 109 by decide), S5, rs3 hR _ hk30, b2, BX10_laid_101 h.2, show ¬ nI q < nI q from nI_nlt (Nat.le_refl _) (by omega), nI_1, Option.toList_some, Option.toList_none, List.cons_append, List.nil_append, Nat.zero_add, Nat.reduceAdd, Option.some.injEq, Value.int.injEq, exists_eq_left', true_and, and_true, true_or, or_true, false_or, g_10, ↓reduceIte]
        have SS : g_fl (S k) 109 l q (nI k) = S (k + 1) := by
          rw [hS]
          funext b j
          unfold g_fl
          by_cases e : b = 109
          · by_cases e2 : j < 240
            · obtain ⟨w1, w2⟩ := rGrd hR e2
              have w3 := w2 k hk30 hl
              rw [bl, bq] at w3
              by_cases e3 : l ≤ j ∧ j < l + q
              · have w4 := w3.mp e3
                have : ¬ nI k = -1 := g_m1 (by omega)
                simp [e, e2, e3, w4, this, gN_nI (show k < 2 ^ 31 by omega)]
              · have w4 : ¬ σ 8 j = nI k := fun z => e3 (w3.mpr z)
                simp only [e, e2, e3, and_self, and_false, ↓reduceIte, true_and]
                rcases w1 with w1 | ⟨s, hs, q1, q2⟩
                · simp [w1]
                · have hne : s ≠ k := fun z => w4 (by rw [q2, z])
                  have : (gN (σ 8 j) < k) = (gN (σ 8 j) < k + 1) := by
                    rw [q2, gN_nI (by omega)]; apply propext; omega
                  simp only [this]
            · have : ¬ (l ≤ j ∧ j < l + q) := by omega
              simp [e, e2, this]
          · simp [e]
        rw [SS]
  obtain ⟨v3, p3⟩ := p3 30 (Nat.le_refl _)
  have SF : S 30 = g_ln z σ := by
    rw [hS]
    funext b j
    unfold g_ln gLain
    by_cases e : b = 109 ∧ j < 240
    · simp only [e, and_self, ↓reduceIte]
      rcases (rGrd hR e.2).1 with q | ⟨s, hs, q1, q2⟩
      · simp [q, hn]
      · have : ¬ nI s = -1 := g_m1 (by omega)
        simp [q2, this, gN_nI (show s < 2 ^ 31 by omega), hs]
    · simp only [e, ↓reduceIte]
  rw [EX10_laid h.2, p1, p2, BX10_laid_25 h.2]
  simp only [g_fl_o (show (105 : Nat) ≠ 109 by decide), hz, vp570, cl570, r570 hR, en, show ¬ nI n < nI n from nI_nlt (Nat.le_refl _) (by omega), Option.toList_some, Option.toList_none, List.cons_append, List.nil_append, Nat.zero_add, Nat.reduceAdd, Option.some.injEq, Value.int.injEq, exists_eq_left', true_and, and_true, true_or, or_true, false_or, g_10, ↓reduceIte]
  rw [S0, p3, BX10_laid_86 h.2]
  simp only [show ¬ nI 30 < 30 by decide, ↓reduceIte, SF]
end O26
