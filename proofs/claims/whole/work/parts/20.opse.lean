section O20
variable {G : gG} {d B : Nat} {σ : gM} {K : gK}
theorem gcm_fr {a b i : Nat} (h : i < a ∨ a + 22 ≤ i) : gcm_19 σ a b i = σ i := by
  simp (disch := omega) only [gcm_0, gcm_1, gcm_2, gcm_3, gcm_4, gcm_5, gcm_6, gcm_7, gcm_8, gcm_9, gcm_10, gcm_11, gcm_12, gcm_13, gcm_14, gcm_15, gcm_16, gcm_17, gcm_18, gcm_19, g_ca_o, g_up_o]
theorem gMem_k {σ : gM} {b k j : Nat} (hk : k < 22) : gMem σ b k j = σ (b + k) j := by
  unfold gMem; rw [if_pos hk]
set_option maxHeartbeats 4000000 in
theorem gcm_ir {a b : Nat} (h : a + 22 ≤ b ∨ b + 22 ≤ a) : gIR (gMem (gcm_19 σ a b) a) (gMem σ b) := by
  refine ⟨⟨?_, ?_, ?_⟩, fun j hj => ⟨?_, ?_⟩, fun j hj => ⟨?_, ?_, ?_, ?_⟩, fun j hj => ⟨?_, ?_, ?_, ?_, ?_, ?_, ?_, ?_, ?_, ?_⟩, fun j hj => ?_⟩ <;>
  · rw [gMem_k (by decide), gMem_k (by decide)]
    simp (disch := omega) only [gcm_0, gcm_1, gcm_2, gcm_3, gcm_4, gcm_5, gcm_6, gcm_7, gcm_8, gcm_9, gcm_10, gcm_11, gcm_12, gcm_13, gcm_14, gcm_15, gcm_16, gcm_17, gcm_18, gcm_19, g_ca_o, g_up_o, g_ca_s, g_up_3, Nat.add_zero]
theorem take_eq {s t n : Nat} (h0 : (G s).1 = 11) (m0 : (G s).2.1 = 607) (h1 : (G t).1 = 11) (m1 : (G t).2.1 = 607) (hst : s ≠ t) : g_inv (gCm' G (d + 1)) mX10_take [.ref s, .ref t] σ K = K none (g_ca σ s t 607) := by
  rw [EX10_take h0 m0 h1 m1]
  have key := g_for (W := fun i (z : gM) => gw (gCm' G d) G mX10_take K 2 [.ref s, .ref t, .int (nI i)] [] z) (R := fun z => K none z) (F := fun i z => g_up z t i (z s i)) (L := 607) (fun i hi z => ?_) (fun z => ?_) σ
  · refine Eq.trans key ?_
    congr 1
    have : ∀ k, gFold (fun i (z : gM) => g_up z t i (z s i)) k σ = g_ca σ s t k := by
      intro k
      induction k with
      | zero => funext b j; simp [gFold, g_ca]
      | succ k ih =>
        show g_up (gFold _ k σ) t k (gFold _ k σ s k) = _
        rw [ih]
        funext b j
        unfold g_up g_ca
        by_cases e : b = t
        · by_cases e2 : j = k
          · simp [e, e2, hst]
          · have : j < k ↔ j < k + 1 := by omega
            simp [e, e2, this]
        · simp [e]
    exact this 607
  · rw [BX10_take_2 h0 m0 h1 m1]
    have g2 : nI i < 607 := nI_lt (b := 607) hi (by decide)
    have g3 : vp_in (nI i) 607 := vp_in_nI hi (by decide)
    have g4 : (nI i).toNatClampNeg = i := nI_clamp (by omega)
    simp only [g2, g3, g4, Option.toList_some, Option.toList_none, List.cons_append, List.nil_append, Nat.zero_add, Nat.reduceAdd, Option.some.injEq, Value.int.injEq, exists_eq_left', true_and, and_true, true_or, or_true, false_or, g_10, ↓reduceIte, nI_1]
  · rw [BX10_take_2 h0 m0 h1 m1]
    simp only [show ¬ nI 607 < 607 by decide, Option.toList_some, Option.toList_none, List.cons_append, List.nil_append, Nat.zero_add, Nat.reduceAdd, Option.some.injEq, Value.int.injEq, exists_eq_left', true_and, and_true, true_or, or_true, false_or, g_10, ↓reduceIte]
theorem gMany_c {σ' : gM} {w : Int32} (h : ∀ s, s < 30 → σ' 11 s = σ 11 s) : gMany σ' w = gMany σ w := gFold_congr (fun i hi a => by rw [h i hi]) 0
theorem op_image (h : gOK G) (hB : B < 1000000) (hR : wRel B σ) (hm : σ 126 0 = 0) : gOp G (d + 4) B mX9_image mX10_image [] σ := by
  unfold gOp
  have e1 : isX3 G 1 := hNow h
  have e2 := hKep h
  have f0 : ∀ i, (i < 23 ∨ 45 ≤ i) → gcm_19 σ 23 1 i = σ i := fun i hi => gcm_fr (by omega)
  have hm1 : gMany (g_up (gcm_19 σ 23 1) 0 8 1) 1 = gMany σ 1 := gMany_c fun s hs => by rw [g_up_o (by decide), f0 11 (by decide)]
  have hq : ∀ z : gM, z 105 = σ 105 → ∀ K, g_inv (gCm' G (d + 3)) mX10_liveMany [.ref 104, .int (-1)] z K = K (some (.int (gMany σ 1))) z := fun z hz K => liveMany_eq h hR hz
  have t1 : ∀ z K, g_inv (gCm' G (d + 3)) mX10_take [.ref 105, .ref 108] z K = K none (g_ca z 105 108 607) := fun z K => take_eq (n := 0) (aX10_0 h.2) (nX10_0 h.2) (aX10_3 h.2) (nX10_3 h.2) (by decide)
  have hz : (g_up (g_ca (g_up (gcm_19 σ 23 1) 0 8 1) 105 108 607) 104 4 1) 105 = σ 105 := by
    rw [g_up_o (by decide), g_ca_o (by decide), g_up_o (by decide), f0 105 (by decide)]
  simp only [EX9_image, BX9_image_11, BX9_image_16, BX9_image_27, EX10_image, BX10_image_11, BX10_image_16, BX10_image_21, Option.toList_some, Option.toList_none, List.cons_append, List.nil_append, Nat.zero_add, Nat.reduceAdd, Option.some.injEq, Value.int.injEq, exists_eq_left', true_and, and_true, true_or, or_true, false_or, g_10, ↓reduceIte, h.1, h.2, hNow h, hReg h, hGrd h, hBlk h, hTgo h, hWlk h, hPln h, hTap h, hHol h, copyFrom_eq e2 e1, many_eq h, hm1, t1, hq _ hz]
  have fr : ∀ i, i ≠ 0 → (i < 23 ∨ 45 ≤ i) → i ≠ 104 → i ≠ 108 → (g_up (g_ca (g_up (gcm_19 σ 23 1) 0 8 1) 105 108 607) 104 4 1) i = σ i := fun i h1 h2 h3 h4 => by
    rw [g_up_o (by omega), g_ca_o (by omega), g_up_o (by omega), f0 i h2]
  obtain ⟨a, ⟨k1, k2, k3⟩, t, q⟩ := hR
  refine ⟨?_, ⟨?_, ?_, fun _ => ?_⟩, ?_, fun x hx => ?_⟩
  · rw [gMem_fl (σ := σ) (fun i h1 h2 => fr i (by omega) (by omega) (by omega) (by omega)), fr 105 (by decide) (by decide) (by decide) (by decide)]
    exact wMem_up a (by omega)
  · rw [g_up_3, g_up_o (by decide), g_ca_o (by decide), g_up_3]
  · rw [g_up_o (by decide), g_ca_o (by decide), g_up_3]; exact Or.inr rfl
  · refine wMem_ir (m := gMem σ 1) (g := σ 105) ?_ (fun i hi => ?_) (wMem_up a (by omega))
    · have := gcm_ir (σ := σ) (a := 23) (b := 1) (by decide)
      rw [gMem_fl (σ := gcm_19 σ 23 1) (fun i h1 h2 => by rw [g_up_o (by omega), g_ca_o (by omega), g_up_o (by omega)])]
      exact this
    · rw [g_up_o (by decide), g_ca_s hi, g_up_o (by decide), f0 105 (by decide)]
  · obtain ⟨⟨t1, -⟩, t2, t3⟩ := t
    have t1 := t1 hm
    refine ⟨⟨fun _ => ?_, fun z => ?_⟩, ?_, fun i hi => ?_⟩
    · rw [g_up_2 (by decide), g_ca_o (by decide), g_up_o (by decide), f0 104 (by decide), fr 95 (by decide) (by decide) (by decide) (by decide)]; exact t1
    · rw [fr 126 (by decide) (by decide) (by decide) (by decide), hm] at z; exact absurd z (by decide)
    · rw [fr 95 (by decide) (by decide) (by decide) (by decide)]; exact t2
    · rw [fr 114 (by decide) (by decide) (by decide) (by decide), fr 96 (by decide) (by decide) (by decide) (by decide)]; exact t3 i hi
  · have := q x hx
    rw [fr 115 (by decide) (by decide) (by decide) (by decide), fr 100 (by decide) (by decide) (by decide) (by decide), fr 116 (by decide) (by decide) (by decide) (by decide), fr 101 (by decide) (by decide) (by decide) (by decide), fr 117 (by decide) (by decide) (by decide) (by decide), fr 102 (by decide) (by decide) (by decide) (by decide), fr 103 (by decide) (by decide) (by decide) (by decide), fr (119 + x) (by omega) (by omega) (by omega) (by omega)]
    exact this
theorem op_back (h : gOK G) (hB : B < 1000000) (hR : wRel B σ) : gOp G (d + 4) B mX9_back mX10_back [] σ := by
  unfold gOp
  obtain ⟨a, ⟨k1, k2, k3⟩, t, q⟩ := id hR
  by_cases c : σ 0 8 = 0
  · simp only [EX9_back, BX9_back_21, BX9_back_32, EX10_back, BX10_back_21, BX10_back_26, Option.toList_some, Option.toList_none, List.cons_append, List.nil_append, Nat.zero_add, Nat.reduceAdd, Option.some.injEq, Value.int.injEq, exists_eq_left', true_and, and_true, true_or, or_true, false_or, g_10, ↓reduceIte, h.1, h.2, hNow h, hReg h, hGrd h, hBlk h, hTgo h, hWlk h, hPln h, hTap h, hHol h, c, k1]
    exact wRel_up hR (by omega)
  have c1 := k2.resolve_left c
  have e1 : isX3 G 1 := hNow h
  have e2 := hKep h
  have f0 : ∀ i, (i < 1 ∨ 23 ≤ i) → gcm_19 σ 1 23 i = σ i := fun i hi => gcm_fr (by omega)
  have fr : ∀ i, (i < 1 ∨ 23 ≤ i) → i ≠ 105 → g_ca (gcm_19 σ 1 23) 108 105 607 i = σ i := fun i h1 h2 => by
    rw [g_ca_o (by omega), f0 i h1]
  have hR2 : wRel (B + 1) (g_ca (gcm_19 σ 1 23) 108 105 607) := by
    refine wRel_now hR (by omega) ?_ (fun i hi h1 h2 => fr i (by omega) h2)
    refine wMem_ir (m := gMem σ 23) (g := σ 108) ?_ (fun i hi => ?_) (wMem_up (k3 c1) (by omega))
    · have := gcm_ir (σ := σ) (a := 1) (b := 23) (by decide)
      rw [gMem_fl (σ := gcm_19 σ 1 23) (fun i h1 h2 => by rw [g_ca_o (by omega)])]
      exact this
    · rw [g_ca_s hi, f0 108 (by decide)]
  have hm1 : gMany (gcm_19 σ 1 23) 1 = gMany (g_ca (gcm_19 σ 1 23) 108 105 607) 1 := gMany_c fun s hs => by rw [g_ca_o (by decide)]
  have hq : ∀ K, g_inv (gCm' G (d + 3)) mX10_liveMany [.ref 104, .int (-1)] (g_ca (gcm_19 σ 1 23) 108 105 607) K = K (some (.int (gMany (g_ca (gcm_19 σ 1 23) 108 105 607) 1))) (g_ca (gcm_19 σ 1 23) 108 105 607) := fun K => liveMany_eq h hR2 rfl
  have t1 : ∀ z K, g_inv (gCm' G (d + 3)) mX10_take [.ref 108, .ref 105] z K = K none (g_ca z 108 105 607) := fun z K => take_eq (n := 0) (aX10_3 h.2) (nX10_3 h.2) (aX10_0 h.2) (nX10_0 h.2) (by decide)
  simp only [EX9_back, BX9_back_21, BX9_back_32, EX10_back, BX10_back_21, BX10_back_26, Option.toList_some, Option.toList_none, List.cons_append, List.nil_append, Nat.zero_add, Nat.reduceAdd, Option.some.injEq, Value.int.injEq, exists_eq_left', true_and, and_true, true_or, or_true, false_or, g_10, ↓reduceIte, h.1, h.2, hNow h, hReg h, hGrd h, hBlk h, hTgo h, hWlk h, hPln h, hTap h, hHol h, copyFrom_eq e1 e2, many_eq h, t1, f0 104 (by decide), k1, c, hm1, hq]
  exact hR2
end O20
