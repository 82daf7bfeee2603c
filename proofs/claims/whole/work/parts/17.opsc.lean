section O17
variable {G : gG} {d B : Nat} {σ : gM}
theorem gMem_fl {σ σ' : gM} {b : Nat} (h : ∀ i, b ≤ i → i < b + 22 → σ' i = σ i) : gMem σ' b = gMem σ b := gMem_eq fun i hi => h _ (by omega) (by omega)
/-- calls that leave the memories as they are -/
theorem wRel_th {B' : Nat} {σ' : gM} (hR : wRel B σ) (hB : B ≤ B') (h0 : σ' 0 = σ 0) (hm : ∀ i, 1 ≤ i → i < 45 → σ' i = σ i) (h5 : σ' 105 = σ 105) (h8 : σ' 108 = σ 108) (h4 : σ' 104 4 = σ 104 4) (ht : wTape σ') (hh : wHold σ') : wRel B' σ' := by
  obtain ⟨a, ⟨k1, k2, k3⟩, -, -⟩ := hR
  refine ⟨?_, ⟨by rw [h4, h0]; exact k1, by rw [h0]; exact k2, fun z => ?_⟩, ht, hh⟩
  · rw [gMem_fl (σ := σ) (fun i h1 h2 => hm i (by omega) (by omega)), h5]; exact wMem_up a hB
  · rw [h0] at z
    rw [gMem_fl (σ := σ) (fun i h1 h2 => hm i (by omega) (by omega)), h8]; exact wMem_up (k3 z) hB
theorem op_feed (h : gOK G) (hB : B < 1000000) (hR : wRel B σ) (hm : σ 126 0 = 0) (a : Int32) : gOp G (d + 3) B mX9_feed mX10_feed [.int a] σ := by
  unfold gOp
  by_cases c1 : a < 0
  · simp only [EX9_feed, BX9_feed_21, EX10_feed, BX10_feed_8, BX10_feed_40, BX10_feed_42, EX10_in, Option.toList_some, Option.toList_none, List.cons_append, List.nil_append, Nat.zero_add, Nat.reduceAdd, Option.some.injEq, Value.int.injEq, exists_eq_left', true_and, and_true, true_or, or_true, false_or, g_10, ↓reduceIte, h.1, h.2, hNow h, hReg h, hGrd h, hBlk h, hTgo h, hWlk h, hPln h, hTap h, hHol h, c1]
    exact wRel_up hR (by omega)
  by_cases c2 : 255 < a
  · simp only [EX9_feed, BX9_feed_21, EX10_feed, BX10_feed_8, BX10_feed_40, BX10_feed_42, EX10_in, Option.toList_some, Option.toList_none, List.cons_append, List.nil_append, Nat.zero_add, Nat.reduceAdd, Option.some.injEq, Value.int.injEq, exists_eq_left', true_and, and_true, true_or, or_true, false_or, g_10, ↓reduceIte, h.1, h.2, hNow h, hReg h, hGrd h, hBlk h, hTgo h, hWlk h, hPln h, hTap h, hHol h, c1, c2]
    exact wRel_up hR (by omega)
  obtain ⟨v, -, hv, rfl⟩ := g_rng (a := 0) (b := 255) (by decide) (by decide) c1 c2
  obtain ⟨⟨t1, -⟩, t2, t3⟩ := hR.2.2.1
  have t1 := t1 hm
  obtain ⟨n, hn⟩ : ∃ n, n = gN (σ 95 0) := ⟨_, rfl⟩
  have en : σ 95 0 = nI n := by rw [hn]; exact t2.1
  have hn2 : n ≤ 120 := by rw [hn]; exact t2.2
  by_cases c3 : n = 120
  · have c4 : σ 95 0 = 120 := by rw [en, c3]; rfl
    simp +decide only [EX9_feed, BX9_feed_21, EX10_feed, BX10_feed_8, BX10_feed_40, BX10_feed_42, EX10_in, EX7_append, BX7_append_21, Option.toList_some, Option.toList_none, List.cons_append, List.nil_append, Nat.zero_add, Nat.reduceAdd, Option.some.injEq, Value.int.injEq, exists_eq_left', true_and, and_true, true_or, or_true, false_or, g_10, ↓reduceIte, g_up_d, Nat.reduceEqDiff, h.1, h.2, hNow h, hReg h, hGrd h, hBlk h, hTgo h, hWlk h, hPln h, hTap h, hHol h, c1, c2, t1, c4]
    exact wRel_up hR (by omega)
  · have hlt : n < 120 := by omega
    have g1 : nI n < 120 := nI_lt (b := 120) hlt (by decide)
    have g2 : ¬ nI n = 120 := fun e => c3 ((nI_eq (b := 120) (by omega) (by decide)).mp e)
    have g3 : vp_in (nI n) 120 := vp_in_nI hlt (by decide)
    have g4 : (nI n).toNatClampNeg = n := nI_clamp (by omega)
    simp only [EX9_feed, BX9_feed_21, EX10_feed, BX10_feed_8, BX10_feed_40, BX10_feed_42, EX10_in, EX7_append, BX7_append_21, Option.toList_some, Option.toList_none, List.cons_append, List.nil_append, Nat.zero_add, Nat.reduceAdd, Option.some.injEq, Value.int.injEq, exists_eq_left', true_and, and_true, true_or, or_true, false_or, g_10, ↓reduceIte, g_up_d, Nat.reduceEqDiff, h.1, h.2, hNow h, hReg h, hGrd h, hBlk h, hTgo h, hWlk h, hPln h, hTap h, hHol h, c1, c2, t1, en, g1, g2, g3, g4, nI_1]
    refine wRel_th hR (by omega) ?_ (fun i h1 h2 => ?_) ?_ ?_ ?_ ⟨⟨fun _ => ?_, fun z => ?_⟩, ?_, fun i hi => ?_⟩ (fun x hx => ?_)
    · rw [g_up_o (by decide), g_up_o (by decide), g_up_o (by decide), g_up_o (by decide)]
    · rw [g_up_o (by omega), g_up_o (by omega), g_up_o (by omega), g_up_o (by omega)]
    · rw [g_up_o (by decide), g_up_o (by decide), g_up_o (by decide), g_up_o (by decide)]
    · rw [g_up_o (by decide), g_up_o (by decide), g_up_o (by decide), g_up_o (by decide)]
    · simp +decide only [g_up_d, Nat.reduceEqDiff, ↓reduceIte]
    · simp +decide only [g_up_d, Nat.reduceEqDiff, ↓reduceIte]
    · rw [g_up_o (by decide), g_up_o (by decide), g_up_o (by decide), g_up_o (by decide), hm] at z
      exact absurd z (by decide)
    · simp +decide only [g_up_d, Nat.reduceEqDiff, ↓reduceIte]
      exact gNn_nI (by omega) (by decide)
    · simp +decide only [g_up_d, Nat.reduceEqDiff, ↓reduceIte]
      by_cases e : i = n
      · subst e
        simp only [↓reduceIte]
        exact ⟨trivial, gNn_nI hv (by decide)⟩
      · simp only [e, ↓reduceIte]
        exact t3 i hi
    · have := hR.2.2.2 x hx
      rw [g_up_o (by decide), g_up_o (by decide), g_up_o (by decide), g_up_o (by decide), g_up_o (by decide), g_up_o (by decide), g_up_o (by decide), g_up_o (by decide), g_up_o (by decide), g_up_o (by decide), g_up_o (by decide), g_up_o (by decide), g_up_o (by decide), g_up_o (by decide), g_up_o (by decide), g_up_o (by decide), g_up_o (by decide), g_up_o (by decide), g_up_o (by decide), g_up_o (by decide), g_up_o (by decide), g_up_o (by decide), g_up_o (by decide), g_up_o (by decide), g_up_o (by omega), g_up_o (by omega), g_up_o (by omega), g_up_o (by omega), g_up_o (by decide), g_up_o (by decide), g_up_o (by decide), g_up_o (by decide)]
      exact this
theorem g_fill_up {σ : gM} {a i : Nat} {v : Int32} (h : i ≠ a) : g_up σ a i v = g_up σ a i v := rfl
def g_fl (σ : gM) (a l n : Nat) (v : Int32) : gM := fun b j => if b = a ∧ l ≤ j ∧ j < l + n then v else σ b j
theorem g_fl_o {σ : gM} {a l n i : Nat} {v : Int32} (h : i ≠ a) : g_fl σ a l n v i = σ i := by
  funext j; simp [g_fl, h]
theorem fill_eq {K : gK} {a n0 l n : Nat} {v : Int32} (h0 : (G a).1 = 11) (m0 : (G a).2.1 = n0) (hn0 : n0 < 2 ^ 30) (hl : l + n ≤ n0) : g_inv (gCm' G (d + 1)) mX9_fill [.ref a, .int (nI l), .int (nI n), .int v] σ K = K none (g_fl σ a l n v) := by
  rw [EX9_fill h0 m0, if_neg (nI_pos (by omega))]
  have key := g_for (W := fun i (s : gM) => gw (gCm' G d) G mX9_fill K 8 [.ref a, .int (nI l), .int (nI n), .int v, .int (nI (l + i))] [] s) (R := fun s => K none s) (F := fun i s => g_up s a (l + i) v) (L := n) (fun i hi s => ?_) (fun s => ?_) σ
  · rw [Nat.add_zero] at key
    rw [key]
    congr 1
    have : ∀ k, k ≤ n → gFold (fun i s => g_up s a (l + i) v) k σ = g_fl σ a l k v := by
      intro k
      induction k with
      | zero => intro _; funext b j; simp [gFold, g_fl]; intro _ h1 h2; omega
      | succ k ih =>
        intro hk
        show g_up (gFold _ k σ) a (l + k) v = _
        rw [ih (by omega)]
        funext b j
        unfold g_up g_fl
        by_cases e : b = a
        · by_cases e2 : j = l + k
          · simp [e, e2]
          · have : (l ≤ j ∧ j < l + k) ↔ (l ≤ j ∧ j < l + (k + 1)) := by omega
            simp [e, e2, this]
        · simp [e]
    exact this n (Nat.le_refl _)
  · rw [BX9_fill_8 h0 m0]
    have g1 : nI (l + i) < nI l + nI n := by rw [nI_add]; exact nI_lt (by omega) (by omega)
    have g2 : nI (l + i) < Int32.ofNat n0 := nI_lt (by omega) (by omega)
    have g3 : vp_in (nI (l + i)) n0 := vp_in_nI (by omega) (by omega)
    have g4 : (nI (l + i)).toNatClampNeg = l + i := nI_clamp (by omega)
    simp only [g1, g2, g3, g4, Option.toList_some, Option.toList_none, List.cons_append, List.nil_append, Nat.zero_add, Nat.reduceAdd, Option.some.injEq, Value.int.injEq, exists_eq_left', true_and, and_true, true_or, or_true, false_or, g_10, ↓reduceIte, nI_1, Nat.add_assoc]
  · rw [BX9_fill_8 h0 m0]
    have g1 : ¬ nI (l + n) < nI l + nI n := by rw [nI_add]; exact nI_nlt (Nat.le_refl _) (by omega)
    simp only [g1, Option.toList_some, Option.toList_none, List.cons_append, List.nil_append, Nat.zero_add, Nat.reduceAdd, Option.some.injEq, Value.int.injEq, exists_eq_left', true_and, and_true, true_or, or_true, false_or, g_10, ↓reduceIte]
end O17
