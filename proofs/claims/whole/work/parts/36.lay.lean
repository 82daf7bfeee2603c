section O36
variable {G : gG} {d B : Nat} {σ : gM} {K : gK}
/-- a block lies elsewhere, or is longer -/
theorem wMem_lay {m m' : gM} {g g' : Nat → Int32} {s r c n : Nat} (hM : wMem B m g) (hs : s < 30) (hl : m 10 s ≠ 0) (er : m 13 s = nI r) (hr : r < gN (m 2 0)) (hn : 1 ≤ n) (hn2 : n ≤ 40) (hc1 : gN (m 3 r) ≤ c) (hc2 : c + n ≤ gN (m 3 r) + gN (m 4 r)) (hfree : ∀ j, c ≤ j → j < c + n → m 7 j = -1 ∨ m 7 j = nI s)
    (fo : ∀ i, i = 0 ∨ (2 ≤ i ∧ i ≤ 5) ∨ i = 9 ∨ i = 10 ∨ 13 ≤ i → m' i = m i) (ft : ∀ k t, 9 ≤ k → k ≤ 17 → t ≠ s → m' k t = m k t) (f11 : m' 11 s = nI c) (f12 : m' 12 s = nI n)
    (f7 : ∀ j, j < 240 → m' 7 j = if c ≤ j ∧ j < c + n then nI s else if m 7 j = nI s then -1 else m 7 j) (he : wEq m' g') (hg : g' 606 = g 606) (hg8 : ∀ t, t < 30 → g' (t * 11 + 8) = g (t * 11 + 8)) : wMem B m' g' := by
  obtain ⟨⟨a1, a2, a3, a4⟩, tg, -⟩ := hM
  obtain ⟨r1, r2⟩ := a1
  have n6 : gN (m 2 0) ≤ 6 := r1.2
  obtain ⟨q1, q2, q3, q4, q5, -⟩ := r2 r hr
  refine ⟨⟨wReg_c ⟨r1, r2⟩ (fo 2 (by omega)) (fo 3 (by omega)) (fo 4 (by omega)) (fo 5 (by omega)), fun t ht => ?_, fun k hk => ⟨?_, fun t ht hlt => ?_⟩, wRest_c a4 (Nat.le_refl _) (by rw [fo 0 (by omega)]) (fo 20 (by omega)) (fo 21 (by omega))⟩, wTag_c tg (Nat.le_refl _) (fo 18 (by omega)) (fo 19 (by omega)) (fo 10 (by omega)) (fo 16 (by omega)) hg hg8, he⟩
  · by_cases e : t = s
    · subst e
      obtain ⟨b1, b2, b3, b4, b5⟩ := a2 t ht
      refine ⟨by rw [fo 9 (by omega)]; exact b1, by rw [fo 10 (by omega)]; exact b2, by rw [fo 17 (by omega)]; exact b3, by rw [fo 16 (by omega)]; exact b4, fun z => ?_⟩
      obtain ⟨w1, w2, w3, w4, w5, w6, w7, w8, w9⟩ := b5 hl
      unfold wBlk
      rw [f11, f12, fo 13 (by omega), fo 14 (by omega), fo 15 (by omega), fo 2 (by omega), fo 3 (by omega), fo 4 (by omega), er, gN_nI (by omega), gN_nI (by omega), gN_nI (by omega)]
      exact ⟨gNn_nI (by omega) (by decide), hr, gNn_nI (by omega) (by decide), hn, gNn_nI (by omega) (by decide), hc1, hc2, w8, w9⟩
    · exact wSlot_c (a2 t ht) (Nat.le_refl _) (fo 2 (by omega)) (fo 3 (by omega)) (fo 4 (by omega)) (ft _ t (by omega) (by omega) e) (ft _ t (by omega) (by omega) e) (ft _ t (by omega) (by omega) e) (ft _ t (by omega) (by omega) e) (ft _ t (by omega) (by omega) e) (ft _ t (by omega) (by omega) e) (ft _ t (by omega) (by omega) e) (ft _ t (by omega) (by omega) e) (ft _ t (by omega) (by omega) e)
  · rw [f7 k hk, fo 10 (by omega)]
    by_cases hk2 : c ≤ k ∧ k < c + n
    · rw [if_pos hk2]; exact Or.inr ⟨s, hs, hl, rfl⟩
    · rw [if_neg hk2]
      by_cases hk3 : m 7 k = nI s
      · rw [if_pos hk3]; exact Or.inl rfl
      · rw [if_neg hk3]; exact (a3 k hk).1
  · rw [f7 k hk]
    rw [fo 10 (by omega)] at hlt
    by_cases e : t = s
    · subst e
      rw [f11, f12, gN_nI (by omega), gN_nI (by omega)]
      by_cases hk2 : c ≤ k ∧ k < c + n
      · rw [if_pos hk2]; exact ⟨fun _ => rfl, fun _ => hk2⟩
      · rw [if_neg hk2]
        refine ⟨fun z => absurd z hk2, fun z => ?_⟩
        by_cases hk3 : m 7 k = nI t
        · rw [if_pos hk3] at z; exact absurd z.symm (g_m1 (by omega))
        · rw [if_neg hk3] at z; exact absurd z hk3
    · rw [ft 11 t (by omega) (by omega) e, ft 12 t (by omega) (by omega) e]
      have old := (a3 k hk).2 t ht hlt
      have nst : nI s ≠ nI t := fun z => e (nI_inj (by omega) (by omega) z).symm
      have nmt : (-1 : Int32) ≠ nI t := fun z => g_m1 (by omega) z.symm
      by_cases hk2 : c ≤ k ∧ k < c + n
      · rw [if_pos hk2, old]
        refine ⟨fun z => ?_, fun z => absurd z nst⟩
        rcases hfree k hk2.1 hk2.2 with y | y
        · rw [y] at z; exact absurd z nmt
        · rw [y] at z; exact absurd z nst
      · rw [if_neg hk2]
        by_cases hk3 : m 7 k = nI s
        · rw [if_pos hk3, old, hk3]
          exact ⟨fun z => absurd z nst, fun z => absurd z nmt⟩
        · rw [if_neg hk3]; exact old
def gLay (x : gM) (b s l q c : Nat) : gM := g_up (g_fl (g_fl (g_cp x (b + 1) (b + 1) l c q) (b + 7) l q (-1)) (b + 7) c q (nI s)) (b + 11) s (nI c)
theorem lay_eq {x : gM} {b s l q c : Nat} (h3 : isX3 G b) (hs : s < 30) (el : x (b + 11) s = nI l) (eq : x (b + 12) s = nI q) (hlq : l + q ≤ 240) (hcq : c + q ≤ 240) : g_inv (gCm' G (d + 3)) mX3_layAt [.ref b, .int (nI s), .int (nI c)] x K = K none (gLay x b s l q c) := by
  obtain ⟨f1, f2, f3, f4, f5⟩ := g_ix (n := 29) hs (by decide)
  have h1 : isX1 G (b + 6) := iX3_3 h3
  have k1 : (nI l).toNatClampNeg = l := nI_clamp (by omega)
  have k2 : (nI q).toNatClampNeg = q := nI_clamp (by omega)
  have k3 : (nI c).toNatClampNeg = c := nI_clamp (by omega)
  have k4 : ¬ nI l < 0 := nI_pos (by omega)
  have k5 : ¬ nI q < 0 := nI_pos (by omega)
  have k6 : ¬ nI c < 0 := nI_pos (by omega)
  have fr : ∀ (K : gK) (σ : gM), g_inv (gCm' G (d + 1)) mX9_fill [.ref (b + 6 + 1), .int (nI l), .int (nI q), .int (-1)] σ K = K none (g_fl σ (b + 7) l q (-1)) := fun K σ => fill_eq (aX1_0 h1) (nX1_0 h1) (by decide) hlq
  have ft : ∀ (K : gK) (σ : gM), g_inv (gCm' G (d + 1)) mX9_fill [.ref (b + 6 + 1), .int (nI c), .int (nI q), .int (nI s)] σ K = K none (g_fl σ (b + 7) c q (nI s)) := fun K σ => fill_eq (aX1_0 h1) (nX1_0 h1) (by decide) hcq
  rw [EX3_layAt h3]
  simp only [BX3_layAt_36, BX3_layAt_46, BX3_layAt_57, EX1_take, BX1_take_10, EX1_release, BX1_release_10, h3, h1, f4, f5, el, eq, k1, k2, k3, k4, k5, k6, hlq, hcq, fr, ft, not_false_eq_true, Option.toList_some, Option.toList_none, List.cons_append, List.nil_append, Nat.zero_add, Nat.reduceAdd, Option.some.injEq, Value.int.injEq, exists_eq_left', true_and, and_true, true_or, or_true, false_or, g_10, ↓reduceIte]
  rfl
/-- the twin's block goes elsewhere -/
def gGo (z : gM) (s l q c : Nat) : gM := fun b j => if b = 105 then (if 330 + c ≤ j ∧ j < 330 + c + q then z 105 (330 + l + (j - (330 + c))) else if j = s * 11 + 2 then nI c else z 105 j) else if b = 110 ∧ j < q then z 105 (330 + l + j) else z b j
theorem goes_eq (h : gOK G) {z : gM} {s l q c : Nat} (hs : s < 30) (el : z 105 (s * 11 + 2) = nI l) (eq : z 105 (s * 11 + 3) = nI q) (hlq : l + q ≤ 240) (hcq : c + q ≤ 240) : g_inv (gCm' G (d + 2)) mX10_goes [.ref 104, .int (nI s), .int (nI c)] z K = K none (gGo z s l q c) := by
  have key : ∀ k, k ≤ q → gw (gCm' G (d + 1)) G mX10_goes K 14 [.ref 104, .int (nI s), .int (nI c), .int (nI (330 + l)), .int 0] [] z = gw (gCm' G (d + 1)) G mX10_goes K 14 [.ref 104, .int (nI s), .int (nI c), .int (nI (330 + l)), .int (nI k)] [] (fun b j => if b = 110 ∧ j < k then z 105 (330 + l + j) else z b j) := by
    intro k
    induction k with
    | zero =>
      intro _
      have : (fun b j => if b = 110 ∧ j < 0 then z 105 (330 + l + j) else z b j : gM) = z := by
        funext b j; rw [if_neg (by omega)]
      rw [this]; rfl
    | succ k ih =>
      intro hk
      rw [ih (by omega), BX10_goes_14 h.2]
      have g1 : nI k < nI q := nI_lt (by omega) (by omega)
      have g2 : nI (330 + l) + nI k = nI (330 + l + k) := nI_add _ _
      have g3 : vp_in (nI (330 + l + k)) 607 := vp_c (by omega)
      have g4 : (nI (330 + l + k)).toNatClampNeg = 330 + l + k := nI_clamp (by omega)
      have g5 : vp_in (nI k) 240 := vp_in_nI (by omega) (by decide)
      have g6 : (nI k).toNatClampNeg = k := nI_clamp (by omega)
      have g7 : g_up (fun b j => if b = 110 ∧ j < k then z 105 (330 + l + j) else z b j) 110 k (z 105 (330 + l + k)) = (fun b j => if b = 110 ∧ j < k + 1 then z 105 (330 + l + j) else z b j) := by
        funext b j
        rw [g_up_d]
        by_cases e : b = 110
        · subst e
          by_cases e2 : j = k
          · subst e2; simp
          · have : j < k ↔ j < k + 1 := by omega
            simp [e2, this]
        · simp [e]
      have g8 : ∀ K : gK, g_inv (gCm' G (d + 1)) mX10_at [.ref 104, .int (nI s), .int 3] (fun b j => if b = 110 ∧ j < k then z 105 (330 + l + j) else z b j) K = K (some (.int (nI q))) (fun b j => if b = 110 ∧ j < k then z 105 (330 + l + j) else z b j) := fun K => by
        rw [at_3 h hs]
        simp only [show ¬ (105 : Nat) = 110 by decide, false_and, ↓reduceIte, eq]
      simp only [g8, BX10_goes_22 h.2, g1, g2, g3, g4, g5, g6, Option.toList_some, Option.toList_none, List.cons_append, List.nil_append, Nat.zero_add, Nat.reduceAdd, Option.some.injEq, Value.int.injEq, exists_eq_left', true_and, and_true, true_or, or_true, false_or, g_10, ↓reduceIte, nI_1, show ¬ (105 : Nat) = 110 by decide, false_and, g7]
  have key2 : ∀ k, k ≤ q → gw (gCm' G (d + 1)) G mX10_goes K 50 [.ref 104, .int (nI s), .int (nI c), .int (nI (330 + l)), .int 0] [] (fun b j => if b = 110 ∧ j < q then z 105 (330 + l + j) else z b j) = gw (gCm' G (d + 1)) G mX10_goes K 50 [.ref 104, .int (nI s), .int (nI c), .int (nI (330 + l)), .int (nI k)] [] (fun b j => if b = 105 ∧ 330 + c ≤ j ∧ j < 330 + c + k then z 105 (330 + l + (j - (330 + c))) else if b = 110 ∧ j < q then z 105 (330 + l + j) else z b j) := by
    intro k
    induction k with
    | zero =>
      intro _
      have : (fun b j => if b = 105 ∧ 330 + c ≤ j ∧ j < 330 + c + 0 then z 105 (330 + l + (j - (330 + c))) else if b = 110 ∧ j < q then z 105 (330 + l + j) else z b j : gM) = (fun b j => if b = 110 ∧ j < q then z 105 (330 + l + j) else z b j) := by
        funext b j; rw [if_neg (by omega)]
      rw [this]; rfl
    | succ k ih =>
      intro hk
      rw [ih (by omega), BX10_goes_50 h.2]
      have g1 : nI k < nI q := nI_lt (by omega) (by omega)
      have g2 : (330 : Int32) + nI c + nI k = nI (330 + c + k) := by rw [show (330 : Int32) = nI 330 from rfl, nI_add, nI_add]
      have g3 : vp_in (nI (330 + c + k)) 607 := vp_c (by omega)
      have g4 : (nI (330 + c + k)).toNatClampNeg = 330 + c + k := nI_clamp (by omega)
      have g5 : vp_in (nI k) 240 := vp_in_nI (by omega) (by decide)
      have g6 : (nI k).toNatClampNeg = k := nI_clamp (by omega)
      have g7 : g_up (fun b j => if b = 105 ∧ 330 + c ≤ j ∧ j < 330 + c + k then z 105 (330 + l + (j - (330 + c))) else if b = 110 ∧ j < q then z 105 (330 + l + j) else z b j) 105 (330 + c + k) (z 105 (330 + l + k)) = (fun b j => if b = 105 ∧ 330 + c ≤ j ∧ j < 330 + c + (k + 1) then z 105 (330 + l + (j - (330 + c))) else if b = 110 ∧ j < q then z 105 (330 + l + j) else z b j) := by
        funext b j
        rw [g_up_d]
        by_cases e : b = 105
        · subst e
          by_cases e2 : j = 330 + c + k
          · subst e2
            have e3 : 330 + l + (330 + c + k - (330 + c)) = 330 + l + k := by omega
            have e4 : 330 + c ≤ 330 + c + k ∧ 330 + c + k < 330 + c + (k + 1) := by omega
            rw [if_pos rfl, if_pos rfl, if_pos ⟨rfl, e4⟩, e3]
          · have : (330 + c ≤ j ∧ j < 330 + c + k) ↔ (330 + c ≤ j ∧ j < 330 + c + (k + 1)) := by omega
            simp only [e2, this, ↓reduceIte]
        · simp only [e, false_and, ↓reduceIte]
      have n3 : ¬ (330 + c ≤ s * 11 + 3 ∧ s * 11 + 3 < 330 + c + k) := by omega
      have g8 : ∀ K : gK, g_inv (gCm' G (d + 1)) mX10_at [.ref 104, .int (nI s), .int 3] (fun b j => if b = 105 ∧ 330 + c ≤ j ∧ j < 330 + c + k then z 105 (330 + l + (j - (330 + c))) else if b = 110 ∧ j < q then z 105 (330 + l + j) else z b j) K = K (some (.int (nI q))) (fun b j => if b = 105 ∧ 330 + c ≤ j ∧ j < 330 + c + k then z 105 (330 + l + (j - (330 + c))) else if b = 110 ∧ j < q then z 105 (330 + l + j) else z b j) := fun K => by
        rw [at_3 h hs]
        simp only [show ¬ (105 : Nat) = 110 by decide, false_and, true_and, ↓reduceIte, eq, n3]
      have kq : k < q := by omega
      simp only [g8, BX10_goes_58 h.2, g1, g2, g3, g4, g5, g6, Option.toList_some, Option.toList_none, List.cons_append, List.nil_append, Nat.zero_add, Nat.reduceAdd, Option.some.injEq, Value.int.injEq, exists_eq_left', true_and, and_true, true_or, or_true, false_or, g_10, ↓reduceIte, nI_1, show ¬ (110 : Nat) = 105 by decide, false_and, kq, g7]
  have ea : nI l + 330 = nI (330 + l) := by rw [show (330 : Int32) = nI 330 from rfl, nI_add, Nat.add_comm]
  have eb : (330 : Int32) + nI l = nI (330 + l) := by rw [show (330 : Int32) = nI 330 from rfl, nI_add]
  have nq : ¬ nI q < nI q := nI_nlt (Nat.le_refl _) (by omega)
  have g8 : ∀ (K : gK) (y : gM), y 105 (s * 11 + 3) = nI q → g_inv (gCm' G (d + 1)) mX10_at [.ref 104, .int (nI s), .int 3] y K = K (some (.int (nI q))) y := fun K y hy => by rw [at_3 h hs, hy]
  have n3 : ¬ (330 + c ≤ s * 11 + 3 ∧ s * 11 + 3 < 330 + c + q) := by omega
  rw [EX10_goes h.2]
  simp only [at_2 h hs, el, BX10_goes_9 h.2, Option.toList_some, Option.toList_none, List.cons_append, List.nil_append, Nat.zero_add, Nat.reduceAdd, Option.some.injEq, Value.int.injEq, exists_eq_left', true_and, and_true, true_or, or_true, false_or, g_10, ↓reduceIte, ea, eb]
  rw [key q (Nat.le_refl _), BX10_goes_14 h.2, g8 _ _ (by simp only [show ¬ (105 : Nat) = 110 by decide, false_and, ↓reduceIte, eq])]
  simp only [BX10_goes_22 h.2, nq, Option.toList_some, Option.toList_none, List.cons_append, List.nil_append, Nat.zero_add, Nat.reduceAdd, Option.some.injEq, Value.int.injEq, exists_eq_left', true_and, and_true, true_or, or_true, false_or, g_10, ↓reduceIte]
  rw [key2 q (Nat.le_refl _), BX10_goes_50 h.2, g8 _ _ (by simp only [show ¬ (105 : Nat) = 110 by decide, false_and, true_and, ↓reduceIte, eq, n3])]
  simp only [BX10_goes_58 h.2, nq, Option.toList_some, Option.toList_none, List.cons_append, List.nil_append, Nat.zero_add, Nat.reduceAdd, Option.some.injEq, Value.int.injEq, exists_eq_left', true_and, and_true, true_or, or_true, false_or, g_10, ↓reduceIte, sets_2 h hs, BX10_goes_94 h.2]
  congr 1
  funext b j
  rw [g_up_d]
  unfold gGo
  by_cases e : b = 105
  · subst e
    by_cases e2 : j = s * 11 + 2
    · subst e2
      have : ¬ (330 + c ≤ s * 11 + 2 ∧ s * 11 + 2 < 330 + c + q) := by omega
      simp only [this, ↓reduceIte]
    · simp only [e2, true_and, ↓reduceIte, show ¬ (105 : Nat) = 110 by decide, false_and]
  · simp only [e, false_and, ↓reduceIte]
end O36
