/-- how long a run of free cells ends at the i-th one -/
def gRun (S : Nat → Int32) (pos : Nat → Nat) : Nat → Nat
  | 0 => 0
  | i + 1 => if S (pos i) = -1 then gRun S pos i + 1 else 0
theorem gRun_le {S : Nat → Int32} {pos : Nat → Nat} : ∀ i, gRun S pos i ≤ i
  | 0 => Nat.le_refl _
  | i + 1 => by
    unfold gRun
    have := gRun_le (S := S) (pos := pos) i
    split <;> omega
theorem gRun_free {S : Nat → Int32} {pos : Nat → Nat} : ∀ i j, i ≤ j + gRun S pos i → j < i → S (pos j) = -1
  | 0, j, _, h => by omega
  | i + 1, j, h1, h2 => by
    unfold gRun at h1
    by_cases e : S (pos i) = -1
    · rw [if_pos e] at h1
      by_cases e2 : j = i
      · subst e2; exact e
      · exact gRun_free i j (by omega) (by omega)
    · rw [if_neg e] at h1; omega
theorem gRun_fold {S : Nat → Int32} {pos : Nat → Nat} : ∀ i, gFold (fun i (acc : Int32) => if S (pos i) = -1 then acc + 1 else 0) i 0 = nI (gRun S pos i)
  | 0 => rfl
  | i + 1 => by
    show (if S (pos i) = -1 then gFold _ i 0 + 1 else 0) = nI (if S (pos i) = -1 then _ else _)
    rw [gRun_fold i]
    split
    · rw [nI_1]
    · rfl
/-- where a block of n cells would be placed in a region of q cells from l on -/
def gPl (S : Nat → Int32) (l q : Nat) (below : Bool) (n : Nat) : Option Nat :=
  if below = true then (gFst (fun i => decide (gRun S (fun i => l + i) (i + 1) = n)) q 0).map (fun k => l + k + 1 - n)
  else (gFst (fun i => decide (gRun S (fun i => l + q - 1 - i) (i + 1) = n)) q 0).map (fun k => l + q - 1 - k)
theorem gPl_some {S : Nat → Int32} {l q n c : Nat} {below : Bool} (hn : 1 ≤ n) (h : gPl S l q below n = some c) : l ≤ c ∧ c + n ≤ l + q ∧ ∀ j, c ≤ j → j < c + n → S j = -1 := by
  unfold gPl at h
  cases below with
  | true =>
    rw [if_pos rfl] at h
    obtain ⟨k, hk, e⟩ := Option.map_eq_some_iff.mp h
    obtain ⟨-, h2, h3, -⟩ := gFst_some hk
    have h3 : gRun S (fun i => l + i) (k + 1) = n := of_decide_eq_true h3
    have h4 := gRun_le (S := S) (pos := fun i => l + i) (k + 1)
    subst e
    refine ⟨by omega, by omega, fun j h5 h6 => ?_⟩
    have := gRun_free (S := S) (pos := fun i => l + i) (k + 1) (j - l) (by omega) (by omega)
    rwa [show l + (j - l) = j by omega] at this
  | false =>
    rw [if_neg (by decide)] at h
    obtain ⟨k, hk, e⟩ := Option.map_eq_some_iff.mp h
    obtain ⟨-, h2, h3, -⟩ := gFst_some hk
    have h3 : gRun S (fun i => l + q - 1 - i) (k + 1) = n := of_decide_eq_true h3
    have h4 := gRun_le (S := S) (pos := fun i => l + q - 1 - i) (k + 1)
    subst e
    refine ⟨by omega, by omega, fun j h5 h6 => ?_⟩
    have := gRun_free (S := S) (pos := fun i => l + q - 1 - i) (k + 1) (l + q - 1 - j) (by omega) (by omega)
    rwa [show l + q - 1 - (l + q - 1 - j) = j by omega] at this
section O27
variable {G : gG} {d B : Nat} {σ : gM} {K : gK}
def gAns (c : Option Nat) (no : Int32) : Int32 := match c with
  | some c => nI c
  | none => no
theorem op_lies (h : gOK G) (hB : B < 1000000) (hR : wRel B σ) (a : Int32) : gOp G (d + 4) B mX9_lies mX10_lies [.int a] σ := by
  unfold gOp
  rcases pk_ix a (n := 240) (by decide) with h1 | h1 | ⟨j, hj, rfl⟩
  · simp only [EX9_lies, BX9_lies_44, EX10_lies, BX10_lies_8, BX10_lies_17, EX10_in, Option.toList_some, Option.toList_none, List.cons_append, List.nil_append, Nat.zero_add, Nat.reduceAdd, Option.some.injEq, Value.int.injEq, exists_eq_left', true_and, and_true, true_or, or_true, false_or, g_10, ↓reduceIte, h.1, h.2, hNow h, hReg h, hGrd h, hBlk h, hTgo h, hWlk h, hPln h, hTap h, hHol h, h1]
    exact wRel_up hR (by omega)
  · obtain ⟨e1, e2, e3⟩ := g_ge (n := 239) (by decide) h1
    have e2 : ¬ a < 240 := e2
    have e3 : 239 < a := e3
    simp only [EX9_lies, BX9_lies_44, EX10_lies, BX10_lies_8, BX10_lies_17, EX10_in, Option.toList_some, Option.toList_none, List.cons_append, List.nil_append, Nat.zero_add, Nat.reduceAdd, Option.some.injEq, Value.int.injEq, exists_eq_left', true_and, and_true, true_or, or_true, false_or, g_10, ↓reduceIte, h.1, h.2, hNow h, hReg h, hGrd h, hBlk h, hTgo h, hWlk h, hPln h, hTap h, hHol h, e1, e2, e3]
    exact wRel_up hR (by omega)
  · obtain ⟨e1, e2, e3, e4, e5⟩ := g_ix (n := 239) hj (by decide)
    have e2 : nI j < 240 := e2
    have e3 : ¬ 239 < nI j := e3
    have fin : wRel (B + 1) (g_ln σ σ) := wRel_sc hR (by omega) (fun i h1 h2 => g_ln_o (by omega)) (g_ln_o (by decide)) (fun i hi => g_ln_o (by unfold gRl at hi; omega)) (by rw [g_ln_o (by decide)]) (by rw [g_ln_o (by decide)]) (by rw [g_ln_o (by decide)])
    have hv : (g_ln σ σ) 109 j = gLain σ j := by unfold g_ln; rw [if_pos ⟨rfl, hj⟩]
    have hl : ∀ K, g_inv (gCm' G (d + 3)) mX10_laid [.ref 104] σ K = K none (g_ln σ σ) := fun K => laid_eq h hR rfl
    by_cases c : σ 8 j = -1
    · by_cases c2 : j < gEnd σ (gN (σ 3 0))
      · have c3 : nI j < nI (gEnd σ (gN (σ 3 0))) := nI_lt c2 (by have := gEnd_le hR (Nat.le_refl _); omega)
        have hv2 : gLain σ j = 100 := by unfold gLain; rw [if_pos c, if_pos c2]
        simp only [EX9_lies, BX9_lies_44, EX10_lies, BX10_lies_8, BX10_lies_17, EX10_in, Option.toList_some, Option.toList_none, List.cons_append, List.nil_append, Nat.zero_add, Nat.reduceAdd, Option.some.injEq, Value.int.injEq, exists_eq_left', true_and, and_true, true_or, or_true, false_or, g_10, ↓reduceIte, h.1, h.2, hNow h, hReg h, hGrd h, hBlk h, hTgo h, hWlk h, hPln h, hTap h, hHol h, e1, e2, e3, e4, e5, c, end_eq h hR, c3, hl, hv, hv2]
        exact fin
      · have c3 : ¬ nI j < nI (gEnd σ (gN (σ 3 0))) := nI_nlt (by omega) (by omega)
        have hv2 : gLain σ j = 101 := by unfold gLain; rw [if_pos c, if_neg c2]
        simp only [EX9_lies, BX9_lies_44, EX10_lies, BX10_lies_8, BX10_lies_17, EX10_in, Option.toList_some, Option.toList_none, List.cons_append, List.nil_append, Nat.zero_add, Nat.reduceAdd, Option.some.injEq, Value.int.injEq, exists_eq_left', true_and, and_true, true_or, or_true, false_or, g_10, ↓reduceIte, h.1, h.2, hNow h, hReg h, hGrd h, hBlk h, hTgo h, hWlk h, hPln h, hTap h, hHol h, e1, e2, e3, e4, e5, c, end_eq h hR, c3, hl, hv, hv2]
        exact fin
    · have hv2 : gLain σ j = σ 8 j := by unfold gLain; rw [if_neg c]
      simp only [EX9_lies, BX9_lies_44, EX10_lies, BX10_lies_8, BX10_lies_17, EX10_in, Option.toList_some, Option.toList_none, List.cons_append, List.nil_append, Nat.zero_add, Nat.reduceAdd, Option.some.injEq, Value.int.injEq, exists_eq_left', true_and, and_true, true_or, or_true, false_or, g_10, ↓reduceIte, h.1, h.2, hNow h, hReg h, hGrd h, hBlk h, hTgo h, hWlk h, hPln h, hTap h, hHol h, e1, e2, e3, e4, e5, c, hl, hv, hv2]
      exact fin
theorem below_eq {gd l q n : Nat} (h1 : isX1 G gd) (hlq : l + q ≤ 240) (hn : 1 ≤ n) (hn2 : n ≤ 200) : g_inv (gCm' G (d + 1)) mX1_placeFromBelow [.ref gd, .int (nI l), .int (nI (l + q)), .int (nI n)] σ K = K (some (.int (gAns (gPl (σ (gd + 1)) l q true n) (-1)))) σ := by
  rw [EX1_placeFromBelow h1]
  refine Eq.trans (g_find (W := fun i (_ : Unit) => gw (gCm' G d) G mX1_placeFromBelow K 6 [.ref gd, .int (nI l), .int (nI (l + q)), .int (nI n), .int (nI (gRun (σ (gd + 1)) (fun i => l + i) i)), .int (nI (l + i))] [] σ) (F := fun _ _ => ()) (c := fun i => decide (gRun (σ (gd + 1)) (fun i => l + i) (i + 1) = n)) (R := fun k => K (some (.int (nI (l + k + 1 - n)))) σ) (E := K (some (.int (-1))) σ) (L := q) (fun i hi _ => ?_) (fun _ => ?_) ()) ?_
  · rw [BX1_placeFromBelow_6 h1]
    have g1 : nI (l + i) < nI (l + q) := nI_lt (by omega) (by omega)
    have g2 : vp_in (nI (l + i)) 240 := vp_in_nI (by omega) (by decide)
    have g3 : (nI (l + i)).toNatClampNeg = l + i := nI_clamp (by omega)
    have gl := gRun_le (S := σ (gd + 1)) (pos := fun i => l + i) (i + 1)
    have gv : gRun (σ (gd + 1)) (fun i => l + i) (i + 1) = n → nI (l + i) - nI n + 1 = nI (l + i + 1 - n) := fun e => by
      rw [Int32.sub_eq_add_neg, Int32.add_assoc, Int32.add_comm (-nI n) 1, ← Int32.add_assoc, ← Int32.sub_eq_add_neg, nI_1, pk_sub (by omega)]
    by_cases c : σ (gd + 1) (l + i) = -1
    · have e1 : gRun (σ (gd + 1)) (fun i => l + i) (i + 1) = gRun (σ (gd + 1)) (fun i => l + i) i + 1 := by
        show (if _ then _ else _) = _; rw [if_pos c]
      simp only [g1, g2, g3, c, Option.toList_some, Option.toList_none, List.cons_append, List.nil_append, Nat.zero_add, Nat.reduceAdd, Option.some.injEq, Value.int.injEq, exists_eq_left', true_and, and_true, true_or, or_true, false_or, g_10, ↓reduceIte, BX1_placeFromBelow_31 h1, nI_1]
      rw [← e1]
      by_cases e2 : gRun (σ (gd + 1)) (fun i => l + i) (i + 1) = n
      · have e3 : nI (gRun (σ (gd + 1)) (fun i => l + i) (i + 1)) = nI n := by rw [e2]
        rw [if_pos e3, gv e2]
        simp only [e2, decide_true, ↓reduceIte]
      · have e3 : ¬ nI (gRun (σ (gd + 1)) (fun i => l + i) (i + 1)) = nI n := fun z => e2 ((nI_eq (by omega) (by omega)).mp z)
        rw [if_neg e3]
        simp only [e2, decide_false, Bool.false_eq_true, ↓reduceIte, Nat.add_assoc]
    · have e1 : gRun (σ (gd + 1)) (fun i => l + i) (i + 1) = 0 := by
        show (if _ then _ else _) = _; rw [if_neg c]
      have e3 : ¬ (0 : Int32) = nI n := fun z => by have := (nI_eq (a := 0) (by omega) (by omega)).mp z; omega
      have e4 : ¬ (0 : Nat) = n := by omega
      simp only [g1, g2, g3, c, Option.toList_some, Option.toList_none, List.cons_append, List.nil_append, Nat.zero_add, Nat.reduceAdd, Option.some.injEq, Value.int.injEq, exists_eq_left', true_and, and_true, true_or, or_true, false_or, g_10, ↓reduceIte, BX1_placeFromBelow_31 h1, nI_1, e1, e3, e4, decide_false, Bool.false_eq_true, Nat.add_assoc]
      rfl
  · rw [BX1_placeFromBelow_6 h1]
    simp only [show ¬ nI (l + q) < nI (l + q) from nI_nlt (Nat.le_refl _) (by omega), ↓reduceIte]
  · unfold gPl gAns
    rw [if_pos rfl]
    cases gFst (fun i => decide (gRun (σ (gd + 1)) (fun i => l + i) (i + 1) = n)) q 0 <;> rfl
theorem above_eq {gd l q n : Nat} (h1 : isX1 G gd) (hq : 1 ≤ q) (hlq : l + q ≤ 240) (hn : 1 ≤ n) (hn2 : n ≤ 200) : g_inv (gCm' G (d + 1)) mX1_placeFromAbove [.ref gd, .int (nI l), .int (nI (l + q)), .int (nI n)] σ K = K (some (.int (gAns (gPl (σ (gd + 1)) l q false n) (-1)))) σ := by
  rw [EX1_placeFromAbove h1, g_pred (by omega)]
  have hstep : ∀ i, i < q → nI (l + q - 1 - i) + (-1) = nI l + nI (q - 1 - i) - 1 := fun i hi => by
    rw [nI_add, show l + q - 1 - i = (l + (q - 1 - i)) by omega]
    apply Int32.toBitVec_inj.mp
    simp [Int32.sub_eq_add_neg]
  rw [show nI (l + q - 1) = nI l + nI (q - 0) - 1 from by rw [nI_add, Nat.sub_zero, g_pred (by omega)]]
  refine Eq.trans (g_find (W := fun i (_ : Unit) => gw (gCm' G d) G mX1_placeFromAbove K 8 [.ref gd, .int (nI l), .int (nI (l + q)), .int (nI n), .int (nI (gRun (σ (gd + 1)) (fun i => l + q - 1 - i) i)), .int (nI l + nI (q - i) - 1)] [] σ) (F := fun _ _ => ()) (c := fun i => decide (gRun (σ (gd + 1)) (fun i => l + q - 1 - i) (i + 1) = n)) (R := fun k => K (some (.int (nI (l + q - 1 - k)))) σ) (E := K (some (.int (-1))) σ) (L := q) (fun i hi _ => ?_) (fun _ => ?_) ()) ?_
  · have g0 : nI l + nI (q - i) - 1 = nI (l + q - 1 - i) := by
      rw [nI_add, g_pred (by omega)]; congr 1; omega
    rw [BX1_placeFromAbove_8 h1, g0]
    have g1 : ¬ nI (l + q - 1 - i) < nI l := nI_nlt (by omega) (by omega)
    have g2 : vp_in (nI (l + q - 1 - i)) 240 := vp_in_nI (by omega) (by decide)
    have g3 : (nI (l + q - 1 - i)).toNatClampNeg = l + q - 1 - i := nI_clamp (by omega)
    have g4 : nI l + nI (q - (i + 1)) - 1 = nI (l + q - 1 - i) + (-1) := by rw [hstep i hi, show q - (i + 1) = q - 1 - i by omega]
    have gl := gRun_le (S := σ (gd + 1)) (pos := fun i => l + q - 1 - i) (i + 1)
    by_cases c : σ (gd + 1) (l + q - 1 - i) = -1
    · have e1 : gRun (σ (gd + 1)) (fun i => l + q - 1 - i) (i + 1) = gRun (σ (gd + 1)) (fun i => l + q - 1 - i) i + 1 := by
        show (if _ then _ else _) = _; rw [if_pos c]
      simp only [g1, g2, g3, c, Option.toList_some, Option.toList_none, List.cons_append, List.nil_append, Nat.zero_add, Nat.reduceAdd, Option.some.injEq, Value.int.injEq, exists_eq_left', true_and, and_true, true_or, or_true, false_or, g_10, ↓reduceIte, BX1_placeFromAbove_33 h1, nI_1]
      rw [← e1]
      by_cases e2 : gRun (σ (gd + 1)) (fun i => l + q - 1 - i) (i + 1) = n
      · have e3 : nI (gRun (σ (gd + 1)) (fun i => l + q - 1 - i) (i + 1)) = nI n := by rw [e2]
        rw [if_pos e3]
        simp only [e2, decide_true, ↓reduceIte]
      · have e3 : ¬ nI (gRun (σ (gd + 1)) (fun i => l + q - 1 - i) (i + 1)) = nI n := fun z => e2 ((nI_eq (by omega) (by omega)).mp z)
        rw [if_neg e3]
        simp only [e2, decide_false, Bool.false_eq_true, ↓reduceIte, g4]
    · have e1 : gRun (σ (gd + 1)) (fun i => l + q - 1 - i) (i + 1) = 0 := by
        show (if _ then _ else _) = _; rw [if_neg c]
      have e3 : ¬ (0 : Int32) = nI n := fun z => by have := (nI_eq (a := 0) (by omega) (by omega)).mp z; omega
      have e4 : ¬ (0 : Nat) = n := by omega
      simp only [g1, g2, g3, c, Option.toList_some, Option.toList_none, List.cons_append, List.nil_append, Nat.zero_add, Nat.reduceAdd, Option.some.injEq, Value.int.injEq, exists_eq_left', true_and, and_true, true_or, or_true, false_or, g_10, ↓reduceIte, BX1_placeFromAbove_33 h1, e1, e3, e4, decide_false, Bool.false_eq_true, g4]
      rfl
  · rw [BX1_placeFromAbove_8 h1]
    have : nI l + nI (q - q) - 1 < nI l := by
      rw [Nat.sub_self, show nI 0 = 0 from rfl, Int32.add_zero]
      by_cases e : l = 0
      · subst e; decide
      · rw [g_pred (by omega)]; exact nI_lt (by omega) (by omega)
    rw [if_pos this]
  · unfold gPl gAns
    rw [if_neg (by decide)]
    cases gFst (fun i => decide (gRun (σ (gd + 1)) (fun i => l + q - 1 - i) (i + 1) = n)) q 0 <;> rfl
theorem placeIn_eq {gd rg r l q n : Nat} (h1 : isX1 G gd) (h5 : isX5 G rg) (hr : r < 6) (el : σ (rg + 1) r = nI l) (eq : σ (rg + 2) r = nI q) (ew : σ (rg + 3) r = 0 ∨ σ (rg + 3) r = 1) (hq : 1 ≤ q) (hlq : l + q ≤ 240) (hn : 1 ≤ n) (hn2 : n ≤ 200) : g_inv (gCm' G (d + 2)) mX1_placeIn [.ref gd, .ref rg, .int (nI r), .int (nI n)] σ K = K (some (.int (gAns (gPl (σ (gd + 1)) l q (gIs (σ (rg + 3) r) 0) n) (-1)))) σ := by
  obtain ⟨e1, e2, e3, e4, e5⟩ := g_ix (n := 5) hr (by decide)
  rw [EX1_placeIn h1 h5]
  rcases ew with ew | ew
  · have : gIs (σ (rg + 3) r) 0 = true := by rw [ew]; rfl
    rw [this]
    simp +decide only [e4, e5, EX5_highOf, h5, BX1_placeIn_13 h1 h5, BX1_placeIn_33 h1 h5, Option.toList_some, Option.toList_none, List.cons_append, List.nil_append, Nat.zero_add, Nat.reduceAdd, Option.some.injEq, Value.int.injEq, exists_eq_left', true_and, and_true, true_or, or_true, false_or, g_10, ↓reduceIte, el, eq, ew, nI_add, below_eq h1 hlq hn hn2]
  · have : gIs (σ (rg + 3) r) 0 = false := by rw [ew]; rfl
    rw [this]
    simp +decide only [e4, e5, EX5_highOf, h5, BX1_placeIn_13 h1 h5, BX1_placeIn_43 h1 h5, Option.toList_some, Option.toList_none, List.cons_append, List.nil_append, Nat.zero_add, Nat.reduceAdd, Option.some.injEq, Value.int.injEq, exists_eq_left', true_and, and_true, true_or, or_true, false_or, g_10, ↓reduceIte, el, eq, ew, nI_add, above_eq h1 hq hlq hn hn2]
end O27
