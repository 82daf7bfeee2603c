def gCnt (c : Nat → Bool) : Nat → Nat
  | 0 => 0
  | n + 1 => gCnt c n + (if c n = true then 1 else 0)
theorem gCnt_congr {c c' : Nat → Bool} : ∀ {n : Nat}, (∀ i, i < n → c i = c' i) → gCnt c n = gCnt c' n
  | 0, _ => rfl
  | n + 1, h => by
    show gCnt c n + _ = gCnt c' n + _
    rw [gCnt_congr (fun i hi => h i (by omega)), h n (by omega)]
theorem gCnt_zero {c : Nat → Bool} : ∀ {n : Nat}, (∀ i, i < n → c i = false) → gCnt c n = 0
  | 0, _ => rfl
  | n + 1, h => by
    show gCnt c n + _ = 0
    rw [gCnt_zero (fun i hi => h i (by omega)), h n (by omega)]
    rfl
theorem gCnt_rm {c : Nat → Bool} {a : Nat} : ∀ {L : Nat}, a < L → c a = true → gCnt c L = gCnt (fun s => c s && !(s == a)) L + 1
  | 0, h, _ => by omega
  | L + 1, h, hc => by
    show gCnt c L + _ = gCnt _ L + _ + 1
    by_cases e : a = L
    · subst e
      have hg : ∀ i, i < a → c i = (c i && !(i == a)) := fun i hi => by
        have : ¬ i = a := by omega
        simp [this]
      rw [hc, gCnt_congr hg]
      simp
    · rw [gCnt_rm (L := L) (by omega) hc]
      have : ¬ L = a := fun z => e z.symm
      simp [this]
      omega
theorem gCnt_list {t : Nat → Nat} {L : Nat} : ∀ {N : Nat} {c : Nat → Bool}, (∀ k, k < N → t k < L) → (∀ k j, k < j → j < N → t k ≠ t j) → (∀ s, s < L → (c s = true ↔ ∃ k, k < N ∧ t k = s)) → gCnt c L = N
  | 0, c, _, _, h => gCnt_zero fun i hi => by
    rcases hc : c i with _ | _
    · rfl
    · obtain ⟨k, hk, -⟩ := (h i hi).mp hc; omega
  | N + 1, c, h1, h2, h => by
    rw [gCnt_rm (a := t N) (h1 N (by omega)) ((h _ (h1 N (by omega))).mpr ⟨N, by omega, rfl⟩)]
    congr 1
    refine gCnt_list (t := t) (fun k hk => h1 k (by omega)) (fun k j hkj hj => h2 k j hkj (by omega)) (fun s hs => ?_)
    simp only [Bool.and_eq_true, Bool.not_eq_true', beq_eq_false_iff_ne]
    constructor
    · rintro ⟨hc, hn⟩
      obtain ⟨k, hk, e⟩ := (h s hs).mp hc
      refine ⟨k, ?_, e⟩
      rcases Nat.lt_or_ge k N with z | z
      · exact z
      · have : k = N := by omega
        subst this
        exact absurd e.symm hn
    · rintro ⟨k, hk, e⟩
      refine ⟨(h s hs).mpr ⟨k, by omega, e⟩, fun z => ?_⟩
      exact h2 k N hk (by omega) (e.trans z)
theorem gFold_cnt {c : Nat → Bool} : ∀ n : Nat, gFold (fun i (acc : Int32) => if c i = true then acc + 1 else acc) n 0 = nI (gCnt c n)
  | 0 => rfl
  | n + 1 => by
    show (if c n = true then gFold _ n 0 + 1 else gFold _ n 0) = nI (gCnt c n + _)
    rw [gFold_cnt n]
    split
    · rw [nI_1]
    · rfl
theorem gCnt_le {c : Nat → Bool} : ∀ n : Nat, gCnt c n ≤ n
  | 0 => Nat.le_refl _
  | n + 1 => by
    show gCnt c n + _ ≤ n + 1
    have := gCnt_le (c := c) n
    split <;> omega
def gIs (x y : Int32) : Bool := decide (x = y)
def gMany (σ : gM) (w : Int32) : Int32 := gFold (fun i (acc : Int32) => if σ 11 i = w then acc + 1 else acc) 30 0
def gTags (σ : gM) : Int32 := gFold (fun i (acc : Int32) => if σ 11 i = 1 then (if σ 17 i < 0 then acc else acc + 1) else acc) 30 0
def gCells (σ : gM) : Int32 := gFold (fun i (acc : Int32) => if σ 11 i = 0 then acc else acc + σ 13 i) 30 0
def gHold (σ : gM) : Int32 := gFold (fun i (acc : Int32) => if σ 100 i = 0 then acc else acc + 1) 6 0
section O18
variable {G : gG} {d B : Nat} {σ : gM} {K : gK}
theorem many_eq (h : gOK G) {w : Int32} : g_inv (gCm' G (d + 1)) mX0_manyOf [.ref 9, .int w] σ K = K (some (.int (gMany σ w))) σ := by
  rw [EX0_manyOf (hBlk h)]
  refine g_for (W := fun i acc => gw (gCm' G d) G mX0_manyOf K 4 [.ref 9, .int w, .int acc, .int (nI i)] [] σ) (R := fun acc => K (some (.int acc)) σ) (L := 30) (fun i hi acc => ?_) (fun acc => ?_) 0
  · obtain ⟨e1, e2, e3, e4, e5⟩ := g_ix (n := 29) hi (by decide)
    have e2 : nI i < 30 := e2
    rw [BX0_manyOf_4 (hBlk h)]
    simp only [e2, e4, e5, Option.toList_some, Option.toList_none, List.cons_append, List.nil_append, Nat.zero_add, Nat.reduceAdd, Option.some.injEq, Value.int.injEq, exists_eq_left', true_and, and_true, true_or, or_true, false_or, g_10, ↓reduceIte, nI_1]
    split <;> rfl
  · rw [BX0_manyOf_4 (hBlk h)]
    simp only [show ¬ nI 30 < 30 by decide, Option.toList_some, Option.toList_none, List.cons_append, List.nil_append, Nat.zero_add, Nat.reduceAdd, Option.some.injEq, Value.int.injEq, exists_eq_left', true_and, and_true, true_or, or_true, false_or, g_10, ↓reduceIte]
theorem cells_eq (h : gOK G) : g_inv (gCm' G (d + 1)) mX0_cellsInAll [.ref 9] σ K = K (some (.int (gCells σ))) σ := by
  rw [EX0_cellsInAll (hBlk h)]
  refine g_for (W := fun i acc => gw (gCm' G d) G mX0_cellsInAll K 4 [.ref 9, .int acc, .int (nI i)] [] σ) (R := fun acc => K (some (.int acc)) σ) (L := 30) (fun i hi acc => ?_) (fun acc => ?_) 0
  · obtain ⟨e1, e2, e3, e4, e5⟩ := g_ix (n := 29) hi (by decide)
    have e2 : nI i < 30 := e2
    rw [BX0_cellsInAll_4 (hBlk h)]
    simp only [e2, e4, e5, Option.toList_some, Option.toList_none, List.cons_append, List.nil_append, Nat.zero_add, Nat.reduceAdd, Option.some.injEq, Value.int.injEq, exists_eq_left', true_and, and_true, true_or, or_true, false_or, g_10, ↓reduceIte, nI_1]
    split <;> rfl
  · rw [BX0_cellsInAll_4 (hBlk h)]
    simp only [show ¬ nI 30 < 30 by decide, Option.toList_some, Option.toList_none, List.cons_append, List.nil_append, Nat.zero_add, Nat.reduceAdd, Option.some.injEq, Value.int.injEq, exists_eq_left', true_and, and_true, true_or, or_true, false_or, g_10, ↓reduceIte]
theorem holding_eq (h : gOK G) : g_inv (gCm' G (d + 1)) mX2_manyHolding [.ref 99] σ K = K (some (.int (gHold σ))) σ := by
  rw [EX2_manyHolding (hHol h)]
  refine g_for (W := fun i acc => gw (gCm' G d) G mX2_manyHolding K 4 [.ref 99, .int acc, .int (nI i)] [] σ) (R := fun acc => K (some (.int acc)) σ) (L := 6) (fun i hi acc => ?_) (fun acc => ?_) 0
  · obtain ⟨e1, e2, e3, e4, e5⟩ := g_ix (n := 5) hi (by decide)
    have e2 : nI i < 6 := e2
    rw [BX2_manyHolding_4 (hHol h)]
    simp only [e2, e4, e5, Option.toList_some, Option.toList_none, List.cons_append, List.nil_append, Nat.zero_add, Nat.reduceAdd, Option.some.injEq, Value.int.injEq, exists_eq_left', true_and, and_true, true_or, or_true, false_or, g_10, ↓reduceIte, nI_1]
    split <;> rfl
  · rw [BX2_manyHolding_4 (hHol h)]
    simp only [show ¬ nI 6 < 6 by decide, Option.toList_some, Option.toList_none, List.cons_append, List.nil_append, Nat.zero_add, Nat.reduceAdd, Option.some.injEq, Value.int.injEq, exists_eq_left', true_and, and_true, true_or, or_true, false_or, g_10, ↓reduceIte]
theorem liveMany_eq (h : gOK G) (hR : wRel B σ) {σ' : gM} (hq : σ' 105 = σ 105) : g_inv (gCm' G (d + 3)) mX10_liveMany [.ref 104, .int (-1)] σ' K = K (some (.int (gMany σ 1))) σ' := by
  rw [EX10_liveMany h.2]
  refine g_for (W := fun i acc => gw (gCm' G (d + 2)) G mX10_liveMany K 4 [.ref 104, .int (-1), .int acc, .int (nI i)] [] σ') (R := fun acc => K (some (.int acc)) σ') (L := 30) (fun i hi acc => ?_) (fun acc => ?_) 0
  · obtain ⟨e1, e2, e3, e4, e5⟩ := g_ix (n := 29) hi (by decide)
    have e2 : nI i < 30 := e2
    rw [BX10_liveMany_4 h.2]
    simp only [e2, Option.toList_some, Option.toList_none, List.cons_append, List.nil_append, Nat.zero_add, Nat.reduceAdd, Option.some.injEq, Value.int.injEq, exists_eq_left', true_and, and_true, true_or, or_true, false_or, g_10, ↓reduceIte, live_eq h hi, hq, rs0 hR _ hi, BX10_liveMany_16 h.2, show (-1 : Int32) < 0 by decide, nI_1, Int32.add_zero]
    split <;> rfl
  · rw [BX10_liveMany_4 h.2]
    simp only [show ¬ nI 30 < 30 by decide, Option.toList_some, Option.toList_none, List.cons_append, List.nil_append, Nat.zero_add, Nat.reduceAdd, Option.some.injEq, Value.int.injEq, exists_eq_left', true_and, and_true, true_or, or_true, false_or, g_10, ↓reduceIte]
theorem tagsMany_eq (h : gOK G) (hR : wRel B σ) {σ' : gM} (hq : σ' 105 = σ 105) : g_inv (gCm' G (d + 3)) mX10_tagsMany [.ref 104] σ' K = K (some (.int (gTags σ))) σ' := by
  rw [EX10_tagsMany h.2]
  refine g_for (W := fun i acc => gw (gCm' G (d + 2)) G mX10_tagsMany K 4 [.ref 104, .int acc, .int (nI i)] [] σ') (R := fun acc => K (some (.int acc)) σ') (L := 30) (fun i hi acc => ?_) (fun acc => ?_) 0
  · obtain ⟨e1, e2, e3, e4, e5⟩ := g_ix (n := 29) hi (by decide)
    have e2 : nI i < 30 := e2
    rw [BX10_tagsMany_4 h.2]
    simp only [e2, Option.toList_some, Option.toList_none, List.cons_append, List.nil_append, Nat.zero_add, Nat.reduceAdd, Option.some.injEq, Value.int.injEq, exists_eq_left', true_and, and_true, true_or, or_true, false_or, g_10, ↓reduceIte, live_eq h hi, at_7 h hi, hq, rs0 hR _ hi, rs7 hR _ hi, BX10_tagsMany_16 h.2, BX10_tagsMany_26 h.2, nI_1, Int32.add_zero]
    split
    · split <;> rfl
    · rfl
  · rw [BX10_tagsMany_4 h.2]
    simp only [show ¬ nI 30 < 30 by decide, Option.toList_some, Option.toList_none, List.cons_append, List.nil_append, Nat.zero_add, Nat.reduceAdd, Option.some.injEq, Value.int.injEq, exists_eq_left', true_and, and_true, true_or, or_true, false_or, g_10, ↓reduceIte]
theorem gTags_eq (hR : wRel B σ) : gTags σ = σ 19 0 := by
  obtain ⟨t1, t2, t3, t4, t5⟩ := hR.1.2.1
  have t1 : gNn (σ 19 0) 30 := t1
  have hN := gCnt_list (t := fun k => gN (σ 20 k)) (L := 30) (N := gN (σ 19 0)) (c := fun s => decide (σ 11 s = 1 ∧ ¬ σ 17 s < 0)) (fun k hk => by have := (t3 k hk).1.2; exact Nat.lt_succ_of_le this) (fun k j hkj hj e => (t5 k j hkj hj).2 (congrArg (σ 17) e)) (fun s hs => ?_)
  · have e : gTags σ = nI (gCnt (fun s => decide (σ 11 s = 1 ∧ ¬ σ 17 s < 0)) 30) := by
      rw [← gFold_cnt]
      refine gFold_congr (fun i hi a => ?_) 0
      by_cases c1 : σ 11 i = 1 <;> by_cases c2 : σ 17 i < 0 <;> simp [c1, c2]
    rw [e, hN]
    exact t1.1.symm
  · simp only [decide_eq_true_eq]
    constructor
    · rintro ⟨h1, h2⟩
      obtain ⟨k, hk, e⟩ := t4 s hs h1 (fun z => h2 (by rw [show σ 17 s = -1 from z]; decide))
      exact ⟨k, hk, (congrArg gN (show σ 20 k = nI s from e)).trans (gN_nI (by omega))⟩
    · rintro ⟨k, hk, e⟩
      obtain ⟨u1, u2, u3, -⟩ := t3 k hk
      have e : gN (σ 20 k) = s := e
      have u2 : σ 11 (gN (σ 20 k)) = 1 := u2
      have u3 : σ 17 (gN (σ 20 k)) ≠ -1 := u3
      rw [e] at u2 u3
      exact ⟨u2, gNn_neg (((rSl hR s hs).2.2.2.1).resolve_left u3) (by decide)⟩
theorem op_count (h : gOK G) (hB : B < 1000000) (hR : wRel B σ) (hm : σ 126 0 = 0) (w : Int32) : gOp G (d + 4) B mX9_count mX10_count [.int w] σ := by
  unfold gOp
  have hbad : ¬ w = 0 → ¬ w = 1 → ¬ w = 2 → ¬ w = 3 → ¬ w = 4 → ¬ w = 5 → ¬ w = 6 → ¬ w = 7 → g_inv (gCm' G (d + 4)) mX9_count [.ref 0, .int w] σ fun r1 σ1 => ∃ r, r1 = some (.int r) ∧ g_inv (gCm' G (d + 4)) mX10_count [.ref 104, .int w] σ1 fun r2 σ2 => r2 = some (.int r) ∧ wRel (B + 1) σ2 := fun h0 h1 h2 h3 h4 h5 h6 h7 => by
    simp only [EX9_count, EX10_count, Option.toList_some, Option.toList_none, List.cons_append, List.nil_append, Nat.zero_add, Nat.reduceAdd, Option.some.injEq, Value.int.injEq, exists_eq_left', true_and, and_true, true_or, or_true, false_or, g_10, ↓reduceIte, h.1, h.2, hNow h, hReg h, hGrd h, hBlk h, hTgo h, hWlk h, hPln h, hTap h, hHol h, h0, h1, h2, h3, h4, h5, h6, h7]
    exact wRel_up hR (by omega)
  by_cases h0 : w = 0
  · subst h0
    simp +decide only [EX9_count, EX10_count, Option.toList_some, Option.toList_none, List.cons_append, List.nil_append, Nat.zero_add, Nat.reduceAdd, Option.some.injEq, Value.int.injEq, exists_eq_left', true_and, and_true, true_or, or_true, false_or, g_10, ↓reduceIte, h.1, h.2, hNow h, hReg h, hGrd h, hBlk h, hTgo h, hWlk h, hPln h, hTap h, hHol h, vp570, cl570, r570 hR]
    exact wRel_up hR (by omega)
  by_cases h1 : w = 1
  · subst h1
    simp +decide only [EX9_count, EX10_count, Option.toList_some, Option.toList_none, List.cons_append, List.nil_append, Nat.zero_add, Nat.reduceAdd, Option.some.injEq, Value.int.injEq, exists_eq_left', true_and, and_true, true_or, or_true, false_or, g_10, ↓reduceIte, h.1, h.2, hNow h, hReg h, hGrd h, hBlk h, hTgo h, hWlk h, hPln h, hTap h, hHol h, many_eq h, liveMany_eq h hR, BX9_count_70, BX10_count_62]
    exact wRel_up hR (by omega)
  by_cases h2 : w = 2
  · subst h2
    simp +decide only [EX9_count, EX10_count, Option.toList_some, Option.toList_none, List.cons_append, List.nil_append, Nat.zero_add, Nat.reduceAdd, Option.some.injEq, Value.int.injEq, exists_eq_left', true_and, and_true, true_or, or_true, false_or, g_10, ↓reduceIte, h.1, h.2, hNow h, hReg h, hGrd h, hBlk h, hTgo h, hWlk h, hPln h, hTap h, hHol h, many_eq h, BX9_count_82]
    have key := g_for (W := fun i acc => gw (gCm' G (d + 3)) G mX10_count (fun r2 σ2 => r2 = some (.int (gMany σ 2)) ∧ wRel (B + 1) σ2) 65 [.ref 104, .int 2, .int acc, .int (nI i)] [] σ) (R := fun acc => (some (Value.int acc) = some (.int (gMany σ 2)) ∧ wRel (B + 1) σ)) (F := fun i (acc : Int32) => if σ 11 i = 2 then acc + 1 else acc) (L := 30) (fun i hi acc => ?_) (fun acc => ?_) 0
    · exact key.mpr ⟨rfl, wRel_up hR (by omega)⟩
    · obtain ⟨e1, e2, e3, e4, e5⟩ := g_ix (n := 29) hi (by decide)
      have e2 : nI i < 30 := e2
      rw [BX10_count_65 h.2]
      simp only [e2, ↓reduceIte, at_0 h hi, Option.toList_some, List.cons_append, List.nil_append, rs0 hR _ hi, BX10_count_78 h.2, nI_1, Int32.add_zero]
      split <;> rfl
    · rw [BX10_count_65 h.2]
      simp only [show ¬ nI 30 < 30 by decide, ↓reduceIte]
  by_cases h3 : w = 3
  · subst h3
    simp +decide only [EX9_count, EX10_count, Option.toList_some, Option.toList_none, List.cons_append, List.nil_append, Nat.zero_add, Nat.reduceAdd, Option.some.injEq, Value.int.injEq, exists_eq_left', true_and, and_true, true_or, or_true, false_or, g_10, ↓reduceIte, h.1, h.2, hNow h, hReg h, hGrd h, hBlk h, hTgo h, hWlk h, hPln h, hTap h, hHol h, tagsMany_eq h hR, gTags_eq hR, BX10_count_101]
    exact wRel_up hR (by omega)
  by_cases h4 : w = 4
  · subst h4
    simp +decide only [EX9_count, EX10_count, Option.toList_some, Option.toList_none, List.cons_append, List.nil_append, Nat.zero_add, Nat.reduceAdd, Option.some.injEq, Value.int.injEq, exists_eq_left', true_and, and_true, true_or, or_true, false_or, g_10, ↓reduceIte, h.1, h.2, hNow h, hReg h, hGrd h, hBlk h, hTgo h, hWlk h, hPln h, hTap h, hHol h, vp605, cl605, r605 hR]
    exact wRel_up hR (by omega)
  by_cases h5 : w = 5
  · subst h5
    simp +decide only [EX9_count, EX10_count, Option.toList_some, Option.toList_none, List.cons_append, List.nil_append, Nat.zero_add, Nat.reduceAdd, Option.some.injEq, Value.int.injEq, exists_eq_left', true_and, and_true, true_or, or_true, false_or, g_10, ↓reduceIte, h.1, h.2, hNow h, hReg h, hGrd h, hBlk h, hTgo h, hWlk h, hPln h, hTap h, hHol h, cells_eq h, BX9_count_112]
    have key := g_for (W := fun i acc => gw (gCm' G (d + 3)) G mX10_count (fun r2 σ2 => r2 = some (.int (gCells σ)) ∧ wRel (B + 1) σ2) 113 [.ref 104, .int 5, .int acc, .int (nI i)] [] σ) (R := fun acc => (some (Value.int acc) = some (.int (gCells σ)) ∧ wRel (B + 1) σ)) (F := fun i (acc : Int32) => if σ 11 i = 0 then acc else acc + σ 13 i) (L := 30) (fun i hi acc => ?_) (fun acc => ?_) 0
    · exact key.mpr ⟨rfl, wRel_up hR (by omega)⟩
    · obtain ⟨e1, e2, e3, e4, e5⟩ := g_ix (n := 29) hi (by decide)
      have e2 : nI i < 30 := e2
      rw [BX10_count_113 h.2]
      simp only [e2, ↓reduceIte, at_0 h hi, at_3 h hi, Option.toList_some, List.cons_append, List.nil_append, rs0 hR _ hi, rs3 hR _ hi, BX10_count_126 h.2, BX10_count_135 h.2, nI_1, Int32.add_zero]
      split <;> rfl
    · rw [BX10_count_113 h.2]
      simp only [show ¬ nI 30 < 30 by decide, ↓reduceIte]
  by_cases h6 : w = 6
  · subst h6
    simp +decide only [EX9_count, EX10_count, Option.toList_some, Option.toList_none, List.cons_append, List.nil_append, Nat.zero_add, Nat.reduceAdd, Option.some.injEq, Value.int.injEq, exists_eq_left', true_and, and_true, true_or, or_true, false_or, g_10, ↓reduceIte, h.1, h.2, hNow h, hReg h, hGrd h, hBlk h, hTgo h, hWlk h, hPln h, hTap h, hHol h, hR.2.2.1.1.1 hm]
    exact wRel_up hR (by omega)
  by_cases h7 : w = 7
  · subst h7
    simp +decide only [EX9_count, EX10_count, Option.toList_some, Option.toList_none, List.cons_append, List.nil_append, Nat.zero_add, Nat.reduceAdd, Option.some.injEq, Value.int.injEq, exists_eq_left', true_and, and_true, true_or, or_true, false_or, g_10, ↓reduceIte, h.1, h.2, hNow h, hReg h, hGrd h, hBlk h, hTgo h, hWlk h, hPln h, hTap h, hHol h, holding_eq h, BX9_count_128]
    have key := g_for (W := fun i acc => gw (gCm' G (d + 3)) G mX10_count (fun r2 σ2 => r2 = some (.int (gHold σ)) ∧ wRel (B + 1) σ2) 156 [.ref 104, .int 7, .int acc, .int (nI i)] [] σ) (R := fun acc => (some (Value.int acc) = some (.int (gHold σ)) ∧ wRel (B + 1) σ)) (F := fun i (acc : Int32) => if σ 100 i = 0 then acc else acc + 1) (L := 6) (fun i hi acc => ?_) (fun acc => ?_) 0
    · exact key.mpr ⟨rfl, wRel_up hR (by omega)⟩
    · obtain ⟨e1, e2, e3, e4, e5⟩ := g_ix (n := 5) hi (by decide)
      have e2 : nI i < 6 := e2
      rw [BX10_count_156 h.2]
      simp only [e2, e4, e5, ↓reduceIte, true_and, (hR.2.2.2 i hi).1, nI_1, Int32.add_zero, Nat.reduceAdd]
      split <;> rfl
    · rw [BX10_count_156 h.2]
      simp only [show ¬ nI 6 < 6 by decide, ↓reduceIte]
  exact hbad h0 h1 h2 h3 h4 h5 h6 h7
end O18
