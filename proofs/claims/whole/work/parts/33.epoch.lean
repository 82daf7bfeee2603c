section O33
variable {G : gG} {d B : Nat} {σ : gM} {K : gK}
/-- who sees the block of a slot -/
def gSee (σ : gM) (s : Nat) : Option Nat := gFst (fun r => decide (σ 22 r ≠ -1 ∧ ¬ σ 18 s < σ 22 r)) 6 0
def gFrb (σ : gM) (s : Nat) : Bool := decide (σ 11 s = 2) && (gSee σ s).isNone
def gFrs (σ : gM) (n : Nat) : Int32 := gFold (fun i (acc : Int32) => if gFrb σ i = true then acc + 1 else acc) n 0
theorem gFrb_t {s : Nat} (h1 : σ 11 s = 2) (h2 : gSee σ s = none) : gFrb σ s = true := by unfold gFrb; rw [h1, h2]; rfl
theorem gFrb_f {s : Nat} (h1 : ¬ σ 11 s = 2) : gFrb σ s = false := by unfold gFrb; rw [decide_eq_false h1]; rfl
theorem gFrb_s {s k : Nat} (h2 : gSee σ s = some k) : gFrb σ s = false := by unfold gFrb; rw [h2]; simp
theorem isFrb_eq (h : gOK G) {z : gM} {s : Nat} (hs : s < 30) (h11 : z 11 s = σ 11 s) (h18 : z 18 = σ 18) (h22 : z 22 = σ 22) : g_inv (gCm' G (d + 1)) mX3_isFreeable [.ref 1, .int (nI s)] z K = K (some (.int (if gFrb σ s = true then 1 else 0))) z := by
  obtain ⟨f1, f2, f3, f4, f5⟩ := g_ix (n := 29) hs (by decide)
  by_cases c : σ 11 s = 2
  · have lp : gw (gCm' G d) G mX3_isFreeable K 17 [.ref 1, .int (nI s), .int (nI 0)] [] z = match gSee σ s with
        | some _ => K (some (.int 0)) z
        | none => K (some (.int 1)) z := by
      refine (g_find (W := fun i (_ : Unit) => gw (gCm' G d) G mX3_isFreeable K 17 [.ref 1, .int (nI s), .int (nI i)] [] z) (F := fun _ _ => ()) (c := fun r => decide (σ 22 r ≠ -1 ∧ ¬ σ 18 s < σ 22 r)) (R := fun _ => K (some (.int 0)) z) (E := K (some (.int 1)) z) (L := 6) (fun i hi v => ?_) (fun v => ?_) ())
      · obtain ⟨e1, e2, e3, e4, e5⟩ := g_ix (n := 5) hi (by decide)
        have e2 : nI i < 6 := e2
        rw [BX3_isFreeable_17 (hNow h)]
        by_cases c1 : σ 22 i = -1 <;> by_cases c2 : σ 18 s < σ 22 i <;>
          simp +decide only [e2, e4, e5, f4, f5, h18, h22, Option.toList_some, Option.toList_none, List.cons_append, List.nil_append, Nat.zero_add, Nat.reduceAdd, Option.some.injEq, Value.int.injEq, exists_eq_left', true_and, and_true, true_or, or_true, false_or, g_10, ↓reduceIte, nI_1, c1, c2, ne_eq, not_true_eq_false, not_false_eq_true, and_self, and_true, true_and, false_and, and_false, decide_true, decide_false]
      · rw [BX3_isFreeable_17 (hNow h)]
        simp only [show ¬ nI 6 < 6 by decide, Option.toList_some, Option.toList_none, List.cons_append, List.nil_append, Nat.zero_add, Nat.reduceAdd, Option.some.injEq, Value.int.injEq, exists_eq_left', true_and, and_true, true_or, or_true, false_or, g_10, ↓reduceIte]
    rw [EX3_isFreeable (hNow h)]
    have e0 : (0 : Int32) = nI 0 := rfl
    simp only [f4, f5, h11, c, Option.toList_some, Option.toList_none, List.cons_append, List.nil_append, Nat.zero_add, Nat.reduceAdd, Option.some.injEq, Value.int.injEq, exists_eq_left', true_and, and_true, true_or, or_true, false_or, g_10, ↓reduceIte, e0, lp]
    cases hf : gSee σ s with
    | none => rw [gFrb_t c hf]; rfl
    | some k => rw [gFrb_s hf]; rfl
  · rw [EX3_isFreeable (hNow h)]
    simp only [f4, f5, h11, c, Option.toList_some, Option.toList_none, List.cons_append, List.nil_append, Nat.zero_add, Nat.reduceAdd, Option.some.injEq, Value.int.injEq, exists_eq_left', true_and, and_true, true_or, or_true, false_or, g_10, ↓reduceIte, gFrb_f c]
    rfl
theorem isSn_eq (h : gOK G) (hB : B < 1000000) (hR : wRel B σ) {z : gM} {s : Nat} (hs : s < 30) (h9 : z 105 (s * 11 + 9) = σ 18 s) (h22 : ∀ r, r < 6 → z 105 (599 + r) = σ 22 r) : g_inv (gCm' G (d + 2)) mX10_isSeen [.ref 104, .int (nI s)] z K = K (some (.int (if (gSee σ s).isNone = true then 0 else 1))) z := by
  have lp : gw (gCm' G (d + 1)) G mX10_isSeen K 2 [.ref 104, .int (nI s), .int (nI 0)] [] z = match gSee σ s with
      | some _ => K (some (.int 1)) z
      | none => K (some (.int 0)) z := by
    refine (g_find (W := fun i (_ : Unit) => gw (gCm' G (d + 1)) G mX10_isSeen K 2 [.ref 104, .int (nI s), .int (nI i)] [] z) (F := fun _ _ => ()) (c := fun r => decide (σ 22 r ≠ -1 ∧ ¬ σ 18 s < σ 22 r)) (R := fun _ => K (some (.int 1)) z) (E := K (some (.int 0)) z) (L := 6) (fun i hi v => ?_) (fun v => ?_) ())
    · obtain ⟨e1, e2, e3, e4, e5⟩ := g_ix (n := 5) hi (by decide)
      have e2 : nI i < 6 := e2
      have ea : (599 : Int32) + nI i = nI (599 + i) := nI_add 599 i
      have ec : vp_in (nI (599 + i)) 607 := vp_c (by omega)
      have ed : (nI (599 + i)).toNatClampNeg = 599 + i := nI_clamp (by omega)
      rw [BX10_isSeen_2 h.2]
      by_cases c1 : σ 22 i = -1
      · simp +decide only [e2, ea, ec, ed, h22 i hi, Option.toList_some, Option.toList_none, List.cons_append, List.nil_append, Nat.zero_add, Nat.reduceAdd, Option.some.injEq, Value.int.injEq, exists_eq_left', true_and, and_true, true_or, or_true, false_or, g_10, ↓reduceIte, nI_1, c1, ne_eq, not_true_eq_false, false_and, decide_false]
      · have c3 : ¬ σ 22 i < 0 := gNn_neg ((rIn hR i hi).resolve_left c1) (by omega)
        by_cases c2 : σ 18 s < σ 22 i <;>
          simp +decide only [e2, ea, ec, ed, h22 i hi, at_9 h hs, BX10_isSeen_38 h.2, h9, Option.toList_some, Option.toList_none, List.cons_append, List.nil_append, Nat.zero_add, Nat.reduceAdd, Option.some.injEq, Value.int.injEq, exists_eq_left', true_and, and_true, true_or, or_true, false_or, g_10, ↓reduceIte, nI_1, c1, c2, c3, ne_eq, not_true_eq_false, not_false_eq_true, and_self, and_true, true_and, false_and, and_false, decide_true, decide_false]
    · rw [BX10_isSeen_2 h.2]
      simp only [show ¬ nI 6 < 6 by decide, Option.toList_some, Option.toList_none, List.cons_append, List.nil_append, Nat.zero_add, Nat.reduceAdd, Option.some.injEq, Value.int.injEq, exists_eq_left', true_and, and_true, true_or, or_true, false_or, g_10, ↓reduceIte]
  rw [EX10_isSeen h.2]
  refine Eq.trans lp ?_
  cases hf : gSee σ s <;> rfl
theorem freeable_eq (h : gOK G) : g_inv (gCm' G (d + 2)) mX3_freeable [.ref 1] σ K = K (some (.int (gFrs σ 30))) σ := by
  rw [EX3_freeable (hNow h)]
  refine g_for (W := fun i acc => gw (gCm' G (d + 1)) G mX3_freeable K 4 [.ref 1, .int acc, .int (nI i)] [] σ) (R := fun acc => K (some (.int acc)) σ) (F := fun i (acc : Int32) => if gFrb σ i = true then acc + 1 else acc) (L := 30) (fun i hi acc => ?_) (fun acc => ?_) 0
  · obtain ⟨e1, e2, e3, e4, e5⟩ := g_ix (n := 29) hi (by decide)
    have e2 : nI i < 30 := e2
    rw [BX3_freeable_4 (hNow h)]
    by_cases c : gFrb σ i = true <;>
      simp +decide only [e2, Option.toList_some, Option.toList_none, List.cons_append, List.nil_append, Nat.zero_add, Nat.reduceAdd, Option.some.injEq, Value.int.injEq, exists_eq_left', true_and, and_true, true_or, or_true, false_or, g_10, ↓reduceIte, isFrb_eq h hi rfl rfl rfl, BX3_freeable_15 (hNow h), c, nI_1]
  · rw [BX3_freeable_4 (hNow h)]
    simp only [show ¬ nI 30 < 30 by decide, Option.toList_some, Option.toList_none, List.cons_append, List.nil_append, Nat.zero_add, Nat.reduceAdd, Option.some.injEq, Value.int.injEq, exists_eq_left', true_and, and_true, true_or, or_true, false_or, g_10, ↓reduceIte]
theorem mFreeable_eq (h : gOK G) (hB : B < 1000000) (hR : wRel B σ) {z : gM} (hz : z 105 = σ 105) : g_inv (gCm' G (d + 3)) mX10_freeable [.ref 104] z K = K (some (.int (gFrs σ 30))) z := by
  rw [EX10_freeable h.2]
  refine g_for (W := fun i acc => gw (gCm' G (d + 2)) G mX10_freeable K 4 [.ref 104, .int acc, .int (nI i)] [] z) (R := fun acc => K (some (.int acc)) z) (F := fun i (acc : Int32) => if gFrb σ i = true then acc + 1 else acc) (L := 30) (fun i hi acc => ?_) (fun acc => ?_) 0
  · obtain ⟨e1, e2, e3, e4, e5⟩ := g_ix (n := 29) hi (by decide)
    have e2 : nI i < 30 := e2
    rw [BX10_freeable_4 h.2]
    by_cases c : σ 11 i = 2
    · cases hf : gSee σ i with
      | none => simp +decide only [e2, Option.toList_some, Option.toList_none, List.cons_append, List.nil_append, Nat.zero_add, Nat.reduceAdd, Option.some.injEq, Value.int.injEq, exists_eq_left', true_and, and_true, true_or, or_true, false_or, g_10, ↓reduceIte, at_0 h hi, hz, rs0 hR _ hi, BX10_freeable_17 h.2, BX10_freeable_26 h.2, isSn_eq h hB hR hi (hz ▸ rs9 hR _ hi) (fun r hr => hz ▸ r599 hR _ hr), c, hf, gFrb_t c hf, nI_1, Option.isNone_none]
      | some k => simp +decide only [e2, Option.toList_some, Option.toList_none, List.cons_append, List.nil_append, Nat.zero_add, Nat.reduceAdd, Option.some.injEq, Value.int.injEq, exists_eq_left', true_and, and_true, true_or, or_true, false_or, g_10, ↓reduceIte, at_0 h hi, hz, rs0 hR _ hi, BX10_freeable_17 h.2, BX10_freeable_26 h.2, isSn_eq h hB hR hi (hz ▸ rs9 hR _ hi) (fun r hr => hz ▸ r599 hR _ hr), c, hf, gFrb_s hf, nI_1, Option.isNone_some, Int32.add_zero]
    · simp +decide only [e2, Option.toList_some, Option.toList_none, List.cons_append, List.nil_append, Nat.zero_add, Nat.reduceAdd, Option.some.injEq, Value.int.injEq, exists_eq_left', true_and, and_true, true_or, or_true, false_or, g_10, ↓reduceIte, at_0 h hi, hz, rs0 hR _ hi, BX10_freeable_17 h.2, c, gFrb_f c, nI_1, Int32.add_zero]
  · rw [BX10_freeable_4 h.2]
    simp only [show ¬ nI 30 < 30 by decide, Option.toList_some, Option.toList_none, List.cons_append, List.nil_append, Nat.zero_add, Nat.reduceAdd, Option.some.injEq, Value.int.injEq, exists_eq_left', true_and, and_true, true_or, or_true, false_or, g_10, ↓reduceIte]
def gIns (σ : gM) (k : Nat) : Int32 := gFold (fun i (acc : Int32) => if σ 22 i = -1 then acc else acc ||| (1 <<< (nI i &&& 31))) k 0
def gEar (σ : gM) : Nat → Option Nat
  | 0 => none
  | i + 1 => if σ 22 i = -1 then gEar σ i else match gEar σ i with
    | none => some i
    | some e => if σ 22 i < σ 22 e then some i else some e
theorem gEar_lt : ∀ {k e : Nat}, gEar σ k = some e → e < k
  | 0, _, h => by cases h
  | k + 1, e, h => by
    unfold gEar at h
    split at h
    · have := gEar_lt h; omega
    · split at h
      · cases h; omega
      · next e' he =>
        have := gEar_lt he
        split at h <;> cases h <;> omega
theorem readers_eq (h : gOK G) : g_inv (gCm' G (d + 1)) mX3_readersIn [.ref 1] σ K = K (some (.int (gIns σ 6))) σ := by
  rw [EX3_readersIn (hNow h)]
  refine g_for (W := fun i acc => gw (gCm' G d) G mX3_readersIn K 4 [.ref 1, .int acc, .int (nI i)] [] σ) (R := fun acc => K (some (.int acc)) σ) (F := fun i (acc : Int32) => if σ 22 i = -1 then acc else acc ||| (1 <<< (nI i &&& 31))) (L := 6) (fun i hi acc => ?_) (fun acc => ?_) 0
  · obtain ⟨e1, e2, e3, e4, e5⟩ := g_ix (n := 5) hi (by decide)
    have e2 : nI i < 6 := e2
    rw [BX3_readersIn_4 (hNow h)]
    by_cases c : σ 22 i = -1 <;> simp only [e2, e4, e5, Option.toList_some, Option.toList_none, List.cons_append, List.nil_append, Nat.zero_add, Nat.reduceAdd, Option.some.injEq, Value.int.injEq, exists_eq_left', true_and, and_true, true_or, or_true, false_or, g_10, ↓reduceIte, c, nI_1]
  · rw [BX3_readersIn_4 (hNow h)]
    simp only [show ¬ nI 6 < 6 by decide, Option.toList_some, Option.toList_none, List.cons_append, List.nil_append, Nat.zero_add, Nat.reduceAdd, Option.some.injEq, Value.int.injEq, exists_eq_left', true_and, and_true, true_or, or_true, false_or, g_10, ↓reduceIte]
theorem earliest_eq (h : gOK G) : g_inv (gCm' G (d + 1)) mX3_earliestReader [.ref 1] σ K = K (some (.int (gAns (gEar σ 6) (-1)))) σ := by
  rw [EX3_earliestReader (hNow h)]
  have key : ∀ k, k ≤ 6 → gw (gCm' G d) G mX3_earliestReader K 4 [.ref 1, .int (-1), .int 0] [] σ = gw (gCm' G d) G mX3_earliestReader K 4 [.ref 1, .int (gAns (gEar σ k) (-1)), .int (nI k)] [] σ := by
    intro k
    induction k with
    | zero => intro _; rfl
    | succ i ih =>
      intro hi
      rw [ih (by omega), BX3_earliestReader_4 (hNow h)]
      obtain ⟨e1, e2, e3, e4, e5⟩ := g_ix (n := 5) (show i < 5 + 1 by omega) (by decide)
      have e2 : nI i < 6 := e2
      by_cases c : σ 22 i = -1
      · have : gEar σ (i + 1) = gEar σ i := by show (if _ then _ else _) = _; rw [if_pos c]
        rw [this]
        simp only [e2, e4, e5, Option.toList_some, Option.toList_none, List.cons_append, List.nil_append, Nat.zero_add, Nat.reduceAdd, Option.some.injEq, Value.int.injEq, exists_eq_left', true_and, and_true, true_or, or_true, false_or, g_10, ↓reduceIte, c, nI_1]
      · cases he : gEar σ i with
        | none =>
          have : gEar σ (i + 1) = some i := by show (if _ then _ else _) = _; rw [if_neg c, he]
          rw [this]
          simp only [e2, e4, e5, Option.toList_some, Option.toList_none, List.cons_append, List.nil_append, Nat.zero_add, Nat.reduceAdd, Option.some.injEq, Value.int.injEq, exists_eq_left', true_and, and_true, true_or, or_true, false_or, g_10, ↓reduceIte, c, nI_1, gAns]
        | some e =>
          have := gEar_lt he
          obtain ⟨u1, u2, u3, u4, u5⟩ := g_ix (n := 5) (show e < 5 + 1 by omega) (by decide)
          have em := g_m1 (j := e) (by omega)
          by_cases c2 : σ 22 i < σ 22 e
          · have : gEar σ (i + 1) = some i := by show (if _ then _ else _) = _; rw [if_neg c, he]; exact if_pos c2
            rw [this]
            simp only [e2, e4, e5, u4, u5, em, c2, Option.toList_some, Option.toList_none, List.cons_append, List.nil_append, Nat.zero_add, Nat.reduceAdd, Option.some.injEq, Value.int.injEq, exists_eq_left', true_and, and_true, true_or, or_true, false_or, g_10, ↓reduceIte, c, nI_1, gAns]
          · have : gEar σ (i + 1) = some e := by show (if _ then _ else _) = _; rw [if_neg c, he]; exact if_neg c2
            rw [this]
            simp only [e2, e4, e5, u4, u5, em, c2, Option.toList_some, Option.toList_none, List.cons_append, List.nil_append, Nat.zero_add, Nat.reduceAdd, Option.some.injEq, Value.int.injEq, exists_eq_left', true_and, and_true, true_or, or_true, false_or, g_10, ↓reduceIte, c, nI_1, gAns]
  rw [key 6 (Nat.le_refl _), BX3_earliestReader_4 (hNow h)]
  simp only [show ¬ nI 6 < 6 by decide, Option.toList_some, Option.toList_none, List.cons_append, List.nil_append, Nat.zero_add, Nat.reduceAdd, Option.some.injEq, Value.int.injEq, exists_eq_left', true_and, and_true, true_or, or_true, false_or, g_10, ↓reduceIte]
theorem op_epochs (h : gOK G) (hB : B < 1000000) (hR : wRel B σ) (w : Int32) : gOp G (d + 4) B mX9_epochs mX10_epochs [.int w] σ := by
  unfold gOp
  have lp : ∀ (w : Int32) (K : gK), gw (gCm' G (d + 3)) G mX10_epochs K 19 [.ref 104, .int w, .int 0, .int (-2), .int 0] [] σ = if w = 0 then K (some (.int (gFrs σ 30))) σ else if w = 1 then K (some (.int (gAns (gEar σ 6) (-2)))) σ else K (some (.int (gIns σ 6))) σ := fun w K => by
    have key : ∀ k, k ≤ 6 → gw (gCm' G (d + 3)) G mX10_epochs K 19 [.ref 104, .int w, .int 0, .int (-2), .int 0] [] σ = gw (gCm' G (d + 3)) G mX10_epochs K 19 [.ref 104, .int w, .int (gIns σ k), .int (gAns (gEar σ k) (-2)), .int (nI k)] [] σ := by
      intro k
      induction k with
      | zero => intro _; rfl
      | succ i ih =>
        intro hi
        rw [ih (by omega), BX10_epochs_19 h.2]
        obtain ⟨e1, e2, e3, e4, e5⟩ := g_ix (n := 5) (show i < 5 + 1 by omega) (by decide)
        have e2 : nI i < 6 := e2
        have ea : (599 : Int32) + nI i = nI (599 + i) := nI_add 599 i
        have ec : vp_in (nI (599 + i)) 607 := vp_c (by omega)
        have ed : (nI (599 + i)).toNatClampNeg = 599 + i := nI_clamp (by omega)
        by_cases c : σ 22 i = -1
        · have t1 : gEar σ (i + 1) = gEar σ i := by show (if _ then _ else _) = _; rw [if_pos c]
          have t2 : gIns σ (i + 1) = gIns σ i := by show (if _ then _ else _) = _; rw [if_pos c]; rfl
          rw [t1, t2]
          simp +decide only [e2, ea, ec, ed, r599 hR i (by omega), Option.toList_some, Option.toList_none, List.cons_append, List.nil_append, Nat.zero_add, Nat.reduceAdd, Option.some.injEq, Value.int.injEq, exists_eq_left', true_and, and_true, true_or, or_true, false_or, g_10, ↓reduceIte, c, nI_1]
        · have t2 : gIns σ (i + 1) = gIns σ i ||| (1 <<< (nI i &&& 31)) := by show (if _ then _ else _) = _; rw [if_neg c]; rfl
          have c3 : ¬ σ 22 i < 0 := gNn_neg ((rIn hR i (by omega)).resolve_left c) (by omega)
          cases he : gEar σ i with
          | none =>
            have t1 : gEar σ (i + 1) = some i := by show (if _ then _ else _) = _; rw [if_neg c, he]
            rw [t1, t2]
            simp +decide only [e2, ea, ec, ed, r599 hR i (by omega), Option.toList_some, Option.toList_none, List.cons_append, List.nil_append, Nat.zero_add, Nat.reduceAdd, Option.some.injEq, Value.int.injEq, exists_eq_left', true_and, and_true, true_or, or_true, false_or, g_10, ↓reduceIte, c3, nI_1, gAns]
          | some e =>
            have := gEar_lt he
            have eb : (599 : Int32) + nI e = nI (599 + e) := nI_add 599 e
            have ef : vp_in (nI (599 + e)) 607 := vp_c (by omega)
            have eg : (nI (599 + e)).toNatClampNeg = 599 + e := nI_clamp (by omega)
            have en : ¬ nI e < 0 := nI_pos (by omega)
            by_cases c2 : σ 22 i < σ 22 e
            · have t1 : gEar σ (i + 1) = some i := by show (if _ then _ else _) = _; rw [if_neg c, he]; exact if_pos c2
              rw [t1, t2]
              simp +decide only [e2, ea, ec, ed, eb, ef, eg, en, r599 hR i (by omega), r599 hR e (by omega), c2, Option.toList_some, Option.toList_none, List.cons_append, List.nil_append, Nat.zero_add, Nat.reduceAdd, Option.some.injEq, Value.int.injEq, exists_eq_left', true_and, and_true, true_or, or_true, false_or, g_10, ↓reduceIte, c3, nI_1, gAns]
            · have t1 : gEar σ (i + 1) = some e := by show (if _ then _ else _) = _; rw [if_neg c, he]; exact if_neg c2
              rw [t1, t2]
              simp +decide only [e2, ea, ec, ed, eb, ef, eg, en, r599 hR i (by omega), r599 hR e (by omega), c2, Option.toList_some, Option.toList_none, List.cons_append, List.nil_append, Nat.zero_add, Nat.reduceAdd, Option.some.injEq, Value.int.injEq, exists_eq_left', true_and, and_true, true_or, or_true, false_or, g_10, ↓reduceIte, c3, nI_1, gAns]
    rw [key 6 (Nat.le_refl _), BX10_epochs_19 h.2]
    simp only [show ¬ nI 6 < 6 by decide, Option.toList_some, Option.toList_none, List.cons_append, List.nil_append, Nat.zero_add, Nat.reduceAdd, Option.some.injEq, Value.int.injEq, exists_eq_left', true_and, and_true, true_or, or_true, false_or, g_10, ↓reduceIte, mFreeable_eq h hB hR rfl, BX10_epochs_96 h.2]
  have bad : ¬ w = 0 → ¬ w = 1 → ¬ w = 2 → (w < 0 ∨ ¬ w < 0 ∧ 2 < w) → gOp G (d + 4) B mX9_epochs mX10_epochs [.int w] σ := fun n0 n1 n2 hw => by
    unfold gOp
    rcases hw with hw | ⟨hw, hw2⟩
    · simp only [EX9_epochs, BX9_epochs_35, BX9_epochs_43, BX9_epochs_46, BX9_epochs_54, EX10_epochs, BX10_epochs_6, BX10_epochs_96, EX10_in, Option.toList_some, Option.toList_none, List.cons_append, List.nil_append, Nat.zero_add, Nat.reduceAdd, Option.some.injEq, Value.int.injEq, exists_eq_left', true_and, and_true, true_or, or_true, false_or, g_10, ↓reduceIte, h.1, h.2, hNow h, hReg h, hGrd h, hBlk h, hTgo h, hWlk h, hPln h, hTap h, hHol h, n0, n1, n2, hw]
      exact wRel_up hR (by omega)
    · simp only [EX9_epochs, BX9_epochs_35, BX9_epochs_43, BX9_epochs_46, BX9_epochs_54, EX10_epochs, BX10_epochs_6, BX10_epochs_96, EX10_in, Option.toList_some, Option.toList_none, List.cons_append, List.nil_append, Nat.zero_add, Nat.reduceAdd, Option.some.injEq, Value.int.injEq, exists_eq_left', true_and, and_true, true_or, or_true, false_or, g_10, ↓reduceIte, h.1, h.2, hNow h, hReg h, hGrd h, hBlk h, hTgo h, hWlk h, hPln h, hTap h, hHol h, n0, n1, n2, hw, hw2]
      exact wRel_up hR (by omega)
  rcases pk_ix w (n := 3) (by decide) with w1 | w1 | ⟨k, hk, rfl⟩
  · exact bad (fun e => by subst e; exact absurd w1 (by decide)) (fun e => by subst e; exact absurd w1 (by decide)) (fun e => by subst e; exact absurd w1 (by decide)) (Or.inl w1)
  · obtain ⟨q1, q2, q3⟩ := g_ge (n := 2) (by decide) w1
    have q3 : 2 < w := q3
    exact bad (fun e => by subst e; exact absurd q3 (by decide)) (fun e => by subst e; exact absurd q3 (by decide)) (fun e => by subst e; exact absurd q3 (by decide)) (Or.inr ⟨q1, q3⟩)
  · rcases (by omega : k = 0 ∨ k = 1 ∨ k = 2) with rfl | rfl | rfl
    · simp +decide only [EX9_epochs, BX9_epochs_35, BX9_epochs_43, BX9_epochs_46, BX9_epochs_54, EX10_epochs, BX10_epochs_6, BX10_epochs_96, EX10_in, Option.toList_some, Option.toList_none, List.cons_append, List.nil_append, Nat.zero_add, Nat.reduceAdd, Option.some.injEq, Value.int.injEq, exists_eq_left', true_and, and_true, true_or, or_true, false_or, g_10, ↓reduceIte, h.1, h.2, hNow h, hReg h, hGrd h, hBlk h, hTgo h, hWlk h, hPln h, hTap h, hHol h, freeable_eq h, lp]
      exact wRel_up hR (by omega)
    · cases he : gEar σ 6 with
      | none =>
        simp +decide only [EX9_epochs, BX9_epochs_35, BX9_epochs_43, BX9_epochs_46, BX9_epochs_54, EX10_epochs, BX10_epochs_6, BX10_epochs_96, EX10_in, EX9_notIfNone, Option.toList_some, Option.toList_none, List.cons_append, List.nil_append, Nat.zero_add, Nat.reduceAdd, Option.some.injEq, Value.int.injEq, exists_eq_left', true_and, and_true, true_or, or_true, false_or, g_10, ↓reduceIte, h.1, h.2, hNow h, hReg h, hGrd h, hBlk h, hTgo h, hWlk h, hPln h, hTap h, hHol h, earliest_eq h, lp, he, gAns]
        exact wRel_up hR (by omega)
      | some e =>
        have := gEar_lt he
        have em := g_m1 (j := e) (by omega)
        simp +decide only [EX9_epochs, BX9_epochs_35, BX9_epochs_43, BX9_epochs_46, BX9_epochs_54, EX10_epochs, BX10_epochs_6, BX10_epochs_96, EX10_in, EX9_notIfNone, Option.toList_some, Option.toList_none, List.cons_append, List.nil_append, Nat.zero_add, Nat.reduceAdd, Option.some.injEq, Value.int.injEq, exists_eq_left', true_and, and_true, true_or, or_true, false_or, g_10, ↓reduceIte, h.1, h.2, hNow h, hReg h, hGrd h, hBlk h, hTgo h, hWlk h, hPln h, hTap h, hHol h, earliest_eq h, lp, he, gAns, em]
        exact wRel_up hR (by omega)
    · simp +decide only [EX9_epochs, BX9_epochs_35, BX9_epochs_43, BX9_epochs_46, BX9_epochs_54, EX10_epochs, BX10_epochs_6, BX10_epochs_96, EX10_in, Option.toList_some, Option.toList_none, List.cons_append, List.nil_append, Nat.zero_add, Nat.reduceAdd, Option.some.injEq, Value.int.injEq, exists_eq_left', true_and, and_true, true_or, or_true, false_or, g_10, ↓reduceIte, h.1, h.2, hNow h, hReg h, hGrd h, hBlk h, hTgo h, hWlk h, hPln h, hTap h, hHol h, readers_eq h, lp]
      exact wRel_up hR (by omega)
end O33
