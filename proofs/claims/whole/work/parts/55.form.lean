section O55
variable {G : gG} {d M : Nat} {b : Nat → Int32} {K : gK} {z : gM}
def uFr (z z' : gM) : Prop := (∀ i, i ≠ 104 → i ≠ 125 → z' i = z i) ∧ ∀ k, k ≠ 16 → k ≠ 17 → z' 104 k = z 104 k
theorem uFr_t {x y z : gM} (h1 : uFr x y) (h2 : uFr y z) : uFr x z := ⟨fun i a b => by rw [h2.1 i a b, h1.1 i a b], fun k a b => by rw [h2.2 k a b, h1.2 k a b]⟩
theorem uFr_r : uFr z z := ⟨fun _ _ _ => rfl, fun _ _ _ => rfl⟩
theorem uFr_g {v : Int32} {k : Nat} (hk : k = 16 ∨ k = 17) : uFr z (g_up z 104 k v) := ⟨fun i a _ => g_up_o a, fun j h1 h2 => g_up_2 (by omega)⟩
theorem uFr_n {v : Int32} {k : Nat} : uFr z (g_up z 125 k v) := ⟨fun i _ h2 => g_up_o h2, fun j h1 h2 => by rw [g_up_o (by decide)]⟩
/-- what the twin's reader stands at -/
def uOk (M : Nat) (b : Nat → Int32) (z : gM) (p : Nat) : Prop := z 104 11 = nI M ∧ (∀ i, i < 120 → z 114 i = b i) ∧ z 104 17 = -1 ∧ z 104 16 = nI p
theorem uOk_u {z' : gM} {p p' : Nat} (h : uOk M b z p) (hu : uFr z z') (h7 : z' 104 17 = -1) (h6 : z' 104 16 = nI p') : uOk M b z' p' := ⟨by rw [hu.2 11 (by decide) (by decide)]; exact h.1, by rw [hu.1 114 (by decide) (by decide)]; exact h.2.1, h7, h6⟩
theorem sees_eq (h : gOK G) {p : Nat} {lo hi : Int32} (hu : uOk M b z p) (hM : M ≤ 120) (hp : p ≤ 900) (hlo : (-1 : Int32) < lo) : g_inv (gCm' G (d + 2)) mX10_sees [.ref 104, .int lo, .int hi] z K = K (some (.int (if pB M b p < lo then 0 else if hi < pB M b p then 0 else 1))) z := by
  obtain ⟨u1, u2, u3, u4⟩ := hu
  rw [EX10_sees h.2, u1, u3, u4]
  unfold pB
  by_cases e : p < M
  · have g1 : nI p < nI M := nI_lt e (by omega)
    have g2 : vp_in (nI p) 120 := vp_in_nI (by omega) (by decide)
    have g3 : (nI p).toNatClampNeg = p := nI_clamp (by omega)
    by_cases e1 : b p < lo
    · simp +decide only [g1, g2, g3, e, u2 p (show p < 120 by omega), EX10_in, e1, BX10_sees_32 h.2, Option.toList_some, Option.toList_none, List.cons_append, List.nil_append, Nat.zero_add, Nat.reduceAdd, Option.some.injEq, Value.int.injEq, exists_eq_left', true_and, and_true, true_or, or_true, false_or, g_10, ↓reduceIte]
    · by_cases e2 : hi < b p
      · simp +decide only [g1, g2, g3, e, u2 p (show p < 120 by omega), EX10_in, e1, e2, BX10_sees_32 h.2, Option.toList_some, Option.toList_none, List.cons_append, List.nil_append, Nat.zero_add, Nat.reduceAdd, Option.some.injEq, Value.int.injEq, exists_eq_left', true_and, and_true, true_or, or_true, false_or, g_10, ↓reduceIte]
      · simp +decide only [g1, g2, g3, e, u2 p (show p < 120 by omega), EX10_in, e1, e2, BX10_sees_32 h.2, Option.toList_some, Option.toList_none, List.cons_append, List.nil_append, Nat.zero_add, Nat.reduceAdd, Option.some.injEq, Value.int.injEq, exists_eq_left', true_and, and_true, true_or, or_true, false_or, g_10, ↓reduceIte]
  · have g1 : ¬ nI p < nI M := nI_nlt (by omega) (by omega)
    simp +decide only [g1, e, hlo, Option.toList_some, Option.toList_none, List.cons_append, List.nil_append, Nat.zero_add, Nat.reduceAdd, Option.some.injEq, Value.int.injEq, exists_eq_left', true_and, and_true, true_or, or_true, false_or, g_10, ↓reduceIte]
theorem seesF_eq (h : gOK G) {e : Nat} {lo hi : Int32} (h7 : z 104 17 = nI e) (he : e ≤ 900) : g_inv (gCm' G (d + 2)) mX10_sees [.ref 104, .int lo, .int hi] z K = K (some (.int 0)) z := by
  rw [EX10_sees h.2, h7, if_neg (nI_pos (by omega))]
theorem must_y (h : gOK G) {p : Nat} {lo hi : Int32} (hu : uOk M b z p) (hM : M ≤ 120) (hlo : (-1 : Int32) < lo) (h1 : ¬ pB M b p < lo) (h2 : ¬ hi < pB M b p) : g_inv (gCm' G (d + 3)) mX10_must [.ref 104, .int lo, .int hi] z K = K (some (.int (pB M b p))) (g_up z 104 16 (nI (p + 1))) := by
  have l1 : p < M := pB_lt (b := b) (fun e => h1 (by rw [e]; exact hlo))
  have g2 : vp_in (nI p) 120 := vp_in_nI (by omega) (by decide)
  have g3 : (nI p).toNatClampNeg = p := nI_clamp (by omega)
  have hb : b p = pB M b p := by unfold pB; rw [if_pos l1]
  rw [EX10_must h.2]
  simp +decide only [sees_eq h hu hM (show p ≤ 900 by omega) hlo, h1, h2, BX10_must_6 h.2, BX10_must_48 h.2, hu.2.2.2, nI_1, g2, g3, g_up_o (show (114 : Nat) ≠ 104 by decide), hu.2.1 p (show p < 120 by omega), hb, Option.toList_some, Option.toList_none, List.cons_append, List.nil_append, Nat.zero_add, Nat.reduceAdd, Option.some.injEq, Value.int.injEq, exists_eq_left', true_and, and_true, true_or, or_true, false_or, g_10, ↓reduceIte]
theorem must_n (h : gOK G) {p : Nat} {lo hi : Int32} (hu : uOk M b z p) (hM : M ≤ 120) (hp : p ≤ 900) (hlo : (-1 : Int32) < lo) (h1 : pB M b p < lo ∨ hi < pB M b p) : g_inv (gCm' G (d + 3)) mX10_must [.ref 104, .int lo, .int hi] z K = K (some (.int lo)) (g_up z 104 17 (nI p)) := by
  have : (if pB M b p < lo then (0 : Int32) else if hi < pB M b p then 0 else 1) = 0 := by
    by_cases e : pB M b p < lo
    · rw [if_pos e]
    · rw [if_neg e, if_pos (h1.resolve_left e)]
  rw [EX10_must h.2]
  simp +decide only [sees_eq h hu hM hp hlo, this, BX10_must_6 h.2, hu.2.2.1, hu.2.2.2, Option.toList_some, Option.toList_none, List.cons_append, List.nil_append, Nat.zero_add, Nat.reduceAdd, Option.some.injEq, Value.int.injEq, exists_eq_left', true_and, and_true, true_or, or_true, false_or, g_10, ↓reduceIte]
theorem must_f (h : gOK G) {e : Nat} {lo hi : Int32} (h7 : z 104 17 = nI e) (he : e ≤ 900) : g_inv (gCm' G (d + 3)) mX10_must [.ref 104, .int lo, .int hi] z K = K (some (.int lo)) z := by
  have g1 : ¬ nI e < 0 := nI_pos (by omega)
  have g2 : g_up z 104 17 (nI e) = z := g_up_id h7
  rw [EX10_must h.2]
  simp +decide only [seesF_eq h h7 he, BX10_must_6 h.2, h7, g1, g2, Option.toList_some, Option.toList_none, List.cons_append, List.nil_append, Nat.zero_add, Nat.reduceAdd, Option.some.injEq, Value.int.injEq, exists_eq_left', true_and, and_true, true_or, or_true, false_or, g_10, ↓reduceIte]
theorem num_y (h : gOK G) {q : Nat} (hu : uOk M b z q) (hM : M ≤ 120) (h1 : pB M b q = 32) (h2 : pDg M b (q + 1) = true) : g_inv (gCm' G (d + 4)) mX10_number [.ref 104] z K = K (some (.int (pV M b q))) (g_up z 104 16 (nI (pE M b q))) := by
  have l1 : q < M := pB_lt (b := b) (by rw [h1]; decide)
  have l2 := pDg_lt h2
  have uu : ∀ (a c : Nat), g_up (g_up z 104 16 (nI a)) 104 16 (nI c) = g_up z 104 16 (nI c) := fun a c => by
    funext x y
    unfold g_up
    by_cases e : x = 104 ∧ y = 16 <;> simp [e]
  have ok : ∀ p, uOk M b (g_up z 104 16 (nI p)) p := fun p => uOk_u hu (uFr_g (Or.inl rfl)) (by rw [g_up_2 (by decide)]; exact hu.2.2.1) g_up_3
  have lp : ∀ (f k p : Nat) (v : Int32), k + f = 2 → p ≤ M → gw (gCm' G (d + 3)) G mX10_number K 23 [.ref 104, .int v, .int (nI k)] [] (g_up z 104 16 (nI p)) = K (some (.int (pDe M b f p v).2)) (g_up z 104 16 (nI (pDe M b f p v).1)) := by
    intro f
    induction f with
    | zero =>
      intro k p v hk hp
      obtain rfl : k = 2 := by omega
      rw [BX10_number_23 h.2]
      simp only [show ¬ nI 2 < 2 by decide, ↓reduceIte]
      rfl
    | succ f ih =>
      intro k p v hk hp
      have g0 : nI k < 2 := nI_lt (b := 2) (by omega) (by decide)
      have se : ∀ K : gK, g_inv (gCm' G (d + 3)) mX10_sees [.ref 104, .int 48, .int 57] (g_up z 104 16 (nI p)) K = K (some (.int (if pB M b p < 48 then 0 else if 57 < pB M b p then 0 else 1))) (g_up z 104 16 (nI p)) := fun K => sees_eq h (ok p) hM (by omega) (by decide)
      rw [BX10_number_23 h.2]
      have un : pDe M b (f + 1) p v = if pDg M b p = true then pDe M b f (p + 1) (10 * v + pB M b p - 48) else (p, v) := rfl
      by_cases e1 : pB M b p < 48
      · have e : ¬ pDg M b p = true := by unfold pDg; simp [e1]
        rw [un, if_neg e]
        simp +decide only [g0, se, e1, BX10_number_36 h.2, Option.toList_some, Option.toList_none, List.cons_append, List.nil_append, Nat.zero_add, Nat.reduceAdd, Option.some.injEq, Value.int.injEq, exists_eq_left', true_and, and_true, true_or, or_true, false_or, g_10, ↓reduceIte]
      · by_cases e2 : 57 < pB M b p
        · have e : ¬ pDg M b p = true := by unfold pDg; simp [e2]
          rw [un, if_neg e]
          simp +decide only [g0, se, e1, e2, BX10_number_36 h.2, Option.toList_some, Option.toList_none, List.cons_append, List.nil_append, Nat.zero_add, Nat.reduceAdd, Option.some.injEq, Value.int.injEq, exists_eq_left', true_and, and_true, true_or, or_true, false_or, g_10, ↓reduceIte]
        · have e : pDg M b p = true := by unfold pDg; simp [e1, e2]
          have l3 := pDg_lt e
          have g2 : vp_in (nI p) 120 := vp_in_nI (by omega) (by decide)
          have g3 : (nI p).toNatClampNeg = p := nI_clamp (by omega)
          have hb : b p = pB M b p := by unfold pB; rw [if_pos l3]
          have tb : g_up z 104 16 (nI (p + 1)) 114 p = b p := by rw [g_up_o (by decide)]; exact hu.2.1 p (by omega)
          rw [un, if_pos e, ← ih (k + 1) (p + 1) (10 * v + pB M b p - 48) (by omega) (by omega)]
          simp +decide only [g0, se, e1, e2, BX10_number_36 h.2, g_up_3, nI_1, uu, BX10_number_58 h.2, g2, g3, tb, hb, Option.toList_some, Option.toList_none, List.cons_append, List.nil_append, Nat.zero_add, Nat.reduceAdd, Option.some.injEq, Value.int.injEq, exists_eq_left', true_and, and_true, true_or, or_true, false_or, g_10, ↓reduceIte]
  have d1 : ¬ pB M b (q + 1) < 48 ∧ ¬ 57 < pB M b (q + 1) := by
    unfold pDg at h2
    simpa using h2
  have m1 : ∀ K : gK, g_inv (gCm' G (d + 3)) mX10_must [.ref 104, .int 32, .int 32] z K = K (some (.int 32)) (g_up z 104 16 (nI (q + 1))) := fun K => by
    rw [must_y h hu hM (by decide) (by rw [h1]; decide) (by rw [h1]; decide), h1]
  have m2 : ∀ K : gK, g_inv (gCm' G (d + 3)) mX10_must [.ref 104, .int 48, .int 57] (g_up z 104 16 (nI (q + 1))) K = K (some (.int (pB M b (q + 1)))) (g_up z 104 16 (nI (q + 1 + 1))) := fun K => by
    rw [must_y h (ok _) hM (by decide) d1.1 d1.2, uu]
  have e0 : (10 : Int32) * 0 + pB M b (q + 1) - 48 = pB M b (q + 1) - 48 := by rw [show (10 : Int32) * 0 = 0 by decide, Int32.zero_add]
  have un : pDe M b 3 (q + 1) 0 = pDe M b 2 (q + 1 + 1) (pB M b (q + 1) - 48) := by
    show (if _ then _ else _) = _
    rw [if_pos h2, e0]
  rw [EX10_number h.2]
  simp +decide only [m1, BX10_number_8 h.2, m2, BX10_number_17 h.2, Option.toList_some, Option.toList_none, List.cons_append, List.nil_append, Nat.zero_add, Nat.reduceAdd, Option.some.injEq, Value.int.injEq, exists_eq_left', true_and, and_true, true_or, or_true, false_or, g_10, ↓reduceIte]
  have := lp 2 0 (q + 1 + 1) (pB M b (q + 1) - 48) rfl (by omega)
  unfold pV pE
  rw [un]
  exact this
theorem num_lf (h : gOK G) {e : Nat} (h7 : z 104 17 = nI e) (he : e ≤ 900) : gw (gCm' G (d + 3)) G mX10_number K 23 [.ref 104, .int 0, .int 0] [] z = K (some (.int 0)) z := by
  rw [BX10_number_23 h.2]
  simp +decide only [seesF_eq h h7 he, BX10_number_36 h.2, Option.toList_some, Option.toList_none, List.cons_append, List.nil_append, Nat.zero_add, Nat.reduceAdd, Option.some.injEq, Value.int.injEq, exists_eq_left', true_and, and_true, true_or, or_true, false_or, g_10, ↓reduceIte]
theorem num_f (h : gOK G) {e : Nat} (h7 : z 104 17 = nI e) (he : e ≤ 900) : g_inv (gCm' G (d + 4)) mX10_number [.ref 104] z K = K (some (.int 0)) z := by
  rw [EX10_number h.2]
  simp +decide only [must_f h h7 he, BX10_number_8 h.2, BX10_number_17 h.2, show (48 : Int32) - 48 = 0 by decide, num_lf h h7 he, Option.toList_some, Option.toList_none, List.cons_append, List.nil_append, Nat.zero_add, Nat.reduceAdd, Option.some.injEq, Value.int.injEq, exists_eq_left', true_and, and_true, true_or, or_true, false_or, g_10, ↓reduceIte]
theorem num_n (h : gOK G) {q : Nat} (hu : uOk M b z q) (hM : M ≤ 120) (hq : q ≤ M) (h1 : pB M b q ≠ 32 ∨ ¬ pDg M b (q + 1) = true) : ∃ z' : gM, (∀ (d : Nat) (K : gK), g_inv (gCm' G (d + 4)) mX10_number [.ref 104] z K = K (some (.int 0)) z') ∧ uFr z z' ∧ z' 104 17 = nI (if pB M b q = 32 then q + 1 else q) ∧ z' 125 = z 125 := by
  by_cases c : pB M b q = 32
  · have h2 := h1.resolve_left (fun z => z c)
    have l1 : q < M := pB_lt (b := b) (by rw [c]; decide)
    have ok : uOk M b (g_up z 104 16 (nI (q + 1))) (q + 1) := uOk_u hu (uFr_g (Or.inl rfl)) (by rw [g_up_2 (by decide)]; exact hu.2.2.1) g_up_3
    have m1 : ∀ (d : Nat) (K : gK), g_inv (gCm' G (d + 3)) mX10_must [.ref 104, .int 32, .int 32] z K = K (some (.int 32)) (g_up z 104 16 (nI (q + 1))) := fun d K => by
      rw [must_y h hu hM (by decide) (by rw [c]; decide) (by rw [c]; decide), c]
    have d1 : pB M b (q + 1) < 48 ∨ 57 < pB M b (q + 1) := by
      unfold pDg at h2
      by_cases e : pB M b (q + 1) < 48
      · exact Or.inl e
      · refine Or.inr (Classical.byContradiction fun e2 => h2 (by simp [e, e2]))
    have m2 : ∀ (d : Nat) (K : gK), g_inv (gCm' G (d + 3)) mX10_must [.ref 104, .int 48, .int 57] (g_up z 104 16 (nI (q + 1))) K = K (some (.int 48)) (g_up (g_up z 104 16 (nI (q + 1))) 104 17 (nI (q + 1))) := fun d K => must_n h ok hM (by omega) (by decide) d1
    have l7 : ∀ (d : Nat) (K : gK), gw (gCm' G (d + 3)) G mX10_number K 23 [.ref 104, .int 0, .int 0] [] (g_up (g_up z 104 16 (nI (q + 1))) 104 17 (nI (q + 1))) = K (some (.int 0)) (g_up (g_up z 104 16 (nI (q + 1))) 104 17 (nI (q + 1))) := fun d K => num_lf h (e := q + 1) g_up_3 (by omega)
    refine ⟨g_up (g_up z 104 16 (nI (q + 1))) 104 17 (nI (q + 1)), fun d K => ?_, uFr_t (uFr_g (Or.inl rfl)) (uFr_g (Or.inr rfl)), by rw [if_pos c, g_up_3], by rw [g_up_o (by decide), g_up_o (by decide)]⟩
    rw [EX10_number h.2]
    simp +decide only [m1, BX10_number_8 h.2, m2, BX10_number_17 h.2, show (48 : Int32) - 48 = 0 by decide, l7, Option.toList_some, Option.toList_none, List.cons_append, List.nil_append, Nat.zero_add, Nat.reduceAdd, Option.some.injEq, Value.int.injEq, exists_eq_left', true_and, and_true, true_or, or_true, false_or, g_10, ↓reduceIte]
  · have d1 : pB M b q < 32 ∨ 32 < pB M b q := by
      by_cases e : pB M b q < 32
      · exact Or.inl e
      · refine Or.inr (Classical.byContradiction fun e2 => c ?_)
        rw [Int32.lt_iff_toInt_lt] at e e2
        exact Int32.toInt_inj.mp (by omega)
    have m1 : ∀ (d : Nat) (K : gK), g_inv (gCm' G (d + 3)) mX10_must [.ref 104, .int 32, .int 32] z K = K (some (.int 32)) (g_up z 104 17 (nI q)) := fun d K => must_n h hu hM (by omega) (by decide) d1
    have m2 : ∀ (d : Nat) (K : gK), g_inv (gCm' G (d + 3)) mX10_must [.ref 104, .int 48, .int 57] (g_up z 104 17 (nI q)) K = K (some (.int 48)) (g_up z 104 17 (nI q)) := fun d K => must_f h (e := q) g_up_3 (by omega)
    have l7 : ∀ (d : Nat) (K : gK), gw (gCm' G (d + 3)) G mX10_number K 23 [.ref 104, .int 0, .int 0] [] (g_up z 104 17 (nI q)) = K (some (.int 0)) (g_up z 104 17 (nI q)) := fun d K => num_lf h (e := q) g_up_3 (by omega)
    refine ⟨_, fun d K => ?_, uFr_g (Or.inr rfl), by rw [if_neg c, g_up_3], by rw [g_up_o (by decide)]⟩
    rw [EX10_number h.2]
    simp +decide only [m1, BX10_number_8 h.2, m2, BX10_number_17 h.2, show (48 : Int32) - 48 = 0 by decide, l7, Option.toList_some, Option.toList_none, List.cons_append, List.nil_append, Nat.zero_add, Nat.reduceAdd, Option.some.injEq, Value.int.injEq, exists_eq_left', true_and, and_true, true_or, or_true, false_or, g_10, ↓reduceIte]
/-- a line's numbers behind a fault -/
theorem ln_f (h : gOK G) {e : Nat} {s : Int32} (he : e ≤ 900) : ∀ (rem k : Nat) (z : gM), z 104 17 = nI e → rem + k ≤ 3 → ∃ z' : gM, (∀ (d : Nat) (K : gK), gw (gCm' G (d + 4)) G mX10_line K 77 [.ref 104, .int s, .int (nI (rem + k)), .int (nI k)] [] z = K (some (.int s)) z') ∧ uFr z z' ∧ z' 104 17 = nI e := by
  intro rem
  induction rem with
  | zero =>
    intro k z h7 hk
    refine ⟨z, fun d K => ?_, uFr_r, h7⟩
    rw [BX10_line_77 h.2]
    simp only [Nat.zero_add, show ¬ nI k < nI k from nI_nlt (Nat.le_refl _) (by omega), ↓reduceIte]
  | succ rem ih =>
    intro k z h7 hk
    have g0 : nI k < nI (rem + 1 + k) := nI_lt (by omega) (by omega)
    have g1 : vp_in (nI k) 3 := vp_in_nI (by omega) (by decide)
    have g2 : (nI k).toNatClampNeg = k := nI_clamp (by omega)
    obtain ⟨z', i1, i2, i3⟩ := ih (k + 1) (g_up z 125 k 0) (by rw [g_up_o (by decide)]; exact h7) (by omega)
    rw [show rem + (k + 1) = rem + 1 + k by omega] at i1
    refine ⟨z', fun d K => ?_, uFr_t uFr_n i2, i3⟩
    rw [← i1 d K, BX10_line_77 h.2]
    simp only [g0, num_f h h7 he, BX10_line_91 h.2, g1, g2, nI_1, Option.toList_some, Option.toList_none, List.cons_append, List.nil_append, Nat.zero_add, Nat.reduceAdd, Option.some.injEq, Value.int.injEq, exists_eq_left', true_and, and_true, true_or, or_true, false_or, g_10, ↓reduceIte]
theorem ln_loop (h : gOK G) (hM : M ≤ 120) {s : Int32} : ∀ (rem k q : Nat) (z : gM), uOk M b z q → q ≤ M → rem + k ≤ 3 → ∃ z' : gM, (∀ (d : Nat) (K : gK), gw (gCm' G (d + 4)) G mX10_line K 77 [.ref 104, .int s, .int (nI (rem + k)), .int (nI k)] [] z = K (some (.int s)) z') ∧ uFr z z' ∧ (pF M b rem q = none → z' 104 17 = -1 ∧ z' 104 16 = nI (pQ M b q rem) ∧ (∀ t, t < k → z' 125 t = z 125 t) ∧ ∀ t, t < rem → z' 125 (k + t) = pV M b (pQ M b q t)) ∧ ∀ e, pF M b rem q = some e → z' 104 17 = nI e := by
  intro rem
  induction rem with
  | zero =>
    intro k q z hu hq hk
    refine ⟨z, fun d K => ?_, uFr_r, fun _ => ⟨hu.2.2.1, hu.2.2.2, fun _ _ => rfl, fun t ht => by omega⟩, fun e he => (by cases he)⟩
    rw [BX10_line_77 h.2]
    simp only [Nat.zero_add, show ¬ nI k < nI k from nI_nlt (Nat.le_refl _) (by omega), ↓reduceIte]
  | succ rem ih =>
    intro k q z hu hq hk
    have g0 : nI k < nI (rem + 1 + k) := nI_lt (by omega) (by omega)
    have g1 : vp_in (nI k) 3 := vp_in_nI (by omega) (by decide)
    have g2 : (nI k).toNatClampNeg = k := nI_clamp (by omega)
    have un : pF M b (rem + 1) q = if pB M b q = 32 then (if pDg M b (q + 1) = true then pF M b rem (pE M b q) else some (q + 1)) else some q := rfl
    by_cases c : pB M b q = 32 ∧ pDg M b (q + 1) = true
    · have l1 : q < M := pB_lt (b := b) (by rw [c.1]; decide)
      have le := pE_le (b := b) l1
      have f1 : uFr z (g_up (g_up z 104 16 (nI (pE M b q))) 125 k (pV M b q)) := uFr_t (uFr_g (Or.inl rfl)) uFr_n
      obtain ⟨z', i1, i2, i3, i4⟩ := ih (k + 1) (pE M b q) (g_up (g_up z 104 16 (nI (pE M b q))) 125 k (pV M b q)) (uOk_u hu f1 (by rw [g_up_o (by decide), g_up_2 (by decide)]; exact hu.2.2.1) (by rw [g_up_o (by decide), g_up_3])) le.2 (by omega)
      rw [show rem + (k + 1) = rem + 1 + k by omega] at i1
      rw [un, if_pos c.1, if_pos c.2]
      refine ⟨z', fun d K => ?_, uFr_t f1 i2, fun e => ?_, i4⟩
      · rw [← i1 d K, BX10_line_77 h.2]
        simp only [g0, num_y h hu hM c.1 c.2, BX10_line_91 h.2, g1, g2, nI_1, Option.toList_some, Option.toList_none, List.cons_append, List.nil_append, Nat.zero_add, Nat.reduceAdd, Option.some.injEq, Value.int.injEq, exists_eq_left', true_and, and_true, true_or, or_true, false_or, g_10, ↓reduceIte]
      · obtain ⟨j1, j2, j3, j4⟩ := i3 e
        refine ⟨j1, by rw [pQ_s]; exact j2, fun t ht => by rw [j3 t (by omega), g_up_2 (by omega), g_up_o (by decide)], fun t ht => ?_⟩
        cases t with
        | zero => rw [Nat.add_zero, j3 k (by omega), g_up_3]; rfl
        | succ t => rw [pQ_s, ← j4 t (by omega)]; congr 1; omega
    · have c' : pB M b q ≠ 32 ∨ ¬ pDg M b (q + 1) = true := by
        by_cases e : pB M b q = 32
        · exact Or.inr fun y => c ⟨e, y⟩
        · exact Or.inl e
      obtain ⟨z1, n1, n2, n3, n4⟩ := num_n h hu hM hq c'
      have e9 : (if pB M b q = 32 then q + 1 else q) ≤ 900 := by split <;> omega
      obtain ⟨z', i1, i2, i3⟩ := ln_f h (s := s) e9 rem (k + 1) (g_up z1 125 k 0) (by rw [g_up_o (by decide)]; exact n3) (by omega)
      rw [show rem + (k + 1) = rem + 1 + k by omega] at i1
      have ef : pF M b (rem + 1) q = some (if pB M b q = 32 then q + 1 else q) := by
        rw [un]
        by_cases e : pB M b q = 32
        · rw [if_pos e, if_neg (c'.resolve_left (fun z => z e)), if_pos e]
        · rw [if_neg e, if_neg e]
      rw [ef]
      refine ⟨z', fun d K => ?_, uFr_t n2 (uFr_t uFr_n i2), fun e => (by cases e), fun e he => (by cases he; exact i3)⟩
      rw [← i1 d K, BX10_line_77 h.2]
      simp only [g0, n1, BX10_line_91 h.2, g1, g2, nI_1, Option.toList_some, Option.toList_none, List.cons_append, List.nil_append, Nat.zero_add, Nat.reduceAdd, Option.some.injEq, Value.int.injEq, exists_eq_left', true_and, and_true, true_or, or_true, false_or, g_10, ↓reduceIte]
theorem line_y (h : gOK G) (hM : M ≤ 120) {p : Nat} (hu : uOk M b z p) (hp : p ≤ M) : ∃ (s : Int32) (z' : gM), (∀ (d : Nat) (K : gK), g_inv (gCm' G (d + 5)) mX10_line [.ref 104] z K = K (some (.int s)) z') ∧ uFr z z' ∧ (pLF M b p = none → s = pB M b p ∧ z' 104 17 = -1 ∧ z' 104 16 = nI (pL M b p) ∧ ∀ k, k < pWn M b p → z' 125 k = pV M b (pQ M b (p + 1) k)) ∧ ∀ e, pLF M b p = some e → z' 104 17 = nI e := by
  obtain ⟨u1, u2, u3, u4⟩ := id hu
  by_cases c : p < M
  case neg =>
    have e : pB M b p = -1 := by unfold pB; rw [if_neg c]
    have eL : pLF M b p = some p := by unfold pLF; rw [e]; rfl
    have g1 : ¬ nI p < nI M := nI_nlt (by omega) (by omega)
    rw [eL]
    refine ⟨0, g_up z 104 17 (nI p), fun d K => ?_, uFr_g (Or.inr rfl), fun y => (by cases y), fun e he => (by cases he; exact g_up_3)⟩
    rw [EX10_line h.2]
    simp +decide only [u1, u3, u4, g1, BX10_line_30 h.2, BX10_line_31 h.2, wanT_eq, BX10_line_36 h.2, Option.toList_some, Option.toList_none, List.cons_append, List.nil_append, Nat.zero_add, Nat.reduceAdd, Option.some.injEq, Value.int.injEq, exists_eq_left', true_and, and_true, true_or, or_true, false_or, g_10, ↓reduceIte]
  have g1 : nI p < nI M := nI_lt c (by omega)
  have g2 : vp_in (nI p) 120 := vp_in_nI (by omega) (by decide)
  have g3 : (nI p).toNatClampNeg = p := nI_clamp (by omega)
  have hb : b p = pB M b p := by unfold pB; rw [if_pos c]
  cases hw : wan (pB M b p) with
  | none =>
    have eL : pLF M b p = some p := by unfold pLF; rw [hw]
    rw [eL]
    refine ⟨0, g_up z 104 17 (nI p), fun d K => ?_, uFr_g (Or.inr rfl), fun y => (by cases y), fun e he => (by cases he; exact g_up_3)⟩
    rw [EX10_line h.2]
    simp +decide only [u1, u2 p (show p < 120 by omega), u3, u4, g1, g2, g3, hb, BX10_line_31 h.2, wanT_eq, hw, gAns, BX10_line_36 h.2, Option.toList_some, Option.toList_none, List.cons_append, List.nil_append, Nat.zero_add, Nat.reduceAdd, Option.some.injEq, Value.int.injEq, exists_eq_left', true_and, and_true, true_or, or_true, false_or, g_10, ↓reduceIte]
  | some w =>
    have e : pLF M b p = pF M b w (p + 1) := by unfold pLF; rw [hw]
    have w3 := wan_3 hw
    have wn : ¬ nI w < 0 := nI_pos (by omega)
    have f1 : uFr z (g_up z 104 16 (nI (p + 1))) := uFr_g (Or.inl rfl)
    obtain ⟨z', i1, i2, i3, i4⟩ := ln_loop h hM (s := pB M b p) w 0 (p + 1) (g_up z 104 16 (nI (p + 1))) (uOk_u hu f1 (by rw [g_up_2 (by decide)]; exact u3) g_up_3) (by omega) (by omega)
    rw [e]
    refine ⟨pB M b p, z', fun d K => ?_, uFr_t f1 i2, fun y => ?_, i4⟩
    · rw [← i1 d K, EX10_line h.2]
      simp +decide only [u1, u2 p (show p < 120 by omega), u3, u4, g1, g2, g3, hb, BX10_line_31 h.2, wanT_eq, hw, gAns, wn, BX10_line_36 h.2, nI_1, Option.toList_some, Option.toList_none, List.cons_append, List.nil_append, Nat.zero_add, Nat.reduceAdd, Option.some.injEq, Value.int.injEq, exists_eq_left', true_and, and_true, true_or, or_true, false_or, g_10, ↓reduceIte]
      rfl
    · obtain ⟨j1, j2, -, j4⟩ := i3 y
      have pw := pWn_e hw
      refine ⟨rfl, j1, by unfold pL; rw [pw]; exact j2, fun k hk => ?_⟩
      rw [pw] at hk
      have := j4 k hk
      rw [Nat.zero_add] at this
      exact this
theorem line_f (h : gOK G) {e : Nat} (h7 : z 104 17 = nI e) (he : e ≤ 900) : ∀ (d : Nat) (K : gK), g_inv (gCm' G (d + 5)) mX10_line [.ref 104] z K = K (some (.int 0)) z := fun d K => by
  have g1 : ¬ nI e < 0 := nI_pos (by omega)
  have g2 : g_up z 104 17 (nI e) = z := g_up_id h7
  rw [EX10_line h.2]
  simp +decide only [h7, g1, g2, BX10_line_30 h.2, BX10_line_31 h.2, wanT_eq, BX10_line_36 h.2, Option.toList_some, Option.toList_none, List.cons_append, List.nil_append, Nat.zero_add, Nat.reduceAdd, Option.some.injEq, Value.int.injEq, exists_eq_left', true_and, and_true, true_or, or_true, false_or, g_10, ↓reduceIte]
theorem if_f (h : gOK G) {e : Nat} (h7 : z 104 17 = nI e) (he : e ≤ 900) : ∀ (d : Nat) (K : gK), gw (gCm' G (d + 5)) G mX10_isForm K 15 [.ref 104] [] z = K (some (.int 0)) z := fun d K => by
  have g1 : ¬ nI e < 0 := nI_pos (by omega)
  rw [BX10_isForm_15 h.2]
  simp +decide only [h7, g1, BX10_isForm_50 h.2, Option.toList_some, Option.toList_none, List.cons_append, List.nil_append, Nat.zero_add, Nat.reduceAdd, Option.some.injEq, Value.int.injEq, exists_eq_left', true_and, and_true, true_or, or_true, false_or, g_10, ↓reduceIte]
theorem if_loop (h : gOK G) (hM : M ≤ 120) : ∀ (f p : Nat) (z : gM), uOk M b z p → p ≤ M → M ≤ p + 2 * f → ∃ (s : Int32) (z1 z' : gM), (∀ (d : Nat) (K : gK), g_inv (gCm' G (d + 5)) mX10_line [.ref 104] z K = K (some (.int s)) z1) ∧ (∀ (d : Nat) (K : gK), gw (gCm' G (d + 5)) G mX10_isForm K 15 [.ref 104] [] z1 = K (some (.int (if (pForm M b f p).isNone = true then 1 else 0))) z') ∧ uFr z z' ∧ (pForm M b f p = none → z' 104 17 = -1) ∧ ∀ e, pForm M b f p = some e → z' 104 17 = nI e := by
  intro f
  induction f with
  | zero =>
    intro p z hu hp hf
    obtain ⟨s, z1, l1, l2, l3, l4⟩ := line_y h hM hu hp
    have e : pB M b p = -1 := by unfold pB; rw [if_neg (by omega)]
    have eL : pLF M b p = some p := by unfold pLF; rw [e]; rfl
    have h7 := l4 p eL
    exact ⟨s, z1, z1, l1, if_f h h7 (by omega), l2, fun y => (by cases y), fun e he => (by cases he; exact h7)⟩
  | succ f ih =>
    intro p z hu hp hf
    obtain ⟨s, z1, l1, l2, l3, l4⟩ := line_y h hM hu hp
    cases hL : pLF M b p with
    | some e =>
      have h7 := l4 e hL
      have e9 : e ≤ 900 := by
        unfold pLF at hL
        cases hw : wan (pB M b p) with
        | none => rw [hw] at hL; cases hL; omega
        | some w =>
          rw [hw] at hL
          have := (pF_le (b := b) (w := w) (show p + 1 ≤ M from wan_lt hw)).2 e hL
          omega
      rw [pForm_f hL]
      exact ⟨s, z1, z1, l1, if_f h h7 e9, l2, fun y => (by cases y), fun e he => (by cases he; exact h7)⟩
    | none =>
      obtain ⟨rfl, k1, k2, -⟩ := l3 hL
      have le := pL_le hL
      have m11 : z1 104 11 = nI M := by rw [l2.2 11 (by decide) (by decide)]; exact hu.1
      rw [pForm_n hL]
      by_cases c1 : pL M b p = M
      · rw [if_pos c1]
        refine ⟨_, z1, z1, l1, fun d K => ?_, l2, fun _ => k1, fun e he => (by cases he)⟩
        rw [BX10_isForm_15 h.2]
        simp +decide only [k1, k2, m11, c1, show ¬ nI M < nI M from nI_nlt (Nat.le_refl _) (by omega), BX10_isForm_50 h.2, Option.toList_some, Option.toList_none, List.cons_append, List.nil_append, Nat.zero_add, Nat.reduceAdd, Option.some.injEq, Value.int.injEq, exists_eq_left', true_and, and_true, true_or, or_true, false_or, g_10, ↓reduceIte]
      rw [if_neg c1]
      have g1 : nI (pL M b p) < nI M := nI_lt (by omega) (by omega)
      have hu1 : uOk M b z1 (pL M b p) := uOk_u hu l2 k1 k2
      by_cases c3 : pB M b (pL M b p) = 59
      · rw [if_pos c3]
        have f2 : uFr z1 (g_up z1 104 16 (nI (pL M b p + 1))) := uFr_g (Or.inl rfl)
        obtain ⟨s2, z2, z', i1, i2, i3, i4, i5⟩ := ih (pL M b p + 1) (g_up z1 104 16 (nI (pL M b p + 1))) (uOk_u hu1 f2 (by rw [g_up_2 (by decide)]; exact k1) g_up_3) (by omega) (by omega)
        have m1 : ∀ (d : Nat) (K : gK), g_inv (gCm' G (d + 5)) mX10_must [.ref 104, .int 59, .int 59] z1 K = K (some (.int 59)) (g_up z1 104 16 (nI (pL M b p + 1))) := fun d K => by
          rw [must_y h hu1 hM (by decide) (by rw [c3]; decide) (by rw [c3]; decide), c3]
        refine ⟨_, z1, z', l1, fun d K => ?_, uFr_t l2 (uFr_t f2 i3), i4, i5⟩
        rw [← i2 d K, BX10_isForm_15 h.2]
        simp +decide only [k1, k2, m11, g1, m1, BX10_isForm_41 h.2, i1, BX10_isForm_46 h.2, Option.toList_some, Option.toList_none, List.cons_append, List.nil_append, Nat.zero_add, Nat.reduceAdd, Option.some.injEq, Value.int.injEq, exists_eq_left', true_and, and_true, true_or, or_true, false_or, g_10, ↓reduceIte]
      · rw [if_neg c3]
        have d1 : pB M b (pL M b p) < 59 ∨ 59 < pB M b (pL M b p) := by
          by_cases e : pB M b (pL M b p) < 59
          · exact Or.inl e
          · refine Or.inr (Classical.byContradiction fun e2 => c3 ?_)
            rw [Int32.lt_iff_toInt_lt] at e e2
            exact Int32.toInt_inj.mp (by omega)
        have m1 : ∀ (d : Nat) (K : gK), g_inv (gCm' G (d + 5)) mX10_must [.ref 104, .int 59, .int 59] z1 K = K (some (.int 59)) (g_up z1 104 17 (nI (pL M b p))) := fun d K => must_n h hu1 hM (by omega) (by decide) d1
        have h7 : (g_up z1 104 17 (nI (pL M b p))) 104 17 = nI (pL M b p) := g_up_3
        refine ⟨_, z1, g_up z1 104 17 (nI (pL M b p)), l1, fun d K => ?_, uFr_t l2 (uFr_g (Or.inr rfl)), fun y => (by cases y), fun e he => (by cases he; exact h7)⟩
        rw [BX10_isForm_15 h.2]
        simp +decide only [k1, k2, m11, g1, m1, BX10_isForm_41 h.2, line_f h h7 (by omega), BX10_isForm_46 h.2, if_f h h7 (show pL M b p ≤ 900 by omega), Option.toList_some, Option.toList_none, List.cons_append, List.nil_append, Nat.zero_add, Nat.reduceAdd, Option.some.injEq, Value.int.injEq, exists_eq_left', true_and, and_true, true_or, or_true, false_or, g_10, ↓reduceIte]
        rfl
theorem if_eq (h : gOK G) (hM : M ≤ 120) (h0 : z 104 11 = nI M) (hb : ∀ i, i < 120 → z 114 i = b i) : ∃ z' : gM, (∀ (d : Nat) (K : gK), g_inv (gCm' G (d + 6)) mX10_isForm [.ref 104] z K = K (some (.int (if (pForm M b 60 0).isNone = true then 1 else 0))) z') ∧ uFr z z' ∧ (pForm M b 60 0 = none → z' 104 17 = -1) ∧ ∀ e, pForm M b 60 0 = some e → z' 104 17 = nI e := by
  have f1 : uFr z (g_up (g_up z 104 16 0) 104 17 (-1)) := uFr_t (uFr_g (Or.inl rfl)) (uFr_g (Or.inr rfl))
  obtain ⟨s, z1, z', i1, i2, i3, i4, i5⟩ := if_loop (b := b) h hM 60 0 (g_up (g_up z 104 16 0) 104 17 (-1)) ⟨by rw [f1.2 11 (by decide) (by decide)]; exact h0, by rw [f1.1 114 (by decide) (by decide)]; exact hb, g_up_3, by rw [g_up_2 (by decide), g_up_3]; rfl⟩ (Nat.zero_le _) (by omega)
  refine ⟨z', fun d K => ?_, uFr_t f1 i3, i4, i5⟩
  rw [← i2 d K, EX10_isForm h.2, BX10_isForm_5 h.2, BX10_isForm_10 h.2, i1]
  simp only [BX10_isForm_14 h.2, Option.toList_some, Option.toList_none, List.cons_append, List.nil_append, Nat.zero_add, Nat.reduceAdd, Option.some.injEq, Value.int.injEq, exists_eq_left', true_and, and_true, true_or, or_true, false_or, g_10, ↓reduceIte]
end O55
