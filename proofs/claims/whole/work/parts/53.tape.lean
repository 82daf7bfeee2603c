section O53
/-! the tape, read as lines -/
def pB (M : Nat) (b : Nat → Int32) (p : Nat) : Int32 := if p < M then b p else -1
def wan (x : Int32) : Option Nat := if x = 98 then some 3 else if x = 101 then some 0 else if x = 102 then some 1 else if x = 105 then some 1 else if x = 109 then some 2 else if x = 111 then some 1 else if x = 112 then some 1 else if x = 114 then some 2 else if x = 116 then some 3 else if x = 117 then some 1 else none
def pDg (M : Nat) (b : Nat → Int32) (p : Nat) : Bool := decide (¬ pB M b p < 48) && decide (¬ 57 < pB M b p)
def pDe (M : Nat) (b : Nat → Int32) : Nat → Nat → Int32 → Nat × Int32
  | 0, p, v => (p, v)
  | f + 1, p, v => if pDg M b p = true then pDe M b f (p + 1) (10 * v + pB M b p - 48) else (p, v)
def pE (M : Nat) (b : Nat → Int32) (q : Nat) : Nat := (pDe M b 3 (q + 1) 0).1
def pV (M : Nat) (b : Nat → Int32) (q : Nat) : Int32 := (pDe M b 3 (q + 1) 0).2
def pQ (M : Nat) (b : Nat → Int32) (q : Nat) : Nat → Nat
  | 0 => q
  | k + 1 => pE M b (pQ M b q k)
def pF (M : Nat) (b : Nat → Int32) : Nat → Nat → Option Nat
  | 0, _ => none
  | w + 1, q => if pB M b q = 32 then (if pDg M b (q + 1) = true then pF M b w (pE M b q) else some (q + 1)) else some q
def pWn (M : Nat) (b : Nat → Int32) (p : Nat) : Nat := (wan (pB M b p)).getD 0
def pL (M : Nat) (b : Nat → Int32) (p : Nat) : Nat := pQ M b (p + 1) (pWn M b p)
def pForm (M : Nat) (b : Nat → Int32) : Nat → Nat → Option Nat
  | 0, p => some p
  | f + 1, p => match wan (pB M b p) with
    | none => some p
    | some w => match pF M b w (p + 1) with
      | some e => some e
      | none => if pL M b p = M then none else if pB M b (pL M b p) = 59 then pForm M b f (pL M b p + 1) else some (pL M b p)
def pRec (M : Nat) (b : Nat → Int32) (y : gM) : Nat → Nat → Nat → Prop
  | 0, _, _ => True
  | f + 1, i, p => (y 97 i = pB M b p ∧ ∀ k, k < pWn M b p → y 98 (3 * i + k) = pV M b (pQ M b (p + 1) k)) ∧ (pL M b p ≠ M → pRec M b y f (i + 1) (pL M b p + 1))
def pNn (M : Nat) (b : Nat → Int32) : Nat → Nat → Nat
  | 0, _ => 0
  | f + 1, p => if pL M b p = M then 1 else pNn M b f (pL M b p + 1) + 1
variable {G : gG} {d M : Nat} {b : Nat → Int32} {K : gK} {σ : gM}
theorem pQ_s (q : Nat) : ∀ k, pQ M b q (k + 1) = pQ M b (pE M b q) k
  | 0 => rfl
  | k + 1 => by
    show pE M b (pQ M b q (k + 1)) = pE M b (pQ M b (pE M b q) k)
    rw [pQ_s q k]
theorem pB_lt {p : Nat} (h : pB M b p ≠ -1) : p < M := by
  unfold pB at h
  by_cases e : p < M
  · exact e
  · rw [if_neg e] at h; exact absurd rfl h
theorem pDg_lt {p : Nat} (h : pDg M b p = true) : p < M := by
  refine pB_lt (b := b) fun e => ?_
  unfold pDg at h
  rw [e] at h
  exact absurd h (by decide)
theorem wan_lt {p w : Nat} (h : wan (pB M b p) = some w) : p < M := by
  refine pB_lt (b := b) fun e => ?_
  rw [e, show wan (-1) = none by decide] at h
  cases h
theorem wan_3 {x : Int32} {w : Nat} (h : wan x = some w) : w ≤ 3 := by
  unfold wan at h
  repeat (split at h; · cases h; decide)
  cases h
theorem pDe_le : ∀ (f p : Nat) (v : Int32), p ≤ (pDe M b f p v).1 ∧ (pDe M b f p v).1 ≤ p + f ∧ (p ≤ M → (pDe M b f p v).1 ≤ M)
  | 0, p, v => ⟨Nat.le_refl _, Nat.le_refl _, fun h => h⟩
  | f + 1, p, v => by
    show p ≤ (if _ then _ else _ : Nat × Int32).1 ∧ (if _ then _ else _ : Nat × Int32).1 ≤ _ ∧ (_ → (if _ then _ else _ : Nat × Int32).1 ≤ M)
    by_cases e : pDg M b p = true
    · rw [if_pos e]
      have h1 := pDe_le f (p + 1) (10 * v + pB M b p - 48)
      have h2 := pDg_lt e
      exact ⟨by omega, by omega, fun _ => h1.2.2 (by omega)⟩
    · rw [if_neg e]
      exact ⟨Nat.le_refl _, by omega, fun h => h⟩
theorem pE_le {q : Nat} (h : q < M) : q + 1 ≤ pE M b q ∧ pE M b q ≤ M := by
  have := pDe_le (M := M) (b := b) 3 (q + 1) 0
  exact ⟨this.1, this.2.2 (by omega)⟩
theorem pF_le : ∀ {w q : Nat}, q ≤ M → (pF M b w q = none → q ≤ pQ M b q w ∧ pQ M b q w ≤ M) ∧ ∀ e, pF M b w q = some e → q ≤ e ∧ e ≤ M
  | 0, q, h => ⟨fun _ => ⟨Nat.le_refl _, h⟩, fun e he => by cases he⟩
  | w + 1, q, h => by
    have un : pF M b (w + 1) q = if pB M b q = 32 then (if pDg M b (q + 1) = true then pF M b w (pE M b q) else some (q + 1)) else some q := rfl
    rw [un]
    by_cases e1 : pB M b q = 32
    · have l1 : q < M := pB_lt (b := b) (by rw [e1]; decide)
      rw [if_pos e1]
      by_cases e2 : pDg M b (q + 1) = true
      · rw [if_pos e2]
        have p1 := pE_le (b := b) l1
        obtain ⟨h1, h2⟩ := pF_le (w := w) p1.2
        refine ⟨fun z => ?_, fun e z => ?_⟩
        · rw [pQ_s]; have := h1 z; omega
        · have := h2 e z; omega
      · rw [if_neg e2]
        exact ⟨fun z => (by cases z), fun e z => (by cases z; omega)⟩
    · rw [if_neg e1]
      exact ⟨fun z => (by cases z), fun e z => (by cases z; omega)⟩
theorem pForm_s {f p : Nat} : pForm M b (f + 1) p = match wan (pB M b p) with
    | none => some p
    | some w => match pF M b w (p + 1) with
      | some e => some e
      | none => if pL M b p = M then none else if pB M b (pL M b p) = 59 then pForm M b f (pL M b p + 1) else some (pL M b p) := rfl
theorem wan_eq {x : Int32} : g_inv (gCm' G (d + 1)) mX7_numbersBehind [.int x] σ K = K (some (.int (gAns (wan x) (-1)))) σ := by
  rw [EX7_numbersBehind]
  by_cases e98 : x = 98
  · subst e98
    simp +decide only [wan, gAns, ↓reduceIte]
    try rfl
  by_cases e99 : x = 99
  · subst e99
    simp +decide only [wan, gAns, ↓reduceIte]
    try rfl
  by_cases e100 : x = 100
  · subst e100
    simp +decide only [wan, gAns, ↓reduceIte]
    try rfl
  by_cases e101 : x = 101
  · subst e101
    simp +decide only [wan, gAns, ↓reduceIte]
    try rfl
  by_cases e102 : x = 102
  · subst e102
    simp +decide only [wan, gAns, ↓reduceIte]
    try rfl
  by_cases e103 : x = 103
  · subst e103
    simp +decide only [wan, gAns, ↓reduceIte]
    try rfl
  by_cases e104 : x = 104
  · subst e104
    simp +decide only [wan, gAns, ↓reduceIte]
    try rfl
  by_cases e105 : x = 105
  · subst e105
    simp +decide only [wan, gAns, ↓reduceIte]
    try rfl
  by_cases e106 : x = 106
  · subst e106
    simp +decide only [wan, gAns, ↓reduceIte]
    try rfl
  by_cases e107 : x = 107
  · subst e107
    simp +decide only [wan, gAns, ↓reduceIte]
    try rfl
  by_cases e108 : x = 108
  · subst e108
    simp +decide only [wan, gAns, ↓reduceIte]
    try rfl
  by_cases e109 : x = 109
  · subst e109
    simp +decide only [wan, gAns, ↓reduceIte]
    try rfl
  by_cases e110 : x = 110
  · subst e110
    simp +decide only [wan, gAns, ↓reduceIte]
    try rfl
  by_cases e111 : x = 111
  · subst e111
    simp +decide only [wan, gAns, ↓reduceIte]
    try rfl
  by_cases e112 : x = 112
  · subst e112
    simp +decide only [wan, gAns, ↓reduceIte]
    try rfl
  by_cases e113 : x = 113
  · subst e113
    simp +decide only [wan, gAns, ↓reduceIte]
    try rfl
  by_cases e114 : x = 114
  · subst e114
    simp +decide only [wan, gAns, ↓reduceIte]
    try rfl
  by_cases e115 : x = 115
  · subst e115
    simp +decide only [wan, gAns, ↓reduceIte]
    try rfl
  by_cases e116 : x = 116
  · subst e116
    simp +decide only [wan, gAns, ↓reduceIte]
    try rfl
  by_cases e117 : x = 117
  · subst e117
    simp +decide only [wan, gAns, ↓reduceIte]
    try rfl
  simp only [wan, gAns, ↓reduceIte, e98, e99, e100, e101, e102, e103, e104, e105, e106, e107, e108, e109, e110, e111, e112, e113, e114, e115, e116, e117]
theorem wanT_eq {x : Int32} : g_inv (gCm' G (d + 1)) mX10_manyOf [.int x] σ K = K (some (.int (gAns (wan x) (-2)))) σ := by
  rw [EX10_manyOf]
  by_cases e98 : x = 98
  · subst e98
    simp +decide only [wan, gAns, ↓reduceIte]
    try rfl
  by_cases e99 : x = 99
  · subst e99
    simp +decide only [wan, gAns, ↓reduceIte]
    try rfl
  by_cases e100 : x = 100
  · subst e100
    simp +decide only [wan, gAns, ↓reduceIte]
    try rfl
  by_cases e101 : x = 101
  · subst e101
    simp +decide only [wan, gAns, ↓reduceIte]
    try rfl
  by_cases e102 : x = 102
  · subst e102
    simp +decide only [wan, gAns, ↓reduceIte]
    try rfl
  by_cases e103 : x = 103
  · subst e103
    simp +decide only [wan, gAns, ↓reduceIte]
    try rfl
  by_cases e104 : x = 104
  · subst e104
    simp +decide only [wan, gAns, ↓reduceIte]
    try rfl
  by_cases e105 : x = 105
  · subst e105
    simp +decide only [wan, gAns, ↓reduceIte]
    try rfl
  by_cases e106 : x = 106
  · subst e106
    simp +decide only [wan, gAns, ↓reduceIte]
    try rfl
  by_cases e107 : x = 107
  · subst e107
    simp +decide only [wan, gAns, ↓reduceIte]
    try rfl
  by_cases e108 : x = 108
  · subst e108
    simp +decide only [wan, gAns, ↓reduceIte]
    try rfl
  by_cases e109 : x = 109
  · subst e109
    simp +decide only [wan, gAns, ↓reduceIte]
    try rfl
  by_cases e110 : x = 110
  · subst e110
    simp +decide only [wan, gAns, ↓reduceIte]
    try rfl
  by_cases e111 : x = 111
  · subst e111
    simp +decide only [wan, gAns, ↓reduceIte]
    try rfl
  by_cases e112 : x = 112
  · subst e112
    simp +decide only [wan, gAns, ↓reduceIte]
    try rfl
  by_cases e113 : x = 113
  · subst e113
    simp +decide only [wan, gAns, ↓reduceIte]
    try rfl
  by_cases e114 : x = 114
  · subst e114
    simp +decide only [wan, gAns, ↓reduceIte]
    try rfl
  by_cases e115 : x = 115
  · subst e115
    simp +decide only [wan, gAns, ↓reduceIte]
    try rfl
  by_cases e116 : x = 116
  · subst e116
    simp +decide only [wan, gAns, ↓reduceIte]
    try rfl
  by_cases e117 : x = 117
  · subst e117
    simp +decide only [wan, gAns, ↓reduceIte]
    try rfl
  simp only [wan, gAns, ↓reduceIte, e98, e99, e100, e101, e102, e103, e104, e105, e106, e107, e108, e109, e110, e111, e112, e113, e114, e115, e116, e117]
theorem nb_eq (h : gOK G) {p : Nat} (h0 : σ 95 0 = nI M) (h2 : σ 95 2 = nI p) (hM : M ≤ 120) (hp : p ≤ 1000) (hb : σ 96 = b) : g_inv (gCm' G (d + 1)) mX7_nextByte [.ref 95] σ K = K (some (.int (pB M b p))) σ := by
  rw [EX7_nextByte (hTap h), h0, h2, if_neg (nI_pos (by omega))]
  unfold pB
  by_cases e : p < M
  · have g1 : nI p < nI M := nI_lt e (by omega)
    have g2 : nI p < 120 := nI_lt (b := 120) (by omega) (by decide)
    have g3 : vp_in (nI p) 120 := vp_in_nI (by omega) (by decide)
    have g4 : (nI p).toNatClampNeg = p := nI_clamp (by omega)
    rw [if_pos g1, if_pos g2, if_pos e, g4, ← hb]
    exact g_and g3
  · have g1 : ¬ nI p < nI M := nI_nlt (by omega) (by omega)
    rw [if_neg g1, if_neg e]
theorem rs_eq (h : gOK G) {p : Nat} {c : Int32} (h0 : σ 95 0 = nI M) (h2 : σ 95 2 = nI p) (hM : M ≤ 120) (hp : p ≤ 1000) (hb : σ 96 = b) : g_inv (gCm' G (d + 2)) mX7_readSign [.ref 95, .int c] σ K = if pB M b p = c then K (some (.int 1)) (g_up σ 95 2 (nI (p + 1))) else K (some (.int 0)) σ := by
  rw [EX7_readSign (hTap h)]
  simp only [nb_eq h h0 h2 hM hp hb, BX7_readSign_4 (hTap h), h2, nI_1, Option.toList_some, Option.toList_none, List.cons_append, List.nil_append, Nat.zero_add, Nat.reduceAdd, Option.some.injEq, Value.int.injEq, exists_eq_left', true_and, and_true, true_or, or_true, false_or, g_10, ↓reduceIte]
theorem rn_eq (h : gOK G) {p pl : Nat} (h0 : σ 95 0 = nI M) (h2 : σ 95 2 = nI p) (hM : M ≤ 120) (hp : p ≤ 900) (hb : σ 96 = b) (hpl : pl < 180) : g_inv (gCm' G (d + 2)) mX7_readNumber [.ref 95, .int (nI pl)] σ K = K (some (.int (if pDg M b p = true then 1 else 0))) (g_up (g_up σ 95 2 (nI (pDe M b 3 p 0).1)) 98 pl (pDe M b 3 p 0).2) := by
  have key : ∀ (f k p : Nat) (v : Int32), k + f = 3 → p ≤ 900 + k → gw (gCm' G (d + 1)) G mX7_readNumber K 4 [.ref 95, .int (nI pl), .int (nI k), .int v] [] (g_up σ 95 2 (nI p)) = gw (gCm' G (d + 1)) G mX7_readNumber K 56 [.ref 95, .int (nI pl), .int (nI (k + ((pDe M b f p v).1 - p))), .int (pDe M b f p v).2] [] (g_up σ 95 2 (nI (pDe M b f p v).1)) := by
    intro f
    induction f with
    | zero =>
      intro k p v hk hp
      obtain rfl : k = 3 := by omega
      rw [BX7_readNumber_4 (hTap h)]
      simp only [show ¬ nI 3 < 3 by decide, ↓reduceIte]
      show gw _ G mX7_readNumber K 56 [.ref 95, .int (nI pl), .int (nI 3), .int v] [] _ = gw _ G mX7_readNumber K 56 [.ref 95, .int (nI pl), .int (nI (3 + (p - p))), .int v] [] _
      rw [Nat.sub_self]
      rfl
    | succ f ih =>
      intro k p v hk hp
      have g0 : nI k < 3 := nI_lt (b := 3) (by omega) (by decide)
      have nb : ∀ K : gK, g_inv (gCm' G (d + 1)) mX7_nextByte [.ref 95] (g_up σ 95 2 (nI p)) K = K (some (.int (pB M b p))) (g_up σ 95 2 (nI p)) := fun K => nb_eq h (by rw [g_up_2 (by decide)]; exact h0) g_up_3 hM (by omega) (by rw [g_up_o (by decide)]; exact hb)
      rw [BX7_readNumber_4 (hTap h)]
      have un : pDe M b (f + 1) p v = if pDg M b p = true then pDe M b f (p + 1) (10 * v + pB M b p - 48) else (p, v) := rfl
      by_cases e1 : pB M b p < 48
      · have e : ¬ pDg M b p = true := by unfold pDg; simp [e1]
        rw [un, if_neg e]
        simp only [g0, nb, BX7_readNumber_13 (hTap h), e1, Option.toList_some, Option.toList_none, List.cons_append, List.nil_append, Nat.zero_add, Nat.reduceAdd, Option.some.injEq, Value.int.injEq, exists_eq_left', true_and, and_true, true_or, or_true, false_or, g_10, ↓reduceIte, Nat.sub_self, Nat.add_zero]
      · by_cases e2 : 57 < pB M b p
        · have e : ¬ pDg M b p = true := by unfold pDg; simp [e2]
          rw [un, if_neg e]
          simp only [g0, nb, BX7_readNumber_13 (hTap h), BX7_readNumber_22 (hTap h), e1, e2, Option.toList_some, Option.toList_none, List.cons_append, List.nil_append, Nat.zero_add, Nat.reduceAdd, Option.some.injEq, Value.int.injEq, exists_eq_left', true_and, and_true, true_or, or_true, false_or, g_10, ↓reduceIte, Nat.sub_self, Nat.add_zero]
        · have e : pDg M b p = true := by unfold pDg; simp [e1, e2]
          rw [un, if_pos e]
          have le := pDe_le (M := M) (b := b) f (p + 1) (10 * v + pB M b p - 48)
          have ih := ih (k + 1) (p + 1) (10 * v + pB M b p - 48) (by omega) (by omega)
          rw [show k + ((pDe M b f (p + 1) (10 * v + pB M b p - 48)).1 - p) = k + 1 + ((pDe M b f (p + 1) (10 * v + pB M b p - 48)).1 - (p + 1)) by omega, ← ih]
          have uu : g_up (g_up σ 95 2 (nI p)) 95 2 (nI (p + 1)) = g_up σ 95 2 (nI (p + 1)) := by
            funext x y
            unfold g_up
            by_cases z : x = 95 ∧ y = 2 <;> simp [z]
          simp only [g0, nb, BX7_readNumber_13 (hTap h), BX7_readNumber_22 (hTap h), BX7_readNumber_35 (hTap h), e1, e2, Option.toList_some, Option.toList_none, List.cons_append, List.nil_append, Nat.zero_add, Nat.reduceAdd, Option.some.injEq, Value.int.injEq, exists_eq_left', true_and, and_true, true_or, or_true, false_or, g_10, ↓reduceIte, g_up_3, nI_1, uu]
  have start : g_up σ 95 2 (nI p) = σ := g_up_id h2
  have k0 := key 3 0 p 0 rfl (by omega)
  rw [start] at k0
  have le := pDe_le (M := M) (b := b) 3 p 0
  have g1 : vp_in (nI pl) 180 := vp_in_nI hpl (by decide)
  have g2 : (nI pl).toNatClampNeg = pl := nI_clamp (by omega)
  rw [EX7_readNumber (hTap h)]
  refine Eq.trans k0 ?_
  rw [BX7_readNumber_56 (hTap h)]
  simp only [g1, g2, BX7_readNumber_63 (hTap h), true_and]
  by_cases e : pDg M b p = true
  · have un : pDe M b 3 p 0 = pDe M b 2 (p + 1) (10 * 0 + pB M b p - 48) := by
      show (if _ then _ else _) = _
      rw [if_pos e]
    have le2 := pDe_le (M := M) (b := b) 2 (p + 1) (10 * 0 + pB M b p - 48)
    rw [← un] at le2
    have g3 : 0 < nI (0 + ((pDe M b 3 p 0).1 - p)) := nI_lt (a := 0) (by omega) (by omega)
    rw [if_pos g3, if_pos e]
  · have un : pDe M b 3 p 0 = (p, 0) := by
      show (if _ then _ else _) = _
      rw [if_neg e]
    rw [un, if_neg e]
    simp only [Nat.sub_self, Nat.add_zero]
    rfl
end O53
