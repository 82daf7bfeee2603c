section O54
variable {G : gG} {d M : Nat} {b : Nat → Int32} {K : gK} {σ : gM}
def pLF (M : Nat) (b : Nat → Int32) (p : Nat) : Option Nat := match wan (pB M b p) with
  | none => some p
  | some w => pF M b w (p + 1)
theorem pWn_e {p w : Nat} (h : wan (pB M b p) = some w) : pWn M b p = w := by unfold pWn; rw [h]; rfl
theorem pForm_f {f p e : Nat} (h : pLF M b p = some e) : pForm M b (f + 1) p = some e := by
  unfold pLF at h
  rw [pForm_s]
  cases hw : wan (pB M b p) with
  | none => rw [hw] at h; exact h
  | some w => rw [hw] at h; simp only [h]
theorem pForm_n {f p : Nat} (h : pLF M b p = none) : pForm M b (f + 1) p = if pL M b p = M then none else if pB M b (pL M b p) = 59 then pForm M b f (pL M b p + 1) else some (pL M b p) := by
  unfold pLF at h
  rw [pForm_s]
  cases hw : wan (pB M b p) with
  | none => rw [hw] at h; cases h
  | some w => rw [hw] at h; simp only [h]
theorem pL_le {p : Nat} (h : pLF M b p = none) : p + 1 ≤ pL M b p ∧ pL M b p ≤ M ∧ p < M := by
  unfold pLF at h
  cases hw : wan (pB M b p) with
  | none => rw [hw] at h; cases h
  | some w =>
    rw [hw] at h
    have l1 := wan_lt hw
    have := (pF_le (b := b) (w := w) (show p + 1 ≤ M by omega)).1 h
    unfold pL
    rw [pWn_e hw]
    exact ⟨this.1, this.2, l1⟩
def tFr (y y' : gM) : Prop := (∀ i, i ≠ 95 → i ≠ 97 → i ≠ 98 → y' i = y i) ∧ ∀ k, k ≠ 2 → k ≠ 3 → y' 95 k = y 95 k
theorem tFr_t {x y z : gM} (h1 : tFr x y) (h2 : tFr y z) : tFr x z := ⟨fun i a b c => by rw [h2.1 i a b c, h1.1 i a b c], fun k a b => by rw [h2.2 k a b, h1.2 k a b]⟩
theorem tFr_2 {y : gM} {v : Int32} {k : Nat} (hk : k = 2 ∨ k = 3) : tFr y (g_up y 95 k v) := ⟨fun i a _ _ => g_up_o a, fun j h1 h2 => g_up_2 (by omega)⟩
theorem tFr_o {y : gM} {v : Int32} {a k : Nat} (ha : a = 97 ∨ a = 98) : tFr y (g_up y a k v) := ⟨fun i h1 h2 h3 => g_up_o (by omega), fun j h1 h2 => by rw [g_up_o (by omega)]⟩
theorem tFr_r {y : gM} : tFr y y := ⟨fun _ _ _ _ => rfl, fun _ _ _ => rfl⟩
theorem pDe_n {p f : Nat} {v : Int32} (h : ¬ pDg M b p = true) : pDe M b (f + 1) p v = (p, v) := by
  show (if _ then _ else _) = _
  rw [if_neg h]
theorem rl_loop (h : gOK G) (hM : M ≤ 120) : ∀ (rem k q j : Nat) (y : gM), y 95 0 = nI M → y 95 2 = nI q → y 95 3 = nI j → y 96 = b → q ≤ M → rem + k ≤ 3 → j < 60 →
    ∃ y' : gM, (∀ (d : Nat) (K : gK), gw (gCm' G (d + 2)) G mX7_readLine K 40 [.ref 95, .int (nI (rem + k)), .int (nI k)] [] y = K (some (.int (if (pF M b rem q).isNone = true then 1 else 0))) y') ∧ tFr y y' ∧ y' 97 = y 97 ∧ (∀ i, i < 3 * j + k → y' 98 i = y 98 i) ∧ (∀ e, pF M b rem q = some e → y' 95 2 = nI e) ∧ (pF M b rem q = none → y' 95 2 = nI (pQ M b q rem) ∧ y' 95 3 = nI (j + 1) ∧ ∀ t, t < rem → y' 98 (3 * j + k + t) = pV M b (pQ M b q t)) := by
  intro rem
  induction rem with
  | zero =>
    intro k q j y h0 h2 h3 hb hq hk hj
    refine ⟨g_up y 95 3 (nI (j + 1)), fun d K => ?_, tFr_2 (Or.inr rfl), g_up_o (by decide), fun i _ => by rw [g_up_o (by decide)], fun e he => (by cases he), fun _ => ⟨by rw [g_up_2 (by decide)]; exact h2, g_up_3, fun t ht => by omega⟩⟩
    rw [BX7_readLine_40 (hTap h)]
    simp only [Nat.zero_add, show ¬ nI k < nI k from nI_nlt (Nat.le_refl _) (by omega), ↓reduceIte, h3, nI_1]
    rfl
  | succ rem ih =>
    intro k q j y h0 h2 h3 hb hq hk hj
    have g0 : nI k < nI (rem + 1 + k) := nI_lt (by omega) (by omega)
    have un : pF M b (rem + 1) q = if pB M b q = 32 then (if pDg M b (q + 1) = true then pF M b rem (pE M b q) else some (q + 1)) else some q := rfl
    by_cases e1 : pB M b q = 32
    case neg =>
      rw [un, if_neg e1]
      refine ⟨y, fun d K => ?_, tFr_r, rfl, fun _ _ => rfl, fun e he => (by cases he; exact h2), fun z => (by cases z)⟩
      rw [BX7_readLine_40 (hTap h)]
      simp only [g0, rs_eq h h0 h2 hM (show q ≤ 1000 by omega) hb, e1, BX7_readLine_51 (hTap h), Option.toList_some, Option.toList_none, List.cons_append, List.nil_append, Nat.zero_add, Nat.reduceAdd, Option.some.injEq, Value.int.injEq, exists_eq_left', true_and, and_true, true_or, or_true, false_or, g_10, ↓reduceIte]
      rfl
    have l1 : q < M := pB_lt (b := b) (by rw [e1]; decide)
    have le := pE_le (b := b) l1
    have pl : (3 : Int32) * nI j + nI k = nI (3 * j + k) := by rw [show (3 : Int32) = nI 3 from rfl, pk_mul, nI_add]
    obtain ⟨y1, hy1⟩ : ∃ y1, y1 = g_up y 95 2 (nI (q + 1)) := ⟨_, rfl⟩
    have a0 : y1 95 0 = nI M := by rw [hy1, g_up_2 (by decide)]; exact h0
    have a2 : y1 95 2 = nI (q + 1) := by rw [hy1, g_up_3]
    have a3 : y1 95 3 = nI j := by rw [hy1, g_up_2 (by decide)]; exact h3
    have ab : y1 96 = b := by rw [hy1, g_up_o (by decide)]; exact hb
    obtain ⟨y2, hy2⟩ : ∃ y2, y2 = g_up (g_up y1 95 2 (nI (pE M b q))) 98 (3 * j + k) (pV M b q) := ⟨_, rfl⟩
    have rn : ∀ (d : Nat) (K : gK), g_inv (gCm' G (d + 2)) mX7_readNumber [.ref 95, .int (nI (3 * j + k))] y1 K = K (some (.int (if pDg M b (q + 1) = true then 1 else 0))) y2 := fun d K => by
      rw [rn_eq h a0 a2 hM (by omega) ab (by omega), hy2]
      rfl
    have f12 : tFr y y2 := by
      rw [hy2, hy1]
      exact tFr_t (tFr_2 (Or.inl rfl)) (tFr_t (tFr_2 (Or.inl rfl)) (tFr_o (Or.inr rfl)))
    have c2 : y2 95 2 = nI (pE M b q) := by rw [hy2, g_up_o (by decide), g_up_3]
    have c3 : y2 95 3 = nI j := by rw [hy2, g_up_o (by decide), g_up_2 (by decide)]; exact a3
    have c97 : y2 97 = y 97 := by rw [hy2, g_up_o (by decide), g_up_o (by decide), hy1, g_up_o (by decide)]
    have c98 : ∀ i, i ≠ 3 * j + k → y2 98 i = y 98 i := fun i hi => by rw [hy2, g_up_2 hi, g_up_o (by decide), hy1, g_up_o (by decide)]
    have d98 : y2 98 (3 * j + k) = pV M b q := by rw [hy2, g_up_3]
    rw [un, if_pos e1]
    by_cases e2 : pDg M b (q + 1) = true
    case neg =>
      rw [if_neg e2]
      refine ⟨y2, fun d K => ?_, f12, c97, fun i hi => c98 i (by omega), fun e he => ?_, fun z => (by cases z)⟩
      · rw [BX7_readLine_40 (hTap h)]
        simp only [g0, rs_eq h h0 h2 hM (show q ≤ 1000 by omega) hb, e1, ← hy1, BX7_readLine_51 (hTap h), a3, pl, rn, e2, BX7_readLine_66 (hTap h), Option.toList_some, Option.toList_none, List.cons_append, List.nil_append, Nat.zero_add, Nat.reduceAdd, Option.some.injEq, Value.int.injEq, exists_eq_left', true_and, and_true, true_or, or_true, false_or, g_10, ↓reduceIte]
        rfl
      · cases he
        rw [c2]
        unfold pE
        rw [pDe_n e2]
    rw [if_pos e2]
    obtain ⟨y', i1, i2, i3, i4, i5, i6⟩ := ih (k + 1) (pE M b q) j y2 (by rw [f12.2 0 (by decide) (by decide)]; exact h0) c2 c3 (by rw [f12.1 96 (by decide) (by decide) (by decide)]; exact hb) le.2 (by omega) hj
    rw [show rem + (k + 1) = rem + 1 + k by omega] at i1
    refine ⟨y', fun d K => ?_, tFr_t f12 i2, by rw [i3, c97], fun i hi => by rw [i4 i (by omega), c98 i (by omega)], i5, fun z => ?_⟩
    · rw [← i1 d K, BX7_readLine_40 (hTap h)]
      simp only [g0, rs_eq h h0 h2 hM (show q ≤ 1000 by omega) hb, e1, ← hy1, BX7_readLine_51 (hTap h), a3, pl, rn, e2, BX7_readLine_66 (hTap h), nI_1, Option.toList_some, Option.toList_none, List.cons_append, List.nil_append, Nat.zero_add, Nat.reduceAdd, Option.some.injEq, Value.int.injEq, exists_eq_left', true_and, and_true, true_or, or_true, false_or, g_10, ↓reduceIte]
    · obtain ⟨j1, j2, j3⟩ := i6 z
      refine ⟨by rw [pQ_s]; exact j1, j2, fun t ht => ?_⟩
      cases t with
      | zero => rw [Nat.add_zero, i4 _ (by omega), d98]; rfl
      | succ t => rw [pQ_s, ← j3 t (by omega)]; congr 1; omega
theorem rl_eq (h : gOK G) (hM : M ≤ 120) {p j : Nat} {y : gM} (h0 : y 95 0 = nI M) (h2 : y 95 2 = nI p) (h3 : y 95 3 = nI j) (hb : y 96 = b) (hp : p ≤ M) (hj : j < 60) :
    ∃ y' : gM, (∀ (d : Nat) (K : gK), g_inv (gCm' G (d + 3)) mX7_readLine [.ref 95] y K = K (some (.int (if (pLF M b p).isNone = true then 1 else 0))) y') ∧ tFr y y' ∧ (∀ i, i < j → y' 97 i = y 97 i) ∧ (∀ i, i < 3 * j → y' 98 i = y 98 i) ∧ (∀ e, pLF M b p = some e → y' 95 2 = nI e) ∧ (pLF M b p = none → y' 95 2 = nI (pL M b p) ∧ y' 95 3 = nI (j + 1) ∧ y' 97 j = pB M b p ∧ ∀ k, k < pWn M b p → y' 98 (3 * j + k) = pV M b (pQ M b (p + 1) k)) := by
  cases hw : wan (pB M b p) with
  | none =>
    have e : pLF M b p = some p := by unfold pLF; rw [hw]
    rw [e]
    refine ⟨y, fun d K => ?_, tFr_r, fun _ _ => rfl, fun _ _ => rfl, fun e he => (by cases he; exact h2), fun z => (by cases z)⟩
    rw [EX7_readLine (hTap h)]
    simp only [nb_eq h h0 h2 hM (show p ≤ 1000 by omega) hb, BX7_readLine_4 (hTap h), wan_eq, hw, gAns, BX7_readLine_7 (hTap h), Option.toList_some, Option.toList_none, List.cons_append, List.nil_append, Nat.zero_add, Nat.reduceAdd, Option.some.injEq, Value.int.injEq, exists_eq_left', true_and, and_true, true_or, or_true, false_or, g_10, ↓reduceIte]
    rfl
  | some w =>
    have e : pLF M b p = pF M b w (p + 1) := by unfold pLF; rw [hw]
    have l1 := wan_lt hw
    have w3 := wan_3 hw
    have wm := g_m1 (j := w) (by omega)
    have g1 : vp_in (nI j) 60 := vp_in_nI hj (by decide)
    have g2 : (nI j).toNatClampNeg = j := nI_clamp (by omega)
    obtain ⟨y1, hy1⟩ : ∃ y1, y1 = g_up (g_up y 97 j (pB M b p)) 95 2 (nI (p + 1)) := ⟨_, rfl⟩
    have f1 : tFr y y1 := by rw [hy1]; exact tFr_t (tFr_o (Or.inl rfl)) (tFr_2 (Or.inl rfl))
    obtain ⟨y', i1, i2, i3, i4, i5, i6⟩ := rl_loop (b := b) h hM w 0 (p + 1) j y1 (by rw [f1.2 0 (by decide) (by decide)]; exact h0) (by rw [hy1, g_up_3]) (by rw [hy1, g_up_2 (by decide), g_up_o (by decide)]; exact h3) (by rw [f1.1 96 (by decide) (by decide) (by decide)]; exact hb) (by omega) (by omega) hj
    rw [e]
    refine ⟨y', fun d K => ?_, tFr_t f1 i2, fun i hi => ?_, fun i hi => ?_, i5, fun z => ?_⟩
    · rw [← i1 d K, EX7_readLine (hTap h)]
      have h2' : g_up y 97 j (pB M b p) 95 2 = nI p := by rw [g_up_o (by decide)]; exact h2
      simp only [nb_eq h h0 h2 hM (show p ≤ 1000 by omega) hb, BX7_readLine_4 (hTap h), wan_eq, hw, gAns, wm, BX7_readLine_7 (hTap h), h3, g1, g2, BX7_readLine_27 (hTap h), BX7_readLine_28 (hTap h), h2', nI_1, ← hy1, Option.toList_some, Option.toList_none, List.cons_append, List.nil_append, Nat.zero_add, Nat.reduceAdd, Option.some.injEq, Value.int.injEq, exists_eq_left', true_and, and_true, true_or, or_true, false_or, g_10, ↓reduceIte]
      rfl
    · rw [i3, hy1, g_up_o (by decide), g_up_2 (by omega)]
    · rw [i4 i (by omega), hy1, g_up_o (by decide), g_up_o (by decide)]
    · obtain ⟨j1, j2, j3⟩ := i6 z
      have pw := pWn_e hw
      refine ⟨by unfold pL; rw [pw]; exact j1, j2, by rw [i3, hy1, g_up_o (by decide), g_up_3], fun k hk => ?_⟩
      rw [pw] at hk
      exact j3 k hk
theorem pRec_c {y y' : gM} : ∀ {f i p : Nat}, (∀ t, i ≤ t → y' 97 t = y 97 t) → (∀ t, 3 * i ≤ t → y' 98 t = y 98 t) → pRec M b y f i p → pRec M b y' f i p
  | 0, _, _, _, _, _ => trivial
  | f + 1, i, p, h1, h2, h => by
    obtain ⟨⟨a1, a2⟩, a3⟩ := h
    exact ⟨⟨by rw [h1 i (Nat.le_refl _)]; exact a1, fun k hk => by rw [h2 _ (by omega)]; exact a2 k hk⟩, fun z => pRec_c (fun t ht => h1 t (by omega)) (fun t ht => h2 t (by omega)) (a3 z)⟩
theorem hf_loop (h : gOK G) (hM : M ≤ 120) : ∀ (f i p : Nat) (y : gM), i + f = 60 → y 95 0 = nI M → y 95 2 = nI p → y 95 3 = nI i → y 96 = b → p ≤ M →
    ∃ y' : gM, (∀ (d : Nat) (K : gK), gw (gCm' G (d + 3)) G mX7_hasForm K 12 [.ref 95, .int (nI i)] [] y = K (some (.int (if (pForm M b f p).isNone = true then 1 else 0))) y') ∧ tFr y y' ∧ (∀ t, t < i → y' 97 t = y 97 t) ∧ (∀ t, t < 3 * i → y' 98 t = y 98 t) ∧ (∀ e, pForm M b f p = some e → y' 95 2 = nI e) ∧ (pForm M b f p = none → y' 95 3 = nI (i + pNn M b f p) ∧ pRec M b y' f i p) := by
  intro f
  induction f with
  | zero =>
    intro i p y hi h0 h2 h3 hb hp
    obtain rfl : i = 60 := by omega
    refine ⟨y, fun d K => ?_, tFr_r, fun _ _ => rfl, fun _ _ => rfl, fun e he => (by cases he; exact h2), fun z => (by cases z)⟩
    rw [BX7_hasForm_12 (hTap h)]
    simp only [show ¬ nI 60 < 60 by decide, ↓reduceIte]
    rfl
  | succ f ih =>
    intro i p y hi h0 h2 h3 hb hp
    have g0 : nI i < 60 := nI_lt (b := 60) (by omega) (by decide)
    obtain ⟨y1, r1, r2, r3, r4, r5, r6⟩ := rl_eq h hM h0 h2 h3 hb hp (by omega)
    cases hL : pLF M b p with
    | some e =>
      rw [hL] at r1
      rw [pForm_f hL]
      refine ⟨y1, fun d K => ?_, r2, r3, r4, fun e' he => (by cases he; exact r5 e hL), fun z => (by cases z)⟩
      rw [BX7_hasForm_12 (hTap h)]
      simp +decide only [g0, r1, BX7_hasForm_22 (hTap h), Option.toList_some, Option.toList_none, List.cons_append, List.nil_append, Nat.zero_add, Nat.reduceAdd, Option.some.injEq, Value.int.injEq, exists_eq_left', true_and, and_true, true_or, or_true, false_or, g_10, ↓reduceIte]
      rfl
    | none =>
      rw [hL] at r1
      have le := pL_le hL
      obtain ⟨s1, s2, s3, s4⟩ := r6 hL
      have a0 : y1 95 0 = nI M := by rw [r2.2 0 (by decide) (by decide)]; exact h0
      have ab : y1 96 = b := by rw [r2.1 96 (by decide) (by decide) (by decide)]; exact hb
      rw [pForm_n hL]
      by_cases c1 : pL M b p = M
      · rw [if_pos c1]
        have c2 : nI (pL M b p) = nI M := by rw [c1]
        refine ⟨y1, fun d K => ?_, r2, r3, r4, fun e he => (by cases he), fun _ => ⟨?_, ⟨⟨s3, s4⟩, fun z => absurd c1 z⟩⟩⟩
        · rw [BX7_hasForm_12 (hTap h)]
          simp +decide only [g0, r1, BX7_hasForm_22 (hTap h), s1, a0, c2, Option.toList_some, Option.toList_none, List.cons_append, List.nil_append, Nat.zero_add, Nat.reduceAdd, Option.some.injEq, Value.int.injEq, exists_eq_left', true_and, and_true, true_or, or_true, false_or, g_10, ↓reduceIte]
        · show y1 95 3 = nI (i + (if pL M b p = M then 1 else _))
          rw [if_pos c1]; exact s2
      rw [if_neg c1]
      have c2 : ¬ nI (pL M b p) = nI M := fun z => c1 (nI_inj (by omega) (by omega) z)
      have rs : ∀ (d : Nat) (K : gK), g_inv (gCm' G (d + 3)) mX7_readSign [.ref 95, .int 59] y1 K = if pB M b (pL M b p) = 59 then K (some (.int 1)) (g_up y1 95 2 (nI (pL M b p + 1))) else K (some (.int 0)) y1 := fun d K => rs_eq h a0 s1 hM (by omega) ab
      by_cases c3 : pB M b (pL M b p) = 59
      case neg =>
        rw [if_neg c3]
        refine ⟨y1, fun d K => ?_, r2, r3, r4, fun e he => (by cases he; exact s1), fun z => (by cases z)⟩
        rw [BX7_hasForm_12 (hTap h)]
        simp +decide only [g0, r1, BX7_hasForm_22 (hTap h), s1, a0, c2, rs, c3, BX7_hasForm_46 (hTap h), Option.toList_some, Option.toList_none, List.cons_append, List.nil_append, Nat.zero_add, Nat.reduceAdd, Option.some.injEq, Value.int.injEq, exists_eq_left', true_and, and_true, true_or, or_true, false_or, g_10, ↓reduceIte]
        rfl
      rw [if_pos c3]
      have l2 : pL M b p < M := pB_lt (b := b) (by rw [c3]; decide)
      obtain ⟨y2, hy2⟩ : ∃ y2, y2 = g_up y1 95 2 (nI (pL M b p + 1)) := ⟨_, rfl⟩
      have f2 : tFr y1 y2 := by rw [hy2]; exact tFr_2 (Or.inl rfl)
      obtain ⟨y', i1, i2, i3, i4, i5, i6⟩ := ih (i + 1) (pL M b p + 1) y2 (by omega) (by rw [f2.2 0 (by decide) (by decide)]; exact a0) (by rw [hy2, g_up_3]) (by rw [hy2, g_up_2 (by decide)]; exact s2) (by rw [f2.1 96 (by decide) (by decide) (by decide)]; exact ab) (by omega)
      have q7 : y2 97 = y1 97 := by rw [hy2, g_up_o (by decide)]
      have q8 : y2 98 = y1 98 := by rw [hy2, g_up_o (by decide)]
      refine ⟨y', fun d K => ?_, tFr_t r2 (tFr_t f2 i2), fun t ht => by rw [i3 t (by omega), q7, r3 t ht], fun t ht => by rw [i4 t (by omega), q8, r4 t ht], i5, fun z => ?_⟩
      · rw [← i1 d K, BX7_hasForm_12 (hTap h)]
        simp +decide only [g0, r1, BX7_hasForm_22 (hTap h), s1, a0, c2, rs, c3, ← hy2, BX7_hasForm_46 (hTap h), nI_1, Option.toList_some, Option.toList_none, List.cons_append, List.nil_append, Nat.zero_add, Nat.reduceAdd, Option.some.injEq, Value.int.injEq, exists_eq_left', true_and, and_true, true_or, or_true, false_or, g_10, ↓reduceIte]
      · obtain ⟨k1, k2⟩ := i6 z
        refine ⟨?_, ⟨⟨by rw [i3 i (by omega), q7]; exact s3, fun k hk => ?_⟩, fun _ => k2⟩⟩
        · show y' 95 3 = nI (i + (if pL M b p = M then 1 else pNn M b f (pL M b p + 1) + 1))
          rw [if_neg c1, k1]; congr 1; omega
        · have w3 : pWn M b p ≤ 3 := by
            unfold pWn
            cases hw : wan (pB M b p) with
            | none => exact Nat.zero_le _
            | some w => exact wan_3 hw
          rw [i4 _ (by omega), q8]
          exact s4 k hk
theorem hf_eq (h : gOK G) (hM : M ≤ 120) {y : gM} (h0 : y 95 0 = nI M) (hb : y 96 = b) :
    ∃ y' : gM, (∀ (d : Nat) (K : gK), g_inv (gCm' G (d + 4)) mX7_hasForm [.ref 95] y K = K (some (.int (if (pForm M b 60 0).isNone = true then 1 else 0))) y') ∧ tFr y y' ∧ (∀ e, pForm M b 60 0 = some e → y' 95 2 = nI e) ∧ (pForm M b 60 0 = none → y' 95 3 = nI (pNn M b 60 0) ∧ pRec M b y' 60 0 0) := by
  have f1 : tFr y (g_up (g_up y 95 2 0) 95 3 0) := tFr_t (tFr_2 (Or.inl rfl)) (tFr_2 (Or.inr rfl))
  obtain ⟨y', i1, i2, -, -, i5, i6⟩ := hf_loop (b := b) h hM 60 0 0 (g_up (g_up y 95 2 0) 95 3 0) rfl (by rw [f1.2 0 (by decide) (by decide)]; exact h0) (by rw [g_up_2 (by decide), g_up_3]; rfl) (by rw [g_up_3]; rfl) (by rw [f1.1 96 (by decide) (by decide) (by decide)]; exact hb) (Nat.zero_le _)
  refine ⟨y', fun d K => ?_, tFr_t f1 i2, i5, fun z => ?_⟩
  · rw [← i1 d K, EX7_hasForm (hTap h), BX7_hasForm_5 (hTap h)]
    rfl
  · obtain ⟨k1, k2⟩ := i6 z
    rw [Nat.zero_add] at k1
    exact ⟨k1, k2⟩
end O54
