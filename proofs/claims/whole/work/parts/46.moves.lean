section O46
variable {G : gG} {d B : Nat} {σ : gM} {K : gK}
/-! the moves of a memory -/
def mW (m : gM) (r : Nat) : Bool := gIs (m 5 r) 0
def mP (m : gM) (r i : Nat) : Nat := if mW m r = true then gN (m 3 r) + i else gN (m 3 r) + gN (m 4 r) - 1 - i
def mC (m : gM) (r i : Nat) : Int32 := m 7 (mP m r i)
def mN (m : gM) (r s : Nat) : Bool := decide (s < 30) && (decide (m 10 s ≠ 0) && decide (m 13 s = nI r))
def mE (m : gM) (r s : Nat) : Nat := if mW m r = true then gN (m 11 s) - gN (m 3 r) else gN (m 3 r) + gN (m 4 r) - (gN (m 11 s) + gN (m 12 s))
def mZ (m : gM) (s : Nat) : Nat := gN (m 12 s)
def mMay (m : gM) (s : Nat) : Bool := decide (m 10 s = 1) && decide (m 15 s = 0)
def mNx (m : gM) (r : Nat) : Option Nat := dN (mC m r) (mE m r) (mMay m) (gN (m 4 r))
def mLow (m : gM) (r e q : Nat) : Nat := if mW m r = true then gN (m 3 r) + e else gN (m 3 r) + gN (m 4 r) - e - q
def mMv (m : gM) (r s : Nat) : gM := gLay m 0 s (gN (m 11 s)) (gN (m 12 s)) (mLow m r (gSl (mC m r) (mE m r s)) (gN (m 12 s)))
theorem mN_e {m : gM} {r s : Nat} : mN m r s = true ↔ s < 30 ∧ m 10 s ≠ 0 ∧ m 13 s = nI r := by
  unfold mN
  simp only [Bool.and_eq_true, decide_eq_true_eq]
theorem reg_dis {m : gM} (h : wReg m) : ∀ r' r, r < r' → r' < gN (m 2 0) → gN (m 3 r) + gN (m 4 r) ≤ gN (m 3 r') := by
  intro r'
  induction r' with
  | zero => intro r h1; omega
  | succ r' ih =>
    intro r h1 h2
    have e := (h.2 r' (by omega)).2.2.2.2.2.2 h2
    by_cases c : r = r'
    · subst c; omega
    · have := ih r (by omega) (by omega); omega
/-- a block of a memory, in numbers -/
theorem mBlk {m : gM} {g : Nat → Int32} (hM : wMem B m g) {r s : Nat} (hr : r < 6) (hN : mN m r s = true) : ∃ l q : Nat, m 11 s = nI l ∧ m 12 s = nI q ∧ gN (m 11 s) = l ∧ gN (m 12 s) = q ∧ s < 30 ∧ m 10 s ≠ 0 ∧ m 13 s = nI r ∧ r < gN (m 2 0) ∧ 1 ≤ q ∧ q ≤ 40 ∧ gN (m 3 r) ≤ l ∧ l + q ≤ gN (m 3 r) + gN (m 4 r) := by
  obtain ⟨h1, h2, h3⟩ := mN_e.mp hN
  obtain ⟨-, -, -, -, z⟩ := hM.1.2.1 s h1
  obtain ⟨f1, f2, f3, f4, f5, f6, f7, -⟩ := z h2
  have g : gN (m 13 s) = r := by rw [h3, gN_nI (by omega)]
  rw [g] at f2 f6 f7
  exact ⟨_, _, f5.1, f3.1, rfl, rfl, h1, h2, h3, f2, f4, f3.2, f6, f7⟩
theorem mReg {m : gM} {g : Nat → Int32} (hM : wMem B m g) {r : Nat} (hr : r < gN (m 2 0)) : ∃ L Q : Nat, m 3 r = nI L ∧ m 4 r = nI Q ∧ gN (m 3 r) = L ∧ gN (m 4 r) = Q ∧ r < 6 ∧ 8 ≤ Q ∧ Q ≤ 120 ∧ L + Q ≤ 240 ∧ (m 5 r = 0 ∧ mW m r = true ∨ m 5 r = 1 ∧ mW m r = false) := by
  obtain ⟨r1, r2⟩ := hM.1.1
  obtain ⟨q1, q2, q3, q4, q5, -⟩ := r2 r hr
  have := r1.2
  refine ⟨_, _, q1.1, q2.1, rfl, rfl, by omega, q3, q2.2, q5, ?_⟩
  rcases q4 with z | z
  · exact Or.inl ⟨z, by unfold mW; rw [z]; rfl⟩
  · exact Or.inr ⟨z, by unfold mW; rw [z]; rfl⟩
theorem dA_of {m : gM} {g : Nat → Int32} (hM : wMem B m g) {r : Nat} (hr : r < gN (m 2 0)) : dA (mC m r) (mN m r) (mE m r) (mZ m) (gN (m 4 r)) := by
  obtain ⟨L, Q, a1, a2, a3, a4, a5, a6, a7, a8, a9⟩ := mReg hM hr
  have inr : ∀ i, i < Q → L ≤ mP m r i ∧ mP m r i < L + Q ∧ mP m r i < 240 := fun i hi => by
    unfold mP
    rw [a3, a4]
    rcases a9 with ⟨-, w⟩ | ⟨-, w⟩ <;> simp only [w, ↓reduceIte, Bool.false_eq_true] <;> omega
  refine ⟨fun s hs => ?_, fun s i hs hi => ?_, fun i hi => ?_⟩
  · obtain ⟨l, q, b1, b2, b3, b4, b5, b6, b7, b8, b9, b10, b11, b12⟩ := mBlk hM a5 hs
    rw [a3] at b11
    rw [a3, a4] at b12
    unfold mE mZ
    rw [b3, b4, a3, a4]
    refine ⟨b5, b9, ?_⟩
    rcases a9 with ⟨-, w⟩ | ⟨-, w⟩ <;> simp only [w, ↓reduceIte, Bool.false_eq_true] <;> omega
  · rw [a4] at hi
    obtain ⟨l, q, b1, b2, b3, b4, b5, b6, b7, b8, b9, b10, b11, b12⟩ := mBlk hM a5 hs
    rw [a3] at b11
    rw [a3, a4] at b12
    have := (hM.1.2.2.1 (mP m r i) (inr i hi).2.2).2 s b5 b6
    unfold mC
    rw [← this, b3, b4]
    unfold mE mZ mP
    rw [b3, b4, a3, a4]
    rcases a9 with ⟨-, w⟩ | ⟨-, w⟩ <;> simp only [w, ↓reduceIte, Bool.false_eq_true] <;> omega
  · rw [a4] at hi
    obtain ⟨h1, h2, h3⟩ := inr i hi
    obtain ⟨c1, c2⟩ := hM.1.2.2.1 (mP m r i) h3
    rcases c1 with z | ⟨s, hs, z1, z2⟩
    · exact Or.inl z
    · refine Or.inr ⟨s, mN_e.mpr ⟨hs, z1, ?_⟩, z2⟩
      obtain ⟨w1, w2⟩ := (c2 s hs z1).mpr z2
      obtain ⟨-, -, -, -, z⟩ := hM.1.2.1 s hs
      obtain ⟨f1, f2, f3, f4, f5, f6, f7, -⟩ := z z1
      rw [f1.1]
      congr 1
      rcases Nat.lt_trichotomy (gN (m 13 s)) r with y | y | y
      · have := reg_dis hM.1.1 _ _ y hr; omega
      · exact y
      · have := reg_dis hM.1.1 _ _ y f2; omega
/-- where a block comes to lie -/
theorem movedLow_eq (h : gOK G) {x : gM} {b : Nat} {g : Nat → Int32} (h3 : isX3 G b) (hM : wMem B (gMem x b) g) {r s : Nat} (hr : r < 6) (hN : mN (gMem x b) r s = true) : g_inv (gCm' G (d + 2)) mX3_movedLow [.ref b, .int (nI s)] x K = K (some (.int (nI (mLow (gMem x b) r (gSl (mC (gMem x b) r) (mE (gMem x b) r s)) (gN (gMem x b 12 s)))))) x := by
  obtain ⟨m, hm⟩ : ∃ m, m = gMem x b := ⟨_, rfl⟩
  rw [← hm] at hM hN ⊢
  have xm : ∀ k j, k < 22 → x (b + k) j = m k j := fun k j hk => by rw [hm, gMem_k hk]
  obtain ⟨l, q, b1, b2, b3, b4, b5, b6, b7, b8, b9, b10, b11, b12⟩ := mBlk hM hr hN
  obtain ⟨L, Q, a1, a2, a3, a4, a5, a6, a7, a8, a9⟩ := mReg hM b8
  obtain ⟨f1, f2, f3, f4, f5⟩ := g_ix (n := 29) b5 (by decide)
  obtain ⟨r1, r2, r3, r4, r5⟩ := g_ix (n := 5) (show r < 5 + 1 by omega) (by decide)
  rw [a3] at b11
  rw [a3, a4] at b12
  have h5 : isX5 G (b + 2) := iX3_2 h3
  rw [EX3_movedLow h3]
  simp only [xm 11 s (by decide), xm 12 s (by decide), xm 13 s (by decide), b1, b2, b7, f4, f5, r4, r5, Option.toList_some, Option.toList_none, List.cons_append, List.nil_append, Nat.zero_add, Nat.reduceAdd, Option.some.injEq, Value.int.injEq, exists_eq_left', true_and, and_true, true_or, or_true, false_or, g_10, ↓reduceIte, xm 5 r (by decide)]
  unfold mLow mE
  rw [a3, a4, b3, b4]
  rcases a9 with ⟨w1, w2⟩ | ⟨w1, w2⟩
  · simp only [w1, w2, ↓reduceIte]
    have key : ∀ e, e ≤ Q → ∀ (K : gK), gw (gCm' G (d + 1)) G mX3_movedLow K 43 [.ref b, .int (nI s), .int (nI r), .int (nI q), .int (nI (L + e)), .long 0] [] x = K (some (.int (nI (L + gSl (mC m r) e)))) x := by
      intro e
      induction e with
      | zero =>
        intro _ K
        rw [BX3_movedLow_43 h3]
        simp only [r4, r5, xm 3 r (by decide), a1, Nat.add_zero, show ¬ nI L < nI L from nI_nlt (Nat.le_refl _) (by omega), Option.toList_some, Option.toList_none, List.cons_append, List.nil_append, Nat.zero_add, Nat.reduceAdd, Option.some.injEq, Value.int.injEq, exists_eq_left', true_and, and_true, true_or, or_true, false_or, g_10, ↓reduceIte]
        rfl
      | succ e ih =>
        intro he K
        rw [BX3_movedLow_43 h3]
        have g1 : nI L < nI (L + (e + 1)) := nI_lt (by omega) (by omega)
        have g2 : nI (L + (e + 1)) - 1 = nI (L + e) := by rw [show L + (e + 1) = (L + e) + 1 by omega, nI_pred]
        have g3 : nI (L + (e + 1)) + (-1) = nI (L + e) := by rw [← g2, Int32.sub_eq_add_neg]
        have g4 : vp_in (nI (L + e)) 240 := vp_in_nI (by omega) (by decide)
        have g5 : (nI (L + e)).toNatClampNeg = L + e := nI_clamp (by omega)
        have g6 : m 7 (L + e) = mC m r e := by unfold mC mP; rw [w2, a3]; rfl
        by_cases c : mC m r e = -1
        · have : gSl (mC m r) (e + 1) = gSl (mC m r) e := by show (if _ then _ else _) = _; rw [if_pos c]
          rw [this]
          simp only [r4, r5, xm 3 r (by decide), xm 7 _ (show 7 < 22 by decide), a1, g1, g2, g3, g4, g5, g6, c, Option.toList_some, Option.toList_none, List.cons_append, List.nil_append, Nat.zero_add, Nat.reduceAdd, Option.some.injEq, Value.int.injEq, exists_eq_left', true_and, and_true, true_or, or_true, false_or, g_10, ↓reduceIte, ih (by omega)]
        · have : gSl (mC m r) (e + 1) = e + 1 := by show (if _ then _ else _) = _; rw [if_neg c]
          rw [this]
          simp only [r4, r5, xm 3 r (by decide), xm 7 _ (show 7 < 22 by decide), a1, g1, g2, g3, g4, g5, g6, c, Option.toList_some, Option.toList_none, List.cons_append, List.nil_append, Nat.zero_add, Nat.reduceAdd, Option.some.injEq, Value.int.injEq, exists_eq_left', true_and, and_true, true_or, or_true, false_or, g_10, ↓reduceIte]
    have := key (l - L) (by omega) K
    rw [show L + (l - L) = l by omega] at this
    exact this
  · have w3 : ¬ m 5 r = 0 := by rw [w1]; decide
    have e2 : mW m r = false := w2
    simp only [w1, w3, w2, ↓reduceIte, Bool.false_eq_true, EX5_highOf h5, r4, r5, xm 3 r (by decide), xm 4 r (by decide), show x (b + 2 + 1) = x (b + 3) from rfl, show x (b + 2 + 2) = x (b + 4) from rfl, a1, a2, BX3_movedLow_90 h3, nI_add, Option.toList_some, Option.toList_none, List.cons_append, List.nil_append, Nat.zero_add, Nat.reduceAdd, Option.some.injEq, Value.int.injEq, exists_eq_left', true_and, and_true, true_or, or_true, false_or, g_10, ↓reduceIte, g_10, show ((1 : Int32) = 0) = False by decide]
    have hq : nI (L + Q) - nI q = nI (L + Q - q) := pk_sub (by omega)
    rw [hq]
    have key : ∀ e, e + q ≤ Q → ∀ (K : gK), gw (gCm' G (d + 1)) G mX3_movedLow K 94 [.ref b, .int (nI s), .int (nI r), .int (nI q), .int (nI (L + Q - e - q)), .int (nI (L + Q - q))] [] x = K (some (.int (nI (L + Q - gSl (mC m r) e - q)))) x := by
      intro e
      induction e with
      | zero =>
        intro _ K
        rw [BX3_movedLow_94 h3]
        simp only [Nat.sub_zero, show ¬ nI (L + Q - q) < nI (L + Q - q) from nI_nlt (Nat.le_refl _) (by omega), Option.toList_some, Option.toList_none, List.cons_append, List.nil_append, Nat.zero_add, Nat.reduceAdd, Option.some.injEq, Value.int.injEq, exists_eq_left', true_and, and_true, true_or, or_true, false_or, g_10, ↓reduceIte]
        rfl
      | succ e ih =>
        intro he K
        rw [BX3_movedLow_94 h3]
        have g1 : nI (L + Q - (e + 1) - q) < nI (L + Q - q) := nI_lt (by omega) (by omega)
        have g2 : nI (L + Q - (e + 1) - q) + nI q = nI (L + Q - 1 - e) := by rw [nI_add]; congr 1; omega
        have g3 : nI (L + Q - (e + 1) - q) + 1 = nI (L + Q - e - q) := by rw [nI_1]; congr 1; omega
        have g4 : vp_in (nI (L + Q - 1 - e)) 240 := vp_in_nI (by omega) (by decide)
        have g5 : (nI (L + Q - 1 - e)).toNatClampNeg = L + Q - 1 - e := nI_clamp (by omega)
        have g6 : m 7 (L + Q - 1 - e) = mC m r e := by unfold mC mP; rw [w2, a3, a4]; rfl
        by_cases c : mC m r e = -1
        · have : gSl (mC m r) (e + 1) = gSl (mC m r) e := by show (if _ then _ else _) = _; rw [if_pos c]
          rw [this]
          simp only [xm 7 _ (show 7 < 22 by decide), g1, g2, g3, g4, g5, g6, c, Option.toList_some, Option.toList_none, List.cons_append, List.nil_append, Nat.zero_add, Nat.reduceAdd, Option.some.injEq, Value.int.injEq, exists_eq_left', true_and, and_true, true_or, or_true, false_or, g_10, ↓reduceIte, ih (by omega)]
        · have : gSl (mC m r) (e + 1) = e + 1 := by show (if _ then _ else _) = _; rw [if_neg c]
          rw [this]
          simp only [xm 7 _ (show 7 < 22 by decide), g1, g2, g3, g4, g5, g6, c, Option.toList_some, Option.toList_none, List.cons_append, List.nil_append, Nat.zero_add, Nat.reduceAdd, Option.some.injEq, Value.int.injEq, exists_eq_left', true_and, and_true, true_or, or_true, false_or, g_10, ↓reduceIte]
    have := key (L + Q - (l + q)) (by omega) K
    rw [show L + Q - (L + Q - (l + q)) - q = l by omega] at this
    rw [gN_nI (show q < 2 ^ 31 by omega)]
    exact this
end O46
