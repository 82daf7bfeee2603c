section O47
variable {G : gG} {d B : Nat} {σ : gM} {K : gK}
theorem d_disj {C : Nat → Int32} {N : Nat → Bool} {e n : Nat → Nat} {Q s t : Nat} (hA : dA C N e n Q) (hs : N s = true) (ht : N t = true) (hst : s ≠ t) : e s + n s ≤ e t ∨ e t + n t ≤ e s := by
  have h1 := hA.1 s hs
  have h2 := hA.1 t ht
  rcases Nat.le_total (e s) (e t) with z | z
  · rcases Nat.lt_or_ge (e t) (e s + n s) with y | y
    · have c1 := (hA.2.1 s (e t) hs (by omega)).mp ⟨z, y⟩
      have c2 := (hA.2.1 t (e t) ht (by omega)).mp ⟨Nat.le_refl _, by omega⟩
      exact absurd (nI_inj (by omega) (by omega) (c1.symm.trans c2)) hst
    · exact Or.inl y
  · rcases Nat.lt_or_ge (e s) (e t + n t) with y | y
    · have c1 := (hA.2.1 t (e s) ht (by omega)).mp ⟨z, y⟩
      have c2 := (hA.2.1 s (e s) hs (by omega)).mp ⟨Nat.le_refl _, by omega⟩
      exact absurd (nI_inj (by omega) (by omega) (c2.symm.trans c1)) hst
    · exact Or.inr y
theorem gSl_free {C : Nat → Int32} : ∀ {e i : Nat}, gSl C e ≤ i → i < e → C i = -1
  | 0, _, _, h => by omega
  | e + 1, i, h1, h2 => by
    have h1 : (if C e = -1 then gSl C e else e + 1) ≤ i := h1
    by_cases c : C e = -1
    · rw [if_pos c] at h1
      by_cases z : i = e
      · rw [z]; exact c
      · exact gSl_free h1 (by omega)
    · rw [if_neg c] at h1; omega
theorem nextB_eq (h : gOK G) {z m : gM} {g : Nat → Int32} (hM : wMem B m g) (hz : z 105 = g) {r D L Q : Nat} (hr : r < gN (m 2 0)) (a3 : gN (m 3 r) = L) (a4 : gN (m 4 r) = Q) (hD : D ≤ Q) (hJ : ∀ s, mN m r s = true → mE m r s + mZ m s ≤ D ∨ D ≤ mE m r s) :
    ∃ o : Option Nat, (∀ (d : Nat) (K : gK), g_inv (gCm' G (d + 2)) mX10_nextBlock [.ref 104, .int (nI r), .int (nI (if mW m r = true then L + D else L + Q - D)), .int (if mW m r = true then 1 else 0)] z K = K (some (.int (gAns o (-2)))) z) ∧ (o = none → ∀ s, mN m r s = true → ¬ D ≤ mE m r s) ∧ ∀ s, o = some s → dS (mN m r) (mE m r) D s := by
  obtain ⟨L', Q', a1, a2, b3, b4, a5, a6, a7, a8, a9⟩ := mReg hM hr
  obtain rfl : L' = L := by rw [← b3, a3]
  obtain rfl : Q' = Q := by rw [← b4, a4]
  clear b3 b4
  have hA := dA_of hM hr
  rw [a4] at hA
  obtain ⟨F, hF⟩ : ∃ F, F = (if mW m r = true then L' + D else L' + Q' - D) := ⟨_, rfl⟩
  obtain ⟨w, hw⟩ : ∃ w : Int32, w = (if mW m r = true then 1 else 0) := ⟨_, rfl⟩
  rw [← hF, ← hw]
  have key : ∀ i, i ≤ 30 → ∃ o : Option Nat, (∀ (d : Nat) (K : gK), ∃ v, gw (gCm' G (d + 1)) G mX10_nextBlock K 7 [.ref 104, .int (nI r), .int (nI F), .int w, .int (-2), .int 0, .long 0] [] z = gw (gCm' G (d + 1)) G mX10_nextBlock K 7 [.ref 104, .int (nI r), .int (nI F), .int w, .int (gAns o (-2)), .int (nI i), v] [] z) ∧ (o = none → ∀ s, s < i → mN m r s = true → ¬ D ≤ mE m r s) ∧ ∀ t, o = some t → t < i ∧ mN m r t = true ∧ D ≤ mE m r t ∧ ∀ s, s < i → mN m r s = true → D ≤ mE m r s → mE m r t ≤ mE m r s := by
    intro i
    induction i with
    | zero => intro _; exact ⟨none, fun d K => ⟨.long 0, rfl⟩, fun _ s hs => by omega, fun t e => by cases e⟩
    | succ i ih =>
      intro hi
      obtain ⟨o, i1, i2, i3⟩ := ih (by omega)
      have hs : i < 30 := by omega
      have g0 : nI i < 30 := nI_lt (b := 30) (by omega) (by decide)
      have gi0 : ¬ nI i < 0 := nI_pos (by omega)
      obtain ⟨q0, q1, q2, q3, q4, -⟩ := hM.2.2.2.2.2.2.1 i hs
      have keep : (mN m r i = true → D ≤ mE m r i → ∃ t, o = some t ∧ mE m r t ≤ mE m r i) → (∀ (d : Nat) (K : gK) (v : Value), ∃ v', gw (gCm' G (d + 1)) G mX10_nextBlock K 7 [.ref 104, .int (nI r), .int (nI F), .int w, .int (gAns o (-2)), .int (nI i), v] [] z = gw (gCm' G (d + 1)) G mX10_nextBlock K 7 [.ref 104, .int (nI r), .int (nI F), .int w, .int (gAns o (-2)), .int (nI (i + 1)), v'] [] z) → ∃ o : Option Nat, (∀ (d : Nat) (K : gK), ∃ v, gw (gCm' G (d + 1)) G mX10_nextBlock K 7 [.ref 104, .int (nI r), .int (nI F), .int w, .int (-2), .int 0, .long 0] [] z = gw (gCm' G (d + 1)) G mX10_nextBlock K 7 [.ref 104, .int (nI r), .int (nI F), .int w, .int (gAns o (-2)), .int (nI (i + 1)), v] [] z) ∧ (o = none → ∀ s, s < i + 1 → mN m r s = true → ¬ D ≤ mE m r s) ∧ ∀ t, o = some t → t < i + 1 ∧ mN m r t = true ∧ D ≤ mE m r t ∧ ∀ s, s < i + 1 → mN m r s = true → D ≤ mE m r s → mE m r t ≤ mE m r s := fun k1 k2 => by
        refine ⟨o, fun d K => ?_, fun e s h1 h2 h3 => ?_, fun t e => ?_⟩
        · obtain ⟨v, e⟩ := i1 d K
          obtain ⟨v', e'⟩ := k2 d K v
          exact ⟨v', e.trans e'⟩
        · by_cases c : s = i
          · subst c
            obtain ⟨t, y, -⟩ := k1 h2 h3
            rw [e] at y; cases y
          · exact i2 e s (by omega) h2 h3
        · obtain ⟨j1, j2, j3, j4⟩ := i3 t e
          refine ⟨by omega, j2, j3, fun s h1 h2 h3 => ?_⟩
          by_cases c : s = i
          · subst c
            obtain ⟨t', y, y2⟩ := k1 h2 h3
            rw [e] at y; cases y; exact y2
          · exact j4 s (by omega) h2 h3
      have take : mN m r i = true → D ≤ mE m r i → (∀ t, o = some t → mE m r i ≤ mE m r t) → (∀ (d : Nat) (K : gK) (v : Value), ∃ v', gw (gCm' G (d + 1)) G mX10_nextBlock K 7 [.ref 104, .int (nI r), .int (nI F), .int w, .int (gAns o (-2)), .int (nI i), v] [] z = gw (gCm' G (d + 1)) G mX10_nextBlock K 7 [.ref 104, .int (nI r), .int (nI F), .int w, .int (nI i), .int (nI (i + 1)), v'] [] z) → ∃ o : Option Nat, (∀ (d : Nat) (K : gK), ∃ v, gw (gCm' G (d + 1)) G mX10_nextBlock K 7 [.ref 104, .int (nI r), .int (nI F), .int w, .int (-2), .int 0, .long 0] [] z = gw (gCm' G (d + 1)) G mX10_nextBlock K 7 [.ref 104, .int (nI r), .int (nI F), .int w, .int (gAns o (-2)), .int (nI (i + 1)), v] [] z) ∧ (o = none → ∀ s, s < i + 1 → mN m r s = true → ¬ D ≤ mE m r s) ∧ ∀ t, o = some t → t < i + 1 ∧ mN m r t = true ∧ D ≤ mE m r t ∧ ∀ s, s < i + 1 → mN m r s = true → D ≤ mE m r s → mE m r t ≤ mE m r s := fun n1 n2 k1 k2 => by
        refine ⟨some i, fun d K => ?_, fun e => (by cases e), fun t e => ?_⟩
        · obtain ⟨v, e⟩ := i1 d K
          obtain ⟨v', e'⟩ := k2 d K v
          exact ⟨v', e.trans e'⟩
        · cases e
          refine ⟨by omega, n1, n2, fun s h1 h2 h3 => ?_⟩
          by_cases c : s = i
          · subst c; exact Nat.le_refl _
          · cases ho : o with
            | none => exact absurd h3 (i2 ho s (by omega) h2)
            | some t =>
              have := k1 t ho
              have := (i3 t ho).2.2.2 s (by omega) h2 h3
              omega
      by_cases c0 : m 10 i = 0
      · have nn : mN m r i ≠ true := fun e => (mN_e.mp e).2.1 c0
        refine keep (fun e => absurd e nn) fun d K v => ⟨v, ?_⟩
        rw [BX10_nextBlock_7 h.2]
        simp only [g0, at_0 h hs, BX10_nextBlock_21 h.2, hz, q0, c0, Option.toList_some, Option.toList_none, List.cons_append, List.nil_append, Nat.zero_add, Nat.reduceAdd, Option.some.injEq, Value.int.injEq, exists_eq_left', true_and, and_true, true_or, or_true, false_or, g_10, ↓reduceIte, nI_1]
      by_cases c1 : m 13 i = nI r
      case neg =>
        have nn : mN m r i ≠ true := fun e => c1 (mN_e.mp e).2.2
        refine keep (fun e => absurd e nn) fun d K v => ⟨v, ?_⟩
        rw [BX10_nextBlock_7 h.2]
        simp only [g0, at_0 h hs, at_4 h hs, BX10_nextBlock_21 h.2, BX10_nextBlock_31 h.2, hz, q0, q4, c0, c1, Option.toList_some, Option.toList_none, List.cons_append, List.nil_append, Nat.zero_add, Nat.reduceAdd, Option.some.injEq, Value.int.injEq, exists_eq_left', true_and, and_true, true_or, or_true, false_or, g_10, ↓reduceIte, nI_1]
      have nn : mN m r i = true := mN_e.mpr ⟨hs, c0, c1⟩
      obtain ⟨l, q, b1, b2, b3, b4, b5, b6, b7, b8, b9, b10, b11, b12⟩ := mBlk hM a5 nn
      rw [a3] at b11
      rw [a3, a4] at b12
      have hJi := hJ i nn
      rcases a9 with ⟨w1, w2⟩ | ⟨w1, w2⟩
      · simp only [w2, ↓reduceIte] at hF hw
        subst hF hw
        have ei : mE m r i = l - L' := by unfold mE; rw [w2, a3, b3]; rfl
        by_cases c2 : l < L' + D
        · have g1 : nI l < nI (L' + D) := nI_lt c2 (by omega)
          refine keep (fun _ e => by omega) fun d K v => ⟨v, ?_⟩
          rw [BX10_nextBlock_7 h.2]
          simp +decide only [g0, at_0 h hs, at_4 h hs, at_2 h hs, BX10_nextBlock_21 h.2, BX10_nextBlock_31 h.2, BX10_nextBlock_46 h.2, hz, q0, q2, q4, c0, c1, b1, g1, Option.toList_some, Option.toList_none, List.cons_append, List.nil_append, Nat.zero_add, Nat.reduceAdd, Option.some.injEq, Value.int.injEq, exists_eq_left', true_and, and_true, true_or, or_true, false_or, g_10, ↓reduceIte, nI_1]
        · have g1 : ¬ nI l < nI (L' + D) := nI_nlt (by omega) (by omega)
          cases ho : o with
          | none =>
            refine take nn (by omega) (fun t e => by rw [ho] at e; cases e) fun d K v => ⟨.int 1, ?_⟩
            rw [BX10_nextBlock_7 h.2]
            simp +decide only [g0, at_0 h hs, at_4 h hs, at_2 h hs, BX10_nextBlock_21 h.2, BX10_nextBlock_31 h.2, BX10_nextBlock_46 h.2, BX10_nextBlock_64 h.2, BX10_nextBlock_110 h.2, BX10_nextBlock_115 h.2, hz, q0, q2, q4, c0, c1, b1, g1, ho, gAns, Option.toList_some, Option.toList_none, List.cons_append, List.nil_append, Nat.zero_add, Nat.reduceAdd, Option.some.injEq, Value.int.injEq, exists_eq_left', true_and, and_true, true_or, or_true, false_or, g_10, ↓reduceIte, nI_1]
          | some t =>
            obtain ⟨j1, j2, j3, j4⟩ := i3 t ho
            obtain ⟨lt, qt, t1, t2, t3, t4, t5, t6, t7, t8, t9, t10, t11, t12⟩ := mBlk hM a5 j2
            rw [a3] at t11
            have et : mE m r t = lt - L' := by unfold mE; rw [w2, a3, t3]; rfl
            obtain ⟨-, -, p2, -⟩ := hM.2.2.2.2.2.2.1 t t5
            have gt0 : ¬ nI t < 0 := nI_pos (by omega)
            by_cases c3 : l < lt
            · have g2 : nI l < nI lt := nI_lt c3 (by omega)
              refine take nn (by omega) (fun t' e => by rw [ho] at e; cases e; omega) fun d K v => ⟨.int 1, ?_⟩
              rw [BX10_nextBlock_7 h.2]
              simp +decide only [g0, at_0 h hs, at_4 h hs, at_2 h hs, at_2 h t5, BX10_nextBlock_21 h.2, BX10_nextBlock_31 h.2, BX10_nextBlock_46 h.2, BX10_nextBlock_64 h.2, BX10_nextBlock_80 h.2, BX10_nextBlock_87 h.2, BX10_nextBlock_110 h.2, BX10_nextBlock_115 h.2, hz, q0, q2, q4, p2, c0, c1, b1, t1, g1, g2, gt0, ho, gAns, Option.toList_some, Option.toList_none, List.cons_append, List.nil_append, Nat.zero_add, Nat.reduceAdd, Option.some.injEq, Value.int.injEq, exists_eq_left', true_and, and_true, true_or, or_true, false_or, g_10, ↓reduceIte, nI_1]
            · have g2 : ¬ nI l < nI lt := nI_nlt (by omega) (by omega)
              refine keep (fun _ _ => ⟨t, ho, by omega⟩) fun d K v => ⟨.int 0, ?_⟩
              rw [BX10_nextBlock_7 h.2]
              simp +decide only [g0, at_0 h hs, at_4 h hs, at_2 h hs, at_2 h t5, BX10_nextBlock_21 h.2, BX10_nextBlock_31 h.2, BX10_nextBlock_46 h.2, BX10_nextBlock_64 h.2, BX10_nextBlock_80 h.2, BX10_nextBlock_87 h.2, BX10_nextBlock_114 h.2, BX10_nextBlock_115 h.2, hz, q0, q2, q4, p2, c0, c1, b1, t1, g1, g2, gt0, ho, gAns, Option.toList_some, Option.toList_none, List.cons_append, List.nil_append, Nat.zero_add, Nat.reduceAdd, Option.some.injEq, Value.int.injEq, exists_eq_left', true_and, and_true, true_or, or_true, false_or, g_10, ↓reduceIte, nI_1]
      · simp only [w2, Bool.false_eq_true, ↓reduceIte] at hF hw
        subst hF hw
        have ei : mE m r i = L' + Q' - (l + q) := by unfold mE; rw [w2, a3, a4, b3, b4]; rfl
        have zi : mZ m i = q := b4
        by_cases c2 : l < L' + Q' - D
        case neg =>
          have g1 : ¬ nI l < nI (L' + Q' - D) := nI_nlt (by omega) (by omega)
          refine keep (fun _ e => by omega) fun d K v => ⟨v, ?_⟩
          rw [BX10_nextBlock_7 h.2]
          simp +decide only [g0, at_0 h hs, at_4 h hs, at_2 h hs, BX10_nextBlock_21 h.2, BX10_nextBlock_31 h.2, BX10_nextBlock_60 h.2, hz, q0, q2, q4, c0, c1, b1, g1, Option.toList_some, Option.toList_none, List.cons_append, List.nil_append, Nat.zero_add, Nat.reduceAdd, Option.some.injEq, Value.int.injEq, exists_eq_left', true_and, and_true, true_or, or_true, false_or, g_10, ↓reduceIte, nI_1]
        · have g1 : nI l < nI (L' + Q' - D) := nI_lt c2 (by omega)
          cases ho : o with
          | none =>
            refine take nn (by omega) (fun t e => by rw [ho] at e; cases e) fun d K v => ⟨.int 1, ?_⟩
            rw [BX10_nextBlock_7 h.2]
            simp +decide only [g0, at_0 h hs, at_4 h hs, at_2 h hs, BX10_nextBlock_21 h.2, BX10_nextBlock_31 h.2, BX10_nextBlock_60 h.2, BX10_nextBlock_64 h.2, BX10_nextBlock_110 h.2, BX10_nextBlock_115 h.2, hz, q0, q2, q4, c0, c1, b1, g1, ho, gAns, Option.toList_some, Option.toList_none, List.cons_append, List.nil_append, Nat.zero_add, Nat.reduceAdd, Option.some.injEq, Value.int.injEq, exists_eq_left', true_and, and_true, true_or, or_true, false_or, g_10, ↓reduceIte, nI_1]
          | some t =>
            obtain ⟨j1, j2, j3, j4⟩ := i3 t ho
            obtain ⟨lt, qt, t1, t2, t3, t4, t5, t6, t7, t8, t9, t10, t11, t12⟩ := mBlk hM a5 j2
            rw [a3] at t11
            rw [a3, a4] at t12
            have et : mE m r t = L' + Q' - (lt + qt) := by unfold mE; rw [w2, a3, a4, t3, t4]; rfl
            have zt : mZ m t = qt := t4
            have hdj := d_disj hA nn j2 (by omega)
            obtain ⟨-, -, p2, -⟩ := hM.2.2.2.2.2.2.1 t t5
            have gt0 : ¬ nI t < 0 := nI_pos (by omega)
            by_cases c3 : lt < l
            · have g2 : nI lt < nI l := nI_lt c3 (by omega)
              refine take nn (by omega) (fun t' e => by rw [ho] at e; cases e; omega) fun d K v => ⟨.int 1, ?_⟩
              rw [BX10_nextBlock_7 h.2]
              simp +decide only [g0, at_0 h hs, at_4 h hs, at_2 h hs, at_2 h t5, BX10_nextBlock_21 h.2, BX10_nextBlock_31 h.2, BX10_nextBlock_60 h.2, BX10_nextBlock_64 h.2, BX10_nextBlock_100 h.2, BX10_nextBlock_107 h.2, BX10_nextBlock_110 h.2, BX10_nextBlock_115 h.2, hz, q0, q2, q4, p2, c0, c1, b1, t1, g1, g2, gt0, ho, gAns, Option.toList_some, Option.toList_none, List.cons_append, List.nil_append, Nat.zero_add, Nat.reduceAdd, Option.some.injEq, Value.int.injEq, exists_eq_left', true_and, and_true, true_or, or_true, false_or, g_10, ↓reduceIte, nI_1]
            · have g2 : ¬ nI lt < nI l := nI_nlt (by omega) (by omega)
              refine keep (fun _ _ => ⟨t, ho, by omega⟩) fun d K v => ⟨.int 0, ?_⟩
              rw [BX10_nextBlock_7 h.2]
              simp +decide only [g0, at_0 h hs, at_4 h hs, at_2 h hs, at_2 h t5, BX10_nextBlock_21 h.2, BX10_nextBlock_31 h.2, BX10_nextBlock_60 h.2, BX10_nextBlock_64 h.2, BX10_nextBlock_100 h.2, BX10_nextBlock_107 h.2, BX10_nextBlock_114 h.2, BX10_nextBlock_115 h.2, hz, q0, q2, q4, p2, c0, c1, b1, t1, g1, g2, gt0, ho, gAns, Option.toList_some, Option.toList_none, List.cons_append, List.nil_append, Nat.zero_add, Nat.reduceAdd, Option.some.injEq, Value.int.injEq, exists_eq_left', true_and, and_true, true_or, or_true, false_or, g_10, ↓reduceIte, nI_1]
  obtain ⟨o, k1, k2, k3⟩ := key 30 (Nat.le_refl _)
  refine ⟨o, fun d K => ?_, fun e s hs => ?_, fun s e => ?_⟩
  · obtain ⟨v, e⟩ := k1 d K
    rw [EX10_nextBlock h.2, e, BX10_nextBlock_7 h.2]
    simp only [show ¬ nI 30 < 30 by decide, Option.toList_some, Option.toList_none, List.cons_append, List.nil_append, Nat.zero_add, Nat.reduceAdd, Option.some.injEq, Value.int.injEq, exists_eq_left', true_and, and_true, true_or, or_true, false_or, g_10, ↓reduceIte]
  · exact k2 e s (hA.1 s hs).1 hs
  · obtain ⟨y1, y2, y3, y4⟩ := k3 s e
    exact ⟨y2, y3, fun t ht hd => y4 t (hA.1 t ht).1 ht hd⟩
/-- the class's next block to move -/
theorem nextTM_eq {x : gM} {b : Nat} {g : Nat → Int32} (h3 : isX3 G b) (h : gOK G) (hM : wMem B (gMem x b) g) {r : Nat} (hr : r < gN (gMem x b 2 0)) : g_inv (gCm' G (d + 3)) mX3_nextToMove [.ref b, .int (nI r)] x K = K (some (.int (gAns (mNx (gMem x b) r) (-1)))) x := by
  obtain ⟨m, hm⟩ : ∃ m, m = gMem x b := ⟨_, rfl⟩
  have ml : ∀ (s : Nat) (K : gK), mN m r s = true → g_inv (gCm' G (d + 2)) mX3_movedLow [.ref b, .int (nI s)] x K = K (some (.int (nI (mLow m r (gSl (mC m r) (mE m r s)) (gN (m 12 s)))))) x := fun s K hs => by
    rw [hm] at hs ⊢
    exact movedLow_eq h h3 hM (mReg hM hr).choose_spec.choose_spec.2.2.2.2.1 hs
  rw [← hm] at hM hr ⊢
  have xm : ∀ k j, k < 22 → x (b + k) j = m k j := fun k j hk => by rw [hm, gMem_k hk]
  obtain ⟨L, Q, a1, a2, a3, a4, a5, a6, a7, a8, a9⟩ := mReg hM hr
  obtain ⟨r1, r2, r3, r4, r5⟩ := g_ix (n := 5) (show r < 5 + 1 by omega) (by decide)
  have hA := dA_of hM hr
  rw [a4] at hA
  obtain ⟨w, hw⟩ : ∃ w : Int32, w = (if mW m r = true then 1 else 0) := ⟨_, rfl⟩
  have beg : g_inv (gCm' G (d + 3)) mX3_nextToMove [.ref b, .int (nI r)] x K = gw (gCm' G (d + 2)) G mX3_nextToMove K 31 [.ref b, .int (nI r), .int (nI Q), .int w, .int (nI 0), .long 0] [] x := by
    rw [EX3_nextToMove h3]
    rcases a9 with ⟨w1, w2⟩ | ⟨w1, w2⟩
    · simp +decide only [xm 5 r (by decide), xm 4 r (by decide), r4, r5, w1, a2, hw, w2, Option.toList_some, Option.toList_none, List.cons_append, List.nil_append, Nat.zero_add, Nat.reduceAdd, Option.some.injEq, Value.int.injEq, exists_eq_left', true_and, and_true, true_or, or_true, false_or, g_10, ↓reduceIte]
      rfl
    · simp +decide only [xm 5 r (by decide), xm 4 r (by decide), r4, r5, w1, a2, hw, w2, Option.toList_some, Option.toList_none, List.cons_append, List.nil_append, Nat.zero_add, Nat.reduceAdd, Option.some.injEq, Value.int.injEq, exists_eq_left', true_and, and_true, true_or, or_true, false_or, g_10, ↓reduceIte]
      rfl
  rw [beg]
  refine Eq.trans (g_find (W := fun i (v : Value) => gw (gCm' G (d + 2)) G mX3_nextToMove K 31 [.ref b, .int (nI r), .int (nI Q), .int w, .int (nI i), v] [] x) (F := fun i _ => .int (mC m r i)) (c := fun i => decide (mC m r i ≠ -1) && (mMay m (gN (mC m r i)) && decide (gSl (mC m r) (mE m r (gN (mC m r i))) ≠ mE m r (gN (mC m r i))))) (R := fun i => K (some (.int (mC m r i))) x) (E := K (some (.int (-1))) x) (L := Q) (fun i hi v => ?_) (fun v => ?_) (.long 0)) ?_
  · have g0 : nI i < nI Q := nI_lt hi (by omega)
    have st : gw (gCm' G (d + 2)) G mX3_nextToMove K 31 [.ref b, .int (nI r), .int (nI Q), .int w, .int (nI i), v] [] x = gw (gCm' G (d + 2)) G mX3_nextToMove K 68 [.ref b, .int (nI r), .int (nI Q), .int w, .int (nI i), v] [.int (nI (if mW m r = true then i else Q - 1 - i)), .int (nI L), .ref (b + 7)] x := by
      rw [BX3_nextToMove_31 h3]
      rcases a9 with ⟨w1, w2⟩ | ⟨w1, w2⟩
      · simp +decide only [g0, xm 3 r (by decide), r4, r5, a1, hw, w2, Option.toList_some, Option.toList_none, List.cons_append, List.nil_append, Nat.zero_add, Nat.reduceAdd, Option.some.injEq, Value.int.injEq, exists_eq_left', true_and, and_true, true_or, or_true, false_or, g_10, ↓reduceIte]
      · simp +decide only [g0, xm 3 r (by decide), r4, r5, a1, hw, w2, g_pred (show 1 ≤ Q by omega), pk_sub (show i ≤ Q - 1 by omega), Option.toList_some, Option.toList_none, List.cons_append, List.nil_append, Nat.zero_add, Nat.reduceAdd, Option.some.injEq, Value.int.injEq, exists_eq_left', true_and, and_true, true_or, or_true, false_or, g_10, ↓reduceIte]
    rw [st]
    have hp : L + (if mW m r = true then i else Q - 1 - i) = mP m r i := by
      unfold mP; rw [a3, a4]
      rcases a9 with ⟨w1, w2⟩ | ⟨w1, w2⟩
      · rw [w2]; rfl
      · rw [w2]; simp only [Bool.false_eq_true, ↓reduceIte]; omega
    have hp2 : mP m r i < 240 := by
      rw [← hp]; split <;> omega
    have g1 : nI L + nI (if mW m r = true then i else Q - 1 - i) = nI (mP m r i) := by rw [nI_add, hp]
    have g2 : vp_in (nI (mP m r i)) 240 := vp_in_nI hp2 (by decide)
    have g3 : (nI (mP m r i)).toNatClampNeg = mP m r i := nI_clamp (by omega)
    have g4 : x (b + 7) (mP m r i) = mC m r i := xm 7 _ (by decide)
    rw [BX3_nextToMove_68 h3]
    rcases hA.2.2 i hi with c | ⟨s, hN, c⟩
    · simp +decide only [g1, g2, g3, g4, c, decide_true, decide_false, Bool.false_and, Bool.true_and, Bool.and_false, Bool.and_true, Bool.false_eq_true, ne_eq, not_true_eq_false, not_false_eq_true, Option.toList_some, Option.toList_none, List.cons_append, List.nil_append, Nat.zero_add, Nat.reduceAdd, Option.some.injEq, Value.int.injEq, exists_eq_left', true_and, and_true, true_or, or_true, false_or, g_10, ↓reduceIte, nI_1]
    · obtain ⟨l, q, b1, b2, b3, b4, b5, b6, b7, b8, b9, b10, b11, b12⟩ := mBlk hM a5 hN
      rw [a3] at b11
      rw [a3, a4] at b12
      obtain ⟨f1, f2, f3, f4, f5⟩ := g_ix (n := 29) b5 (by decide)
      have sm := g_m1 (j := s) (by omega)
      have gs : gN (nI s) = s := gN_nI (by omega)
      have may : ∀ K : gK, g_inv (gCm' G (d + 2)) mX3_mayMove [.ref b, .int (nI s)] x K = if mMay m s = true then K (some (.int 1)) x else K (some (.int 0)) x := fun K => by
        rw [EX3_mayMove h3]
        unfold mMay
        by_cases y1 : m 10 s = 1
        · by_cases y2 : m 15 s = 0 <;> simp +decide only [f4, f5, xm 10 s (by decide), xm 15 s (by decide), y1, y2, Option.toList_some, Option.toList_none, List.cons_append, List.nil_append, Nat.zero_add, Nat.reduceAdd, Option.some.injEq, Value.int.injEq, exists_eq_left', true_and, and_true, true_or, or_true, false_or, g_10, ↓reduceIte]
        · simp +decide only [f4, f5, xm 10 s (by decide), y1, decide_true, decide_false, Bool.false_and, Bool.true_and, Bool.and_false, Bool.and_true, Bool.false_eq_true, ne_eq, not_true_eq_false, not_false_eq_true, Option.toList_some, Option.toList_none, List.cons_append, List.nil_append, Nat.zero_add, Nat.reduceAdd, Option.some.injEq, Value.int.injEq, exists_eq_left', true_and, and_true, true_or, or_true, false_or, g_10, ↓reduceIte]
      have hsl := gSl_le (C := mC m r) (mE m r s)
      have ee : (nI (mLow m r (gSl (mC m r) (mE m r s)) (gN (m 12 s))) = nI l) = (gSl (mC m r) (mE m r s) = mE m r s) := by
        have e1 : mE m r s = if mW m r = true then l - L else L + Q - (l + q) := by unfold mE; rw [a3, a4, b3, b4]
        have e2 : mLow m r (gSl (mC m r) (mE m r s)) (gN (m 12 s)) = if mW m r = true then L + gSl (mC m r) (mE m r s) else L + Q - gSl (mC m r) (mE m r s) - q := by unfold mLow; rw [a3, a4, b4]
        rw [e2]
        apply propext
        rcases a9 with ⟨w1, w2⟩ | ⟨w1, w2⟩
        · simp only [w2, ↓reduceIte] at e1 ⊢
          rw [nI_eq (by omega) (by omega)]
          omega
        · simp only [w2, Bool.false_eq_true, ↓reduceIte] at e1 ⊢
          rw [nI_eq (by omega) (by omega)]
          omega
      cases hm2 : mMay m s with
      | false => simp +decide only [g1, g2, g3, g4, c, sm, may, hm2, BX3_nextToMove_84 h3, gs, decide_true, decide_false, Bool.false_and, Bool.true_and, Bool.and_false, Bool.and_true, Bool.false_eq_true, ne_eq, not_true_eq_false, not_false_eq_true, Option.toList_some, Option.toList_none, List.cons_append, List.nil_append, Nat.zero_add, Nat.reduceAdd, Option.some.injEq, Value.int.injEq, exists_eq_left', true_and, and_true, true_or, or_true, false_or, g_10, ↓reduceIte, nI_1]
      | true =>
        by_cases c2 : gSl (mC m r) (mE m r s) = mE m r s
        · have e3 := ee.mpr c2
          rw [c2] at e3
          simp +decide only [g1, g2, g3, g4, c, sm, may, hm2, BX3_nextToMove_84 h3, ml s _ hN, BX3_nextToMove_93 h3, f4, f5, xm 11 s (by decide), b1, c2, e3, gs, decide_true, decide_false, Bool.false_and, Bool.true_and, Bool.and_false, Bool.and_true, Bool.false_eq_true, ne_eq, not_true_eq_false, not_false_eq_true, Option.toList_some, Option.toList_none, List.cons_append, List.nil_append, Nat.zero_add, Nat.reduceAdd, Option.some.injEq, Value.int.injEq, exists_eq_left', true_and, and_true, true_or, or_true, false_or, g_10, ↓reduceIte, nI_1]
        · simp +decide only [g1, g2, g3, g4, c, sm, may, hm2, BX3_nextToMove_84 h3, ml s _ hN, BX3_nextToMove_93 h3, f4, f5, xm 11 s (by decide), b1, ee, c2, gs, decide_true, decide_false, Bool.false_and, Bool.true_and, Bool.and_false, Bool.and_true, Bool.false_eq_true, ne_eq, not_true_eq_false, not_false_eq_true, Option.toList_some, Option.toList_none, List.cons_append, List.nil_append, Nat.zero_add, Nat.reduceAdd, Option.some.injEq, Value.int.injEq, exists_eq_left', true_and, and_true, true_or, or_true, false_or, g_10, ↓reduceIte, nI_1]
  · rw [BX3_nextToMove_31 h3]
    simp only [show ¬ nI Q < nI Q from nI_nlt (Nat.le_refl _) (by omega), Option.toList_some, Option.toList_none, List.cons_append, List.nil_append, Nat.zero_add, Nat.reduceAdd, Option.some.injEq, Value.int.injEq, exists_eq_left', true_and, and_true, true_or, or_true, false_or, g_10, ↓reduceIte]
  · unfold mNx dN
    rw [a4]
    cases e : gFst (fun i => decide (mC m r i ≠ -1) && (mMay m (gN (mC m r i)) && decide (gSl (mC m r) (mE m r (gN (mC m r i))) ≠ mE m r (gN (mC m r i))))) Q 0 with
    | none => rfl
    | some k =>
      obtain ⟨-, h1, h2, -⟩ := gFst_some e
      rcases hA.2.2 k (by omega) with c | ⟨s, hN, c⟩
      · simp [c] at h2
      · have := (hA.1 s hN).1
        show K (some (.int (mC m r k))) x = K (some (.int (nI (gN (mC m r k))))) x
        rw [c, gN_nI (by omega)]
end O47
