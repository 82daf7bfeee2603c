section O35
theorem nI_lt_iff {a b : Nat} (ha : a < 2 ^ 31) (hb : b < 2 ^ 31) : nI a < nI b ↔ a < b := ⟨fun h => by rw [Int32.lt_iff_toInt_lt, nI_toInt ha, nI_toInt hb] at h; omega, fun h => nI_lt h hb⟩
variable {G : gG} {d B : Nat} {σ : gM} {K : gK}
theorem ahead_eq (h : gOK G) (hB : B < 1000000) (hR : wRel B σ) {p s : Nat} {a : Int32} (hp : p < gN (σ 19 0)) (hs : s < 30) (es : σ 20 p = nI s) : gw (gCm' G (d + 3)) G mX10_tagged K 37 [.ref 104, .int a, .int (nI s), .int 0, .int 0] [] σ = gw (gCm' G (d + 3)) G mX10_tagged K 37 [.ref 104, .int a, .int (nI s), .int (nI p), .int (nI 30)] [] σ := by
  obtain ⟨t1, t2, t3, t4, t5⟩ := hR.1.2.1
  have hcnt := gCnt_list (t := fun k => gN (σ 20 k)) (L := 30) (N := p) (c := fun q => decide (σ 11 q = 1 ∧ ¬ σ 17 q < 0 ∧ σ 105 (q * 11 + 8) < σ 105 (s * 11 + 8))) (fun k hk => by have := (t3 k (by show k < gN (σ 19 0); omega)).1.2; exact Nat.lt_succ_of_le this) (fun k j hkj hj e => (t5 k j hkj (by show j < gN (σ 19 0); omega)).2 (congrArg (σ 17) e)) (fun q hq => ?_)
  · have key : ∀ k, k ≤ 30 → gw (gCm' G (d + 3)) G mX10_tagged K 37 [.ref 104, .int a, .int (nI s), .int 0, .int 0] [] σ = gw (gCm' G (d + 3)) G mX10_tagged K 37 [.ref 104, .int a, .int (nI s), .int (nI (gCnt (fun q => decide (σ 11 q = 1 ∧ ¬ σ 17 q < 0 ∧ σ 105 (q * 11 + 8) < σ 105 (s * 11 + 8))) k)), .int (nI k)] [] σ := by
      intro k
      induction k with
      | zero => intro _; rfl
      | succ i ih =>
        intro hi
        have hi30 : i < 30 := by omega
        obtain ⟨e1, e2, e3, e4, e5⟩ := g_ix (n := 29) hi30 (by decide)
        have e2 : nI i < 30 := e2
        rw [ih (by omega), BX10_tagged_37 h.2]
        have st0 : ¬ (σ 11 i = 1 ∧ ¬ σ 17 i < 0 ∧ σ 105 (i * 11 + 8) < σ 105 (s * 11 + 8)) → gCnt (fun q => decide (σ 11 q = 1 ∧ ¬ σ 17 q < 0 ∧ σ 105 (q * 11 + 8) < σ 105 (s * 11 + 8))) (i + 1) = gCnt (fun q => decide (σ 11 q = 1 ∧ ¬ σ 17 q < 0 ∧ σ 105 (q * 11 + 8) < σ 105 (s * 11 + 8))) i := fun hc => by
          show _ + (if decide _ = true then 1 else 0) = _
          rw [decide_eq_false hc]
          rfl
        have st1 : (σ 11 i = 1 ∧ ¬ σ 17 i < 0 ∧ σ 105 (i * 11 + 8) < σ 105 (s * 11 + 8)) → gCnt (fun q => decide (σ 11 q = 1 ∧ ¬ σ 17 q < 0 ∧ σ 105 (q * 11 + 8) < σ 105 (s * 11 + 8))) (i + 1) = gCnt (fun q => decide (σ 11 q = 1 ∧ ¬ σ 17 q < 0 ∧ σ 105 (q * 11 + 8) < σ 105 (s * 11 + 8))) i + 1 := fun hc => by
          show _ + (if decide _ = true then 1 else 0) = _
          rw [decide_eq_true hc]
          rfl
        by_cases c1 : σ 11 i = 1
        · by_cases c2 : σ 17 i < 0
          · rw [st0 (fun z => z.2.1 c2)]
            simp +decide only [e2, live_eq h hi30, at_7 h hi30, BX10_tagged_51 h.2, BX10_tagged_62 h.2, rs0 hR _ hi30, rs7 hR _ hi30, c1, c2, Option.toList_some, Option.toList_none, List.cons_append, List.nil_append, Nat.zero_add, Nat.reduceAdd, Option.some.injEq, Value.int.injEq, exists_eq_left', true_and, and_true, true_or, or_true, false_or, g_10, ↓reduceIte, nI_1, Int32.add_zero, not_true_eq_false, false_and, and_false, decide_false]
          · by_cases c3 : σ 105 (i * 11 + 8) < σ 105 (s * 11 + 8)
            · rw [st1 ⟨c1, c2, c3⟩]
              simp +decide only [e2, live_eq h hi30, at_7 h hi30, at_8 h hi30, at_8 h hs, BX10_tagged_51 h.2, BX10_tagged_62 h.2, BX10_tagged_73 h.2, BX10_tagged_80 h.2, rs0 hR _ hi30, rs7 hR _ hi30, c1, c2, c3, Option.toList_some, Option.toList_none, List.cons_append, List.nil_append, Nat.zero_add, Nat.reduceAdd, Option.some.injEq, Value.int.injEq, exists_eq_left', true_and, and_true, true_or, or_true, false_or, g_10, ↓reduceIte, nI_1, Int32.add_zero, not_false_eq_true, and_self, decide_true]
            · rw [st0 (fun z => c3 z.2.2)]
              simp +decide only [e2, live_eq h hi30, at_7 h hi30, at_8 h hi30, at_8 h hs, BX10_tagged_51 h.2, BX10_tagged_62 h.2, BX10_tagged_73 h.2, BX10_tagged_80 h.2, rs0 hR _ hi30, rs7 hR _ hi30, c1, c2, c3, Option.toList_some, Option.toList_none, List.cons_append, List.nil_append, Nat.zero_add, Nat.reduceAdd, Option.some.injEq, Value.int.injEq, exists_eq_left', true_and, and_true, true_or, or_true, false_or, g_10, ↓reduceIte, nI_1, Int32.add_zero, and_false, decide_false]
        · rw [st0 (fun z => c1 z.1)]
          simp +decide only [e2, live_eq h hi30, BX10_tagged_51 h.2, rs0 hR _ hi30, c1, Option.toList_some, Option.toList_none, List.cons_append, List.nil_append, Nat.zero_add, Nat.reduceAdd, Option.some.injEq, Value.int.injEq, exists_eq_left', true_and, and_true, true_or, or_true, false_or, g_10, ↓reduceIte, nI_1, Int32.add_zero, false_and, decide_false]
    rw [key 30 (Nat.le_refl _), hcnt]
  · simp only [decide_eq_true_eq]
    have gp : gN (gMem σ 1 19 p) = s := by show gN (σ 20 p) = s; rw [es, gN_nI (by omega)]
    have sp := t3 p hp
    rw [gp] at sp
    have lt_i : ∀ x y : Int32, gNn x B → gNn y B → (x < y ↔ gN x < gN y) := fun x y hx hy => by
      have := hx.2
      have := hy.2
      rw [hx.1, hy.1]
      rw [gN_nI (by omega), gN_nI (by omega)]
      exact nI_lt_iff (by omega) (by omega)
    constructor
    · rintro ⟨h1, h2, h3⟩
      obtain ⟨k, hk, ek⟩ := t4 q hq h1 (fun z => h2 (by rw [show σ 17 q = -1 from z]; decide))
      have gk : gN (gMem σ 1 19 k) = q := by rw [ek, gN_nI (by omega)]
      have sk := t3 k hk
      rw [gk] at sk
      refine ⟨k, ?_, gk⟩
      have h3 := (lt_i _ _ sk.2.2.2.1 sp.2.2.2.1).mp h3
      rcases Nat.lt_trichotomy k p with z | z | z
      · exact z
      · subst z
        rw [gp] at gk; subst gk; omega
      · have := (t5 p k z hk).1
        rw [gk, gp] at this; omega
    · rintro ⟨k, hk, e⟩
      have hk2 : k < gN (σ 19 0) := by omega
      have gk : gN (gMem σ 1 19 k) = q := e
      have sk := t3 k hk2
      rw [gk] at sk
      have u3 : σ 17 q ≠ -1 := sk.2.2.1
      refine ⟨sk.2.1, gNn_neg (((rSl hR q hq).2.2.2.1).resolve_left u3) (by decide), (lt_i _ _ sk.2.2.2.1 sp.2.2.2.1).mpr ?_⟩
      have := (t5 k p hk hp).1
      rw [gk, gp] at this
      exact this
theorem op_tagged (h : gOK G) (hB : B < 1000000) (hR : wRel B σ) (a : Int32) : gOp G (d + 4) B mX9_tagged mX10_tagged [.int a] σ := by
  unfold gOp
  by_cases c1 : a < 0
  · simp only [EX9_tagged, BX9_tagged_17, EX10_tagged, BX10_tagged_19, BX10_tagged_29, BX10_tagged_51, BX10_tagged_62, BX10_tagged_73, BX10_tagged_80, BX10_tagged_108, Option.toList_some, Option.toList_none, List.cons_append, List.nil_append, Nat.zero_add, Nat.reduceAdd, Option.some.injEq, Value.int.injEq, exists_eq_left', true_and, and_true, true_or, or_true, false_or, g_10, ↓reduceIte, h.1, h.2, hNow h, hReg h, hGrd h, hBlk h, hTgo h, hWlk h, hPln h, hTap h, hHol h, c1]
    exact wRel_up hR (by omega)
  obtain ⟨κ, hκ, rfl⟩ := nI_of c1
  obtain ⟨M, hM, eM⟩ : ∃ M, M = gN (σ 19 0) ∧ σ 19 0 = nI M := ⟨_, rfl, hR.1.2.1.1.1⟩
  have M30 : M ≤ 30 := by rw [hM]; exact hR.1.2.1.1.2
  have lp : ∀ K : gK, gw (gCm' G (d + 3)) G mX10_tagged K 8 [.ref 104, .int (nI κ), .int (nI 0), .long 0, .long 0] [] σ = match gFst (fun s => decide (σ 11 s = 1 ∧ ¬ σ 17 s < 0 ∧ κ < M ∧ σ 20 κ = nI s)) 30 0 with
      | some s => K (some (.int (σ 17 s))) σ
      | none => K (some (.int (-2))) σ := fun K => by
    have key : ∀ n i (v : Value × Value), i + n = 30 → gw (gCm' G (d + 3)) G mX10_tagged K 8 [.ref 104, .int (nI κ), .int (nI i), v.1, v.2] [] σ = match gFst (fun s => decide (σ 11 s = 1 ∧ ¬ σ 17 s < 0 ∧ κ < M ∧ σ 20 κ = nI s)) n i with
        | some s => K (some (.int (σ 17 s))) σ
        | none => K (some (.int (-2))) σ := by
      intro n
      induction n with
      | zero =>
        intro i v e
        rw [show i = 30 by omega, BX10_tagged_8 h.2]
        simp only [show ¬ nI 30 < 30 by decide, Option.toList_some, Option.toList_none, List.cons_append, List.nil_append, Nat.zero_add, Nat.reduceAdd, Option.some.injEq, Value.int.injEq, exists_eq_left', true_and, and_true, true_or, or_true, false_or, g_10, ↓reduceIte]
        rfl
      | succ n ih =>
        intro i v e
        have hi30 : i < 30 := by omega
        obtain ⟨e1, e2, e3, e4, e5⟩ := g_ix (n := 29) hi30 (by decide)
        have e2 : nI i < 30 := e2
        rw [BX10_tagged_8 h.2]
        unfold gFst
        by_cases d1 : σ 11 i = 1
        · by_cases d2 : σ 17 i < 0
          · have := ih (i + 1) v (by omega)
            simp +decide only [e2, live_eq h hi30, at_7 h hi30, BX10_tagged_19 h.2, BX10_tagged_29 h.2, rs0 hR _ hi30, rs7 hR _ hi30, d1, d2, Option.toList_some, Option.toList_none, List.cons_append, List.nil_append, Nat.zero_add, Nat.reduceAdd, Option.some.injEq, Value.int.injEq, exists_eq_left', true_and, and_true, true_or, or_true, false_or, g_10, ↓reduceIte, nI_1, not_true_eq_false, false_and, and_false, decide_false, this]
          · obtain ⟨p, hp, ep⟩ := hR.1.2.1.2.2.2.1 i hi30 d1 (fun z => d2 (by rw [show σ 17 i = -1 from z]; decide))
            have hp : p < gN (σ 19 0) := hp
            have ep : σ 20 p = nI i := ep
            have := ih (i + 1) (.int (nI p), .int (nI 30)) (by omega)
            by_cases d3 : κ < M ∧ σ 20 κ = nI i
            · have hpk : p = κ := by
                rcases Nat.lt_trichotomy p κ with z | z | z
                · exact absurd (congrArg (fun q => σ 17 (gN q)) (ep.trans d3.2.symm)) (hR.1.2.1.2.2.2.2 p κ z (by rw [hM] at d3; exact d3.1)).2
                · exact z
                · exact absurd (congrArg (fun q => σ 17 (gN q)) (d3.2.trans ep.symm)) (hR.1.2.1.2.2.2.2 κ p z hp).2
              subst hpk
              simp +decide only [e2, live_eq h hi30, at_7 h hi30, BX10_tagged_19 h.2, BX10_tagged_29 h.2, ahead_eq h hB hR hp hi30 ep, rs0 hR _ hi30, rs7 hR _ hi30, d1, d2, d3, Option.toList_some, Option.toList_none, List.cons_append, List.nil_append, Nat.zero_add, Nat.reduceAdd, Option.some.injEq, Value.int.injEq, exists_eq_left', true_and, and_true, true_or, or_true, false_or, g_10, ↓reduceIte, not_false_eq_true, and_self, decide_true]
              rw [BX10_tagged_37 h.2]
              simp +decide only [show ¬ nI 30 < 30 by decide, at_7 h hi30, BX10_tagged_108 h.2, rs7 hR _ hi30, Option.toList_some, Option.toList_none, List.cons_append, List.nil_append, Nat.zero_add, Nat.reduceAdd, Option.some.injEq, Value.int.injEq, exists_eq_left', true_and, and_true, true_or, or_true, false_or, g_10, ↓reduceIte]
            · have hpk : ¬ nI p = nI κ := fun e => by
                have := nI_inj (by omega) hκ e
                subst this
                exact d3 ⟨by omega, ep⟩
              simp +decide only [e2, live_eq h hi30, at_7 h hi30, BX10_tagged_19 h.2, BX10_tagged_29 h.2, ahead_eq h hB hR hp hi30 ep, rs0 hR _ hi30, rs7 hR _ hi30, d1, d2, d3, Option.toList_some, Option.toList_none, List.cons_append, List.nil_append, Nat.zero_add, Nat.reduceAdd, Option.some.injEq, Value.int.injEq, exists_eq_left', true_and, and_true, true_or, or_true, false_or, g_10, ↓reduceIte, not_false_eq_true, and_false, and_self, decide_false]
              rw [BX10_tagged_37 h.2]
              simp +decide only [show ¬ nI 30 < 30 by decide, hpk, Option.toList_some, Option.toList_none, List.cons_append, List.nil_append, Nat.zero_add, Nat.reduceAdd, Option.some.injEq, Value.int.injEq, exists_eq_left', true_and, and_true, true_or, or_true, false_or, g_10, ↓reduceIte, nI_1]
              exact this
        · have := ih (i + 1) v (by omega)
          simp +decide only [e2, live_eq h hi30, BX10_tagged_19 h.2, rs0 hR _ hi30, d1, Option.toList_some, Option.toList_none, List.cons_append, List.nil_append, Nat.zero_add, Nat.reduceAdd, Option.some.injEq, Value.int.injEq, exists_eq_left', true_and, and_true, true_or, or_true, false_or, g_10, ↓reduceIte, nI_1, false_and, decide_false, this]
    exact key 30 0 (.long 0, .long 0) (by omega)
  by_cases ck : κ < M
  · obtain ⟨x, hx, ex, gx, x1, x2⟩ := rOrd hR hM ck
    obtain ⟨f1, f2, f3, f4, f5⟩ := g_ix (n := 29) hx (by decide)
    have xm := g_m1 (j := x) (by omega)
    have g0 : nI κ < nI M := nI_lt ck (by omega)
    have g1 : nI κ < 30 := nI_lt (b := 30) (by omega) (by decide)
    have g3 : vp_in (nI κ) 30 := vp_in_nI (by omega) (by decide)
    have g4 : (nI κ).toNatClampNeg = κ := nI_clamp (by omega)
    have xl : ¬ σ 17 x < 0 := gNn_neg (((rSl hR x hx).2.2.2.1).resolve_left x2) (by decide)
    have hf : gFst (fun s => decide (σ 11 s = 1 ∧ ¬ σ 17 s < 0 ∧ κ < M ∧ σ 20 κ = nI s)) 30 0 = some x := by
      cases hf : gFst (fun s => decide (σ 11 s = 1 ∧ ¬ σ 17 s < 0 ∧ κ < M ∧ σ 20 κ = nI s)) 30 0 with
      | none => exact absurd (gFst_none hf x (by omega) (by omega)) (by simp [x1, xl, ck, ex])
      | some y =>
        obtain ⟨-, hy, hc, -⟩ := gFst_some hf
        have hc := of_decide_eq_true hc
        have := nI_inj (by omega) (by omega) (ex.symm.trans hc.2.2.2)
        rw [this]
    simp only [EX9_tagged, BX9_tagged_17, EX10_tagged, BX10_tagged_19, BX10_tagged_29, BX10_tagged_51, BX10_tagged_62, BX10_tagged_73, BX10_tagged_80, BX10_tagged_108, EX6_slotAt, Option.toList_some, Option.toList_none, List.cons_append, List.nil_append, Nat.zero_add, Nat.reduceAdd, Option.some.injEq, Value.int.injEq, exists_eq_left', true_and, and_true, true_or, or_true, false_or, g_10, ↓reduceIte, h.1, h.2, hNow h, hReg h, hGrd h, hBlk h, hTgo h, hWlk h, hPln h, hTap h, hHol h, c1, eM, g0, g1, g3, g4, ex, xm, f4, f5]
    rw [show (0 : Int32) = nI 0 from rfl, lp, hf]
    exact ⟨rfl, wRel_up hR (by omega)⟩
  · have g0 : ¬ nI κ < nI M := nI_nlt (by omega) hκ
    have hf : gFst (fun s => decide (σ 11 s = 1 ∧ ¬ σ 17 s < 0 ∧ κ < M ∧ σ 20 κ = nI s)) 30 0 = none := by
      cases hf : gFst (fun s => decide (σ 11 s = 1 ∧ ¬ σ 17 s < 0 ∧ κ < M ∧ σ 20 κ = nI s)) 30 0 with
      | none => rfl
      | some y =>
        obtain ⟨-, hy, hc, -⟩ := gFst_some hf
        have hc := of_decide_eq_true hc
        exact absurd hc.2.2.1 ck
    simp only [EX9_tagged, BX9_tagged_17, EX10_tagged, BX10_tagged_19, BX10_tagged_29, BX10_tagged_51, BX10_tagged_62, BX10_tagged_73, BX10_tagged_80, BX10_tagged_108, EX6_slotAt, Option.toList_some, Option.toList_none, List.cons_append, List.nil_append, Nat.zero_add, Nat.reduceAdd, Option.some.injEq, Value.int.injEq, exists_eq_left', true_and, and_true, true_or, or_true, false_or, g_10, ↓reduceIte, h.1, h.2, hNow h, hReg h, hGrd h, hBlk h, hTgo h, hWlk h, hPln h, hTap h, hHol h, c1, eM, g0]
    rw [show (0 : Int32) = nI 0 from rfl, lp, hf]
    exact ⟨rfl, wRel_up hR (by omega)⟩
end O35
