section O48
variable {G : gG} {d B : Nat} {σ : gM} {K : gK}
theorem cp_o {x : gM} {a b sp dp n c j : Nat} (h : c ≠ b) : g_cp x a b sp dp n c j = x c j := by
  unfold g_cp; rw [if_neg (fun z => h z.1)]
theorem cp_s {x : gM} {a b sp dp n j : Nat} : g_cp x a b sp dp n b j = if dp ≤ j ∧ j < dp + n then x a (sp + (j - dp)) else x b j := by
  unfold g_cp
  by_cases e : dp ≤ j ∧ j < dp + n
  · rw [if_pos ⟨rfl, e⟩, if_pos e]
  · rw [if_neg (fun z => e z.2), if_neg e]
theorem lay_o {x : gM} {b s l q c i : Nat} (h1 : i ≠ b + 1) (h7 : i ≠ b + 7) (h11 : i ≠ b + 11) : gLay x b s l q c i = x i := by
  unfold gLay
  rw [g_up_o h11, g_fl_o h7, g_fl_o h7]
  funext j
  unfold g_cp
  rw [if_neg (fun z => h1 z.1)]
theorem lay_1b {x : gM} {b s l q c j : Nat} : gLay x b s l q c (b + 1) j = if c ≤ j ∧ j < c + q then x (b + 1) (l + (j - c)) else x (b + 1) j := by
  unfold gLay
  rw [g_up_o (by omega), g_fl_o (by omega), g_fl_o (by omega), cp_s]
theorem lay_7b {x : gM} {b s l q c j : Nat} : gLay x b s l q c (b + 7) j = if c ≤ j ∧ j < c + q then nI s else if l ≤ j ∧ j < l + q then -1 else x (b + 7) j := by
  unfold gLay
  rw [g_up_o (by omega), g_fl_d, if_pos rfl, g_fl_d, if_pos rfl, cp_o (by omega)]
theorem lay_11b {x : gM} {b s l q c t : Nat} : gLay x b s l q c (b + 11) t = if t = s then nI c else x (b + 11) t := by
  unfold gLay
  rw [g_up_d, if_pos rfl, g_fl_o (by omega), g_fl_o (by omega), cp_o (by omega)]
theorem lay_1 {m : gM} {s l q c j : Nat} : gLay m 0 s l q c 1 j = if c ≤ j ∧ j < c + q then m 1 (l + (j - c)) else m 1 j := by
  have := lay_1b (x := m) (b := 0) (s := s) (l := l) (q := q) (c := c) (j := j)
  rw [Nat.zero_add] at this; exact this
theorem lay_7 {m : gM} {s l q c j : Nat} : gLay m 0 s l q c 7 j = if c ≤ j ∧ j < c + q then nI s else if l ≤ j ∧ j < l + q then -1 else m 7 j := by
  have := lay_7b (x := m) (b := 0) (s := s) (l := l) (q := q) (c := c) (j := j)
  rw [Nat.zero_add] at this; exact this
theorem lay_11 {m : gM} {s l q c t : Nat} : gLay m 0 s l q c 11 t = if t = s then nI c else m 11 t := by
  have := lay_11b (x := m) (b := 0) (s := s) (l := l) (q := q) (c := c) (t := t)
  rw [Nat.zero_add] at this; exact this
theorem gMem_lay {x : gM} {b s l q c : Nat} : gMem (gLay x b s l q c) b = gLay (gMem x b) 0 s l q c := by
  funext k j
  by_cases hk : k < 22
  · rw [gMem_k hk]
    rcases (by omega : k = 1 ∨ k = 7 ∨ k = 11 ∨ (k ≠ 1 ∧ k ≠ 7 ∧ k ≠ 11)) with rfl | rfl | rfl | ⟨h1, h7, h11⟩
    · rw [lay_1, lay_1b, gMem_k (by decide), gMem_k (by decide)]
    · rw [lay_7, lay_7b, gMem_k (by decide)]
    · rw [lay_11, lay_11b, gMem_k (by decide)]
    · rw [lay_o (by omega) (by omega) (by omega), lay_o (by omega) (by omega) (by omega), gMem_k hk]
  · rw [lay_o (by omega) (by omega) (by omega)]
    unfold gMem
    rw [if_neg hk, if_neg hk]
/-- a memory behind a move: still one -/
theorem mv_mem {m : gM} {g g' : Nat → Int32} {r s l q c D : Nat} (hM : wMem B m g) (hr : r < gN (m 2 0)) (hN : mN m r s = true) (hl : gN (m 11 s) = l) (hq : gN (m 12 s) = q) (hD : gSl (mC m r) (mE m r s) = D) (hc : mLow m r D q = c) (hg : ∀ j, g' j = if 330 + c ≤ j ∧ j < 330 + c + q then g (330 + l + (j - (330 + c))) else if j = s * 11 + 2 then nI c else g j) : wMem B (gLay m 0 s l q c) g' := by
  obtain ⟨L, Q, a1, a2, a3, a4, a5, a6, a7, a8, a9⟩ := mReg hM hr
  obtain ⟨l', q', b1, b2, b3, b4, b5, b6, b7, b8, b9, b10, b11, b12⟩ := mBlk hM a5 hN
  obtain rfl : l' = l := by rw [← b3, hl]
  obtain rfl : q' = q := by rw [← b4, hq]
  have hA := dA_of hM hr
  rw [a3] at b11
  rw [a3, a4] at b12
  rw [a4] at hA
  have hDe : D ≤ mE m r s := by rw [← hD]; exact gSl_le _
  have e1 : mE m r s = if mW m r = true then l' - L else L + Q - (l' + q') := by unfold mE; rw [a3, a4, b3, b4]
  have e2 : c = if mW m r = true then L + D else L + Q - D - q' := by rw [← hc]; unfold mLow; rw [a3, a4]
  have hz : mZ m s = q' := b4
  have hc1 : L ≤ c ∧ c + q' ≤ L + Q := by
    rcases a9 with ⟨-, w⟩ | ⟨-, w⟩ <;> simp only [w, ↓reduceIte, Bool.false_eq_true] at e1 e2 <;> omega
  have fr : ∀ i, D ≤ i → i < D + q' → mC m r i = -1 ∨ mC m r i = nI s := fun i h1 h2 => by
    have := (hA.1 s hN).2.2
    by_cases z : i < mE m r s
    · exact Or.inl (gSl_free (by rw [hD]; exact h1) z)
    · exact Or.inr ((hA.2.1 s i hN (by omega)).mp ⟨by omega, by omega⟩)
  have hfree : ∀ j, c ≤ j → j < c + q' → m 7 j = -1 ∨ m 7 j = nI s := fun j h1 h2 => by
    rcases a9 with ⟨-, w⟩ | ⟨-, w⟩ <;> simp only [w, ↓reduceIte, Bool.false_eq_true] at e1 e2
    · have := fr (j - L) (by omega) (by omega)
      unfold mC mP at this
      rw [w, if_pos rfl, a3, show L + (j - L) = j by omega] at this
      exact this
    · have := fr (L + Q - 1 - j) (by omega) (by omega)
      unfold mC mP at this
      rw [w, if_neg (by decide), a3, a4, show L + Q - 1 - (L + Q - 1 - j) = j by omega] at this
      exact this
  have inb : ∀ j, j < 240 → ((l' ≤ j ∧ j < l' + q') ↔ m 7 j = nI s) := fun j hj => by
    have := (hM.1.2.2.1 j hj).2 s b5 b6
    rw [b3, b4] at this
    exact this
  have fo : ∀ i, i ≠ 1 → i ≠ 7 → i ≠ 11 → gLay m 0 s l' q' c i = m i := fun i h1 h2 h3 => lay_o (by omega) (by omega) (by omega)
  have ft : ∀ k t, 9 ≤ k → k ≤ 17 → t ≠ s → gLay m 0 s l' q' c k t = m k t := fun k t h1 h2 ht => by
    by_cases e : k = 11
    · subst e; rw [lay_11, if_neg ht]
    · rw [fo k (by omega) (by omega) e]
  obtain ⟨d0, d1, d2, d3, d4, d5, d6, d7, d8⟩ := hM.2.2.2.2.2.2.1 s b5
  have go : ∀ i, (i < s * 11 + 2 ∨ s * 11 + 2 < i) → (i < 330 ∨ 570 ≤ i) → g' i = g i := fun i h1 h2 => by
    rw [hg, if_neg (by omega), if_neg (by omega)]
  refine wMem_lay (s := s) (r := r) (c := c) (n := q') hM b5 b6 b7 hr b9 b10 (by rw [a3]; exact hc1.1) (by rw [a3, a4]; exact hc1.2) hfree (fun i hi => fo i (by omega) (by omega) (by omega)) ft (by rw [lay_11, if_pos rfl]) (by rw [fo 12 (by decide) (by decide) (by decide)]; exact b2) (fun j hj => ?_) (wEq_sl (s := s) hM.2.2 b5 (fun i hi => fo i (by omega) (by omega) (by omega)) ft (fun i h1 h2 _ => go i (by omega) h2) (fun i hi => ?_) ⟨?_, ?_, ?_, ?_, ?_, ?_, ?_, ?_, ?_⟩) (go _ (by omega) (by omega)) (fun t ht => go _ (by omega) (by omega))
  · rw [lay_7]
    by_cases h1 : c ≤ j ∧ j < c + q'
    · rw [if_pos h1, if_pos h1]
    · rw [if_neg h1, if_neg h1]
      by_cases h2 : l' ≤ j ∧ j < l' + q'
      · rw [if_pos h2, if_pos ((inb j hj).mp h2)]
      · rw [if_neg h2, if_neg (fun z => h2 ((inb j hj).mpr z))]
  · rw [hg, lay_1]
    by_cases h1 : c ≤ i ∧ i < c + q'
    · rw [if_pos (by omega), if_pos h1, show 330 + l' + (330 + i - (330 + c)) = 330 + (l' + (i - c)) by omega]
      exact hM.2.2.2.1 _ (by omega)
    · rw [if_neg (by omega), if_neg h1, if_neg (by omega)]
      exact hM.2.2.2.1 i hi
  · rw [go _ (by omega) (by omega), fo 10 (by decide) (by decide) (by decide)]; exact d0
  · rw [go _ (by omega) (by omega), fo 9 (by decide) (by decide) (by decide)]; exact d1
  · rw [hg, if_neg (by omega), if_pos rfl, lay_11, if_pos rfl]
  · rw [go _ (by omega) (by omega), fo 12 (by decide) (by decide) (by decide)]; exact d3
  · rw [go _ (by omega) (by omega), fo 13 (by decide) (by decide) (by decide)]; exact d4
  · rw [go _ (by omega) (by omega), fo 14 (by decide) (by decide) (by decide)]; exact d5
  · rw [go _ (by omega) (by omega), fo 15 (by decide) (by decide) (by decide)]; exact d6
  · rw [go _ (by omega) (by omega), fo 16 (by decide) (by decide) (by decide)]; exact d7
  · rw [go _ (by omega) (by omega), fo 17 (by decide) (by decide) (by decide)]; exact d8
theorem mNx_s {m : gM} {g : Nat → Int32} {r s : Nat} (hM : wMem B m g) (hr : r < gN (m 2 0)) (h : mNx m r = some s) : mN m r s = true := by
  have hA := dA_of hM hr
  unfold mNx dN at h
  cases e : gFst (fun i => decide (mC m r i ≠ -1) && (mMay m (gN (mC m r i)) && decide (gSl (mC m r) (mE m r (gN (mC m r i))) ≠ mE m r (gN (mC m r i))))) (gN (m 4 r)) 0 with
  | none => rw [e] at h; cases h
  | some k =>
    rw [e] at h
    obtain ⟨-, h1, h2, -⟩ := gFst_some e
    rcases hA.2.2 k (by omega) with c | ⟨t, hN, c⟩
    · simp [c] at h2
    · have := (hA.1 t hN).1
      have h : some (gN (mC m r k)) = some s := h
      rw [c, gN_nI (by omega)] at h
      cases h
      exact hN
theorem mv_ex {m : gM} {g : Nat → Int32} {r s : Nat} (hM : wMem B m g) (hr : r < gN (m 2 0)) (hN : mN m r s = true) : ∃ g', wMem B (mMv m r s) g' := ⟨_, mv_mem hM hr hN rfl rfl rfl rfl (fun _ => rfl)⟩
/-- moves within a budget: what is left, what is used -/
def mGo (r bud : Nat) : Nat → gM → Nat → gM × Nat
  | 0, m, u => (m, u)
  | f + 1, m, u => match mNx m r with
    | none => (m, u)
    | some s => if bud < u + gN (m 12 s) then (m, u) else mGo r bud f (mMv m r s) (u + gN (m 12 s))
theorem mGo_none {m : gM} {r bud f u : Nat} (h : mNx m r = none) : mGo r bud f m u = (m, u) := by
  cases f with
  | zero => rfl
  | succ f => unfold mGo; rw [h]
theorem mGo_some {m : gM} {r bud f u s : Nat} (h : mNx m r = some s) : mGo r bud (f + 1) m u = if bud < u + gN (m 12 s) then (m, u) else mGo r bud f (mMv m r s) (u + gN (m 12 s)) := by
  show (match mNx m r with
    | none => (m, u)
    | some s => if bud < u + gN (m 12 s) then (m, u) else mGo r bud f (mMv m r s) (u + gN (m 12 s))) = _
  rw [h]
theorem mMv_o {m : gM} {r s i : Nat} (h1 : i ≠ 1) (h7 : i ≠ 7) (h11 : i ≠ 11) : mMv m r s i = m i := lay_o (by omega) (by omega) (by omega)
theorem mvW_eq {b r bud : Nat} (h : gOK G) (h3 : isX3 G b) (hb : bud ≤ 240) : ∀ (f i u : Nat) (x : gM) (g : Nat → Int32) (v : Value), i + f = 30 → wMem B (gMem x b) g → r < gN (gMem x b 2 0) → u ≤ bud → ∃ x' : gM, (∀ (d : Nat) (K : gK), gw (gCm' G (d + 3)) G mX3_moveWithin K 5 [.ref b, .int (nI r), .int (nI bud), .int (nI u), .int (nI i), v] [] x = K (some (.int (nI (mGo r bud f (gMem x b) u).2))) x') ∧ gMem x' b = (mGo r bud f (gMem x b) u).1 ∧ ∀ k, k ≠ b + 1 → k ≠ b + 7 → k ≠ b + 11 → x' k = x k := by
  intro f
  induction f with
  | zero =>
    intro i u x g v hi hM hr hu
    refine ⟨x, fun d K => ?_, rfl, fun _ _ _ _ => rfl⟩
    obtain rfl : i = 30 := by omega
    rw [BX3_moveWithin_5 h3]
    simp only [show ¬ nI 30 < 30 by decide, Option.toList_some, Option.toList_none, List.cons_append, List.nil_append, Nat.zero_add, Nat.reduceAdd, Option.some.injEq, Value.int.injEq, exists_eq_left', true_and, and_true, true_or, or_true, false_or, g_10, ↓reduceIte]
    rfl
  | succ f ih =>
    intro i u x g v hi hM hr hu
    have g0 : nI i < 30 := nI_lt (b := 30) (by omega) (by decide)
    cases hn : mNx (gMem x b) r with
    | none =>
      refine ⟨x, fun d K => ?_, by rw [mGo_none hn], fun _ _ _ _ => rfl⟩
      rw [BX3_moveWithin_5 h3]
      simp only [g0, nextTM_eq h3 h hM hr, hn, gAns, BX3_moveWithin_17 h3, mGo_none hn, Option.toList_some, Option.toList_none, List.cons_append, List.nil_append, Nat.zero_add, Nat.reduceAdd, Option.some.injEq, Value.int.injEq, exists_eq_left', true_and, and_true, true_or, or_true, false_or, g_10, ↓reduceIte]
    | some s =>
      have hN := mNx_s hM hr hn
      obtain ⟨L, Q, a1, a2, a3, a4, a5, a6, a7, a8, a9⟩ := mReg hM hr
      obtain ⟨l, q, b1, b2, b3, b4, b5, b6, b7, b8, b9, b10, b11, b12⟩ := mBlk hM a5 hN
      rw [a3] at b11
      rw [a3, a4] at b12
      obtain ⟨f1, f2, f3, f4, f5⟩ := g_ix (n := 29) b5 (by decide)
      have sm := g_m1 (j := s) (by omega)
      have k1 : x (b + 12) s = nI q := by rw [← b2, gMem_k (by decide)]
      have k2 : x (b + 11) s = nI l := by rw [← b1, gMem_k (by decide)]
      have k3 : nI bud - nI u = nI (bud - u) := pk_sub hu
      rw [mGo_some hn, b4]
      by_cases c : bud < u + q
      · have k4 : nI (bud - u) < nI q := nI_lt (by omega) (by omega)
        refine ⟨x, fun d K => ?_, by rw [if_pos c], fun _ _ _ _ => rfl⟩
        rw [BX3_moveWithin_5 h3]
        simp only [g0, nextTM_eq h3 h hM hr, hn, gAns, BX3_moveWithin_17 h3, sm, f4, f5, k1, k3, k4, c, Option.toList_some, Option.toList_none, List.cons_append, List.nil_append, Nat.zero_add, Nat.reduceAdd, Option.some.injEq, Value.int.injEq, exists_eq_left', true_and, and_true, true_or, or_true, false_or, g_10, ↓reduceIte]
      · have k4 : ¬ nI (bud - u) < nI q := nI_nlt (by omega) (by omega)
        rw [if_neg c]
        obtain ⟨c', hc'⟩ : ∃ c', mLow (gMem x b) r (gSl (mC (gMem x b) r) (mE (gMem x b) r s)) (gN (gMem x b 12 s)) = c' := ⟨_, rfl⟩
        have hcq : c' + q ≤ 240 := by
          have hsl := gSl_le (C := mC (gMem x b) r) (mE (gMem x b) r s)
          have e1 : mE (gMem x b) r s = if mW (gMem x b) r = true then l - L else L + Q - (l + q) := by unfold mE; rw [a3, a4, b3, b4]
          rw [← hc']
          unfold mLow
          rw [a3, a4, b4]
          rcases a9 with ⟨-, w⟩ | ⟨-, w⟩ <;> simp only [w, ↓reduceIte, Bool.false_eq_true] at e1 ⊢ <;> omega
        have hm1 : gMem (gLay x b s l q c') b = mMv (gMem x b) r s := by
          rw [gMem_lay]; unfold mMv; rw [hc', b3, b4]
        obtain ⟨g', hg'⟩ := mv_ex hM hr hN
        obtain ⟨x', i1, i2, i3⟩ := ih (i + 1) (u + q) (gLay x b s l q c') g' (.int (nI s)) (by omega) (by rw [hm1]; exact hg') (by rw [hm1, mMv_o (by decide) (by decide) (by decide)]; exact hr) (by omega)
        rw [hm1] at i1 i2
        refine ⟨x', fun d K => ?_, i2, fun k n1 n2 n3 => by rw [i3 k n1 n2 n3, lay_o n1 n2 n3]⟩
        rw [← i1 d K, BX3_moveWithin_5 h3]
        have mlow : ∀ K : gK, g_inv (gCm' G (d + 3)) mX3_movedLow [.ref b, .int (nI s)] x K = K (some (.int (nI c'))) x := fun K => by
          rw [movedLow_eq h h3 hM a5 hN, hc']
        have lay : ∀ K : gK, g_inv (gCm' G (d + 3)) mX3_layAt [.ref b, .int (nI s), .int (nI c')] x K = K none (gLay x b s l q c') := fun K => lay_eq h3 b5 k2 k1 (by omega) hcq
        simp only [g0, nextTM_eq h3 h hM hr, hn, gAns, BX3_moveWithin_17 h3, sm, f4, f5, k1, k3, k4, mlow, BX3_moveWithin_65 h3, lay, BX3_moveWithin_68 h3, nI_add, nI_1, Option.toList_some, Option.toList_none, List.cons_append, List.nil_append, Nat.zero_add, Nat.reduceAdd, Option.some.injEq, Value.int.injEq, exists_eq_left', true_and, and_true, true_or, or_true, false_or, g_10, ↓reduceIte]
theorem gCnt_mono {c c' : Nat → Bool} : ∀ {L : Nat}, (∀ t, t < L → c t = true → c' t = true) → gCnt c L ≤ gCnt c' L
  | 0, _ => Nat.le_refl _
  | L + 1, h => by
    have := gCnt_mono (L := L) (fun t ht => h t (by omega))
    show gCnt c L + (if c L = true then 1 else 0) ≤ gCnt c' L + (if c' L = true then 1 else 0)
    by_cases e : c L = true
    · rw [if_pos e, if_pos (h L (by omega) e)]; omega
    · rw [if_neg e]; omega
theorem mvT_back (h : gOK G) {m z : gM} {r s D L Q : Nat} (hM : wMem B m (z 105)) (hr : r < gN (m 2 0)) (a3 : gN (m 3 r) = L) (a4 : gN (m 4 r) = Q) (hN : mN m r s = true) (hD : mE m r s + mZ m s = D) (hJ : ∀ t, mN m r t = true → mE m r t + mZ m t ≤ D ∨ D ≤ mE m r t) :
    ∃ o : Option Nat, (∀ (d : Nat) (K : gK) (bud nx u v : Int32), gw (gCm' G (d + 3)) G mX10_moved K 151 [.ref 104, .int (nI r), .int bud, .int (if mW m r = true then 1 else 0), .int nx, .int u, .int (nI s), .int v] [] z = gw (gCm' G (d + 3)) G mX10_moved K 56 [.ref 104, .int (nI r), .int bud, .int (if mW m r = true then 1 else 0), .int (nI (if mW m r = true then L + D else L + Q - D)), .int u, .int (gAns o (-2)), .int v] [] z) ∧ (o = none → ∀ s, mN m r s = true → ¬ D ≤ mE m r s) ∧ ∀ s, o = some s → dS (mN m r) (mE m r) D s := by
  have hA := dA_of hM hr
  rw [a4] at hA
  have hs := hA.1 s hN
  obtain ⟨o, o1, o2, o3⟩ := nextB_eq h hM rfl hr a3 a4 (show D ≤ Q by omega) hJ
  refine ⟨o, fun d K bud nx u v => ?_, o2, o3⟩
  obtain ⟨L', Q', a1, a2, e3, e4, a5, a6, a7, a8, a9⟩ := mReg hM hr
  obtain ⟨l, q, b1, b2, b3, b4, b5, b6, b7, b8, b9, b10, b11, b12⟩ := mBlk hM a5 hN
  rw [a3] at b11
  rw [a3, a4] at b12
  obtain ⟨-, -, p2, p3, -⟩ := hM.2.2.2.2.2.2.1 s b5
  have e1 : mE m r s = if mW m r = true then l - L else L + Q - (l + q) := by unfold mE; rw [a3, a4, b3, b4]
  have hz : mZ m s = q := b4
  rw [BX10_moved_151 h.2]
  rcases a9 with ⟨-, w⟩ | ⟨-, w⟩ <;> simp only [w, ↓reduceIte, Bool.false_eq_true] at e1 o1 ⊢
  · have e5 : l + q = L + D := by omega
    simp +decide only [at_2 h b5, at_3 h b5, p2, p3, b1, b2, BX10_moved_162 h.2, BX10_moved_169 h.2, BX10_moved_180 h.2, BX10_moved_190 h.2, nI_add, e5, o1, Option.toList_some, Option.toList_none, List.cons_append, List.nil_append, Nat.zero_add, Nat.reduceAdd, Option.some.injEq, Value.int.injEq, exists_eq_left', true_and, and_true, true_or, or_true, false_or, g_10, ↓reduceIte]
  · have e5 : l = L + Q - D := by omega
    simp +decide only [at_2 h b5, p2, b1, BX10_moved_180 h.2, BX10_moved_190 h.2, e5, o1, Option.toList_some, Option.toList_none, List.cons_append, List.nil_append, Nat.zero_add, Nat.reduceAdd, Option.some.injEq, Value.int.injEq, exists_eq_left', true_and, and_true, true_or, or_true, false_or, g_10, ↓reduceIte]
theorem mvT_eq (h : gOK G) {r bud L Q : Nat} (hb : bud ≤ 4000) : ∀ (k D u f : Nat) (m z : gM) (o : Option Nat) (v : Value), Q - D < k → wMem B m (z 105) → r < gN (m 2 0) → gN (m 3 r) = L → gN (m 4 r) = Q → dJ (mC m r) (mN m r) (mE m r) (mZ m) (mMay m) Q D → u ≤ D → gCnt (fun t => mN m r t && decide (D ≤ mE m r t)) 30 ≤ f → (o = none → ∀ s, mN m r s = true → ¬ D ≤ mE m r s) → (∀ s, o = some s → dS (mN m r) (mE m r) D s) →
    ∃ z' : gM, (∀ (d : Nat) (K : gK), gw (gCm' G (d + 3)) G mX10_moved K 56 [.ref 104, .int (nI r), .int (nI bud), .int (if mW m r = true then 1 else 0), .int (nI (if mW m r = true then L + D else L + Q - D)), .int (nI u), .int (gAns o (-2)), v] [] z = K (some (.int (nI (mGo r bud f m u).2))) z') ∧ wMem B (mGo r bud f m u).1 (z' 105) ∧ (∀ i, i ≠ 105 → i ≠ 110 → z' i = z i) ∧ (mGo r bud f m u).2 ≤ Q := by
  intro k
  induction k with
  | zero => intro D u f m z o v hk; omega
  | succ k ih =>
    intro D u f m z o v hk hM hr a3 a4 hJ hu hf ho1 ho2
    have hA := dA_of hM hr
    rw [a4] at hA
    cases o with
    | none =>
      have hn : mNx m r = none := by unfold mNx; rw [a4]; exact d_none hA hJ (ho1 rfl)
      rw [mGo_none hn]
      refine ⟨z, fun d K => ?_, hM, fun _ _ _ => rfl, Nat.le_trans hu hJ.1⟩
      rw [BX10_moved_56 h.2]
      simp +decide only [gAns, Option.toList_some, Option.toList_none, List.cons_append, List.nil_append, Nat.zero_add, Nat.reduceAdd, Option.some.injEq, Value.int.injEq, exists_eq_left', true_and, and_true, true_or, or_true, false_or, g_10, ↓reduceIte]
    | some s =>
      have hS := ho2 s rfl
      have hN := hS.1
      have hDe := hS.2.1
      have hAs := hA.1 s hN
      obtain ⟨L', Q', a1, a2, e3, e4, a5, a6, a7, a8, a9⟩ := mReg hM hr
      obtain rfl : L' = L := by rw [← e3, a3]
      obtain rfl : Q' = Q := by rw [← e4, a4]
      obtain ⟨l, q, b1, b2, b3, b4, b5, b6, b7, b8, b9, b10, b11, b12⟩ := mBlk hM a5 hN
      rw [a3] at b11
      rw [a3, a4] at b12
      have hz : mZ m s = q := b4
      have e1 : mE m r s = if mW m r = true then l - L' else L' + Q' - (l + q) := by unfold mE; rw [a3, a4, b3, b4]
      obtain ⟨c, hc⟩ : ∃ c, mLow m r D q = c := ⟨_, rfl⟩
      have e2 : c = if mW m r = true then L' + D else L' + Q' - D - q := by rw [← hc]; unfold mLow; rw [a3, a4]
      have hcq : c + q ≤ 240 := by
        rcases a9 with ⟨-, w⟩ | ⟨-, w⟩ <;> simp only [w, ↓reduceIte, Bool.false_eq_true] at e1 e2 <;> omega
      obtain ⟨p0, -, p2, p3, -, -, p6, -, -⟩ := hM.2.2.2.2.2.2.1 s b5
      have sp : ¬ nI s < 0 := nI_pos (by omega)
      have st : ∀ (d : Nat) (K : gK), gw (gCm' G (d + 3)) G mX10_moved K 56 [.ref 104, .int (nI r), .int (nI bud), .int (if mW m r = true then 1 else 0), .int (nI (if mW m r = true then L' + D else L' + Q' - D)), .int (nI u), .int (gAns (some s) (-2)), v] [] z = gw (gCm' G (d + 3)) G mX10_moved K 88 [.ref 104, .int (nI r), .int (nI bud), .int (if mW m r = true then 1 else 0), .int (nI (if mW m r = true then L' + D else L' + Q' - D)), .int (nI u), .int (nI s), .int (nI c)] [.int (if m 10 s = 1 then 1 else 0)] z := fun d K => by
        rw [BX10_moved_56 h.2]
        have lv : ∀ K : gK, g_inv (gCm' G (d + 3)) mX10_isLive [.ref 104, .int (nI s)] z K = K (some (.int (if m 10 s = 1 then 1 else 0))) z := fun K => by
          rw [live_eq h b5, p0]; split <;> rfl
        rcases a9 with ⟨-, w⟩ | ⟨-, w⟩ <;> simp only [w, ↓reduceIte, Bool.false_eq_true] at e2 ⊢
        · simp +decide only [gAns, sp, BX10_moved_80 h.2, lv, e2, Option.toList_some, Option.toList_none, List.cons_append, List.nil_append, Nat.zero_add, Nat.reduceAdd, Option.some.injEq, Value.int.injEq, exists_eq_left', true_and, and_true, true_or, or_true, false_or, g_10, ↓reduceIte]
        · simp +decide only [gAns, sp, BX10_moved_79 h.2, BX10_moved_80 h.2, at_3 h b5, p3, b2, pk_sub (show q ≤ L' + Q' - D by omega), lv, e2, Option.toList_some, Option.toList_none, List.cons_append, List.nil_append, Nat.zero_add, Nat.reduceAdd, Option.some.injEq, Value.int.injEq, exists_eq_left', true_and, and_true, true_or, or_true, false_or, g_10, ↓reduceIte]
      -- it stays where it is
      have skip : (mMay m s = false ∨ mE m r s = D) → (∀ (d : Nat) (K : gK), gw (gCm' G (d + 3)) G mX10_moved K 88 [.ref 104, .int (nI r), .int (nI bud), .int (if mW m r = true then 1 else 0), .int (nI (if mW m r = true then L' + D else L' + Q' - D)), .int (nI u), .int (nI s), .int (nI c)] [.int (if m 10 s = 1 then 1 else 0)] z = gw (gCm' G (d + 3)) G mX10_moved K 151 [.ref 104, .int (nI r), .int (nI bud), .int (if mW m r = true then 1 else 0), .int (nI (if mW m r = true then L' + D else L' + Q' - D)), .int (nI u), .int (nI s), .int (nI c)] [] z) → ∃ z' : gM, (∀ (d : Nat) (K : gK), gw (gCm' G (d + 3)) G mX10_moved K 56 [.ref 104, .int (nI r), .int (nI bud), .int (if mW m r = true then 1 else 0), .int (nI (if mW m r = true then L' + D else L' + Q' - D)), .int (nI u), .int (gAns (some s) (-2)), v] [] z = K (some (.int (nI (mGo r bud f m u).2))) z') ∧ wMem B (mGo r bud f m u).1 (z' 105) ∧ (∀ i, i ≠ 105 → i ≠ 110 → z' i = z i) ∧ (mGo r bud f m u).2 ≤ Q' := fun k1 k2 => by
        have hJ' := d_skip hA hJ hS k1
        obtain ⟨o, o1, o2, o3⟩ := mvT_back h hM hr a3 a4 hN rfl hJ'.2.2.1
        obtain ⟨z', i1, i2, i3, i4⟩ := ih (mE m r s + mZ m s) u f m z o (.int (nI c)) (by omega) hM hr a3 a4 hJ' (by omega) (Nat.le_trans (gCnt_mono fun t _ ht => by
          simp only [Bool.and_eq_true, decide_eq_true_eq] at ht ⊢
          exact ⟨ht.1, by omega⟩) hf) o2 o3
        exact ⟨z', fun d K => by rw [st, k2, o1, i1], i2, i3, i4⟩
      by_cases c1 : m 10 s = 1
      case neg =>
        exact skip (Or.inl (by unfold mMay; rw [decide_eq_false c1]; rfl)) fun d K => by
          rw [BX10_moved_88 h.2]
          simp +decide only [c1, Option.toList_some, Option.toList_none, List.cons_append, List.nil_append, Nat.zero_add, Nat.reduceAdd, Option.some.injEq, Value.int.injEq, exists_eq_left', true_and, and_true, true_or, or_true, false_or, g_10, ↓reduceIte]
      by_cases c2 : m 15 s = 0
      case neg =>
        exact skip (Or.inl (by unfold mMay; rw [decide_eq_false c2]; simp)) fun d K => by
          rw [BX10_moved_88 h.2]
          simp +decide only [c1, c2, at_6 h b5, p6, BX10_moved_99 h.2, Option.toList_some, Option.toList_none, List.cons_append, List.nil_append, Nat.zero_add, Nat.reduceAdd, Option.some.injEq, Value.int.injEq, exists_eq_left', true_and, and_true, true_or, or_true, false_or, g_10, ↓reduceIte]
      by_cases c3 : mE m r s = D
      · have lc : l = c := by rcases a9 with ⟨-, w⟩ | ⟨-, w⟩ <;> simp only [w, ↓reduceIte, Bool.false_eq_true] at e1 e2 <;> omega
        exact skip (Or.inr c3) fun d K => by
          rw [BX10_moved_88 h.2]
          simp +decide only [c1, c2, at_6 h b5, at_2 h b5, p6, p2, b1, lc, BX10_moved_99 h.2, BX10_moved_109 h.2, Option.toList_some, Option.toList_none, List.cons_append, List.nil_append, Nat.zero_add, Nat.reduceAdd, Option.some.injEq, Value.int.injEq, exists_eq_left', true_and, and_true, true_or, or_true, false_or, g_10, ↓reduceIte]
      -- it goes
      have hmay : mMay m s = true := by unfold mMay; rw [decide_eq_true c1, decide_eq_true c2]; rfl
      have hsl := d_sl hA hJ hS
      have hn : mNx m r = some s := by unfold mNx; rw [a4]; exact d_move hA hJ hS hmay c3
      have hm1 : mMv m r s = gLay m 0 s l q c := by unfold mMv; rw [hsl, b3, b4, hc]
      have lc : ¬ nI l = nI c := fun e => c3 (by
        have := nI_inj (by omega) (by omega) e
        rcases a9 with ⟨-, w⟩ | ⟨-, w⟩ <;> simp only [w, ↓reduceIte, Bool.false_eq_true] at e1 e2 <;> omega)
      have hf1 : 1 ≤ f := by
        have := gCnt_rm (c := fun t => mN m r t && decide (D ≤ mE m r t)) (L := 30) b5 (by simp [hN, hDe])
        omega
      obtain ⟨f, rfl⟩ : ∃ f', f = f' + 1 := ⟨f - 1, by omega⟩
      rw [mGo_some hn, b4]
      by_cases c4 : bud < u + q
      · have k4 : nI bud < nI (u + q) := nI_lt c4 (by omega)
        rw [if_pos c4]
        refine ⟨z, fun d K => ?_, hM, fun _ _ _ => rfl, Nat.le_trans hu hJ.1⟩
        rw [st, BX10_moved_88 h.2]
        simp +decide only [c1, c2, at_6 h b5, at_2 h b5, at_3 h b5, p6, p2, p3, b1, b2, lc, k4, nI_add, BX10_moved_99 h.2, BX10_moved_109 h.2, BX10_moved_123 h.2, Option.toList_some, Option.toList_none, List.cons_append, List.nil_append, Nat.zero_add, Nat.reduceAdd, Option.some.injEq, Value.int.injEq, exists_eq_left', true_and, and_true, true_or, or_true, false_or, g_10, ↓reduceIte]
      · have k4 : ¬ nI bud < nI (u + q) := nI_nlt (by omega) (by omega)
        rw [if_neg c4]
        have ge : ∀ (d : Nat) (K : gK), g_inv (gCm' G (d + 3)) mX10_goes [.ref 104, .int (nI s), .int (nI c)] z K = K none (gGo z s l q c) := fun d K => goes_eq h b5 (by rw [p2, b1]) (by rw [p3, b2]) (by omega) hcq
        have hM1 : wMem B (mMv m r s) ((gGo z s l q c) 105) := by
          rw [hm1]
          exact mv_mem hM hr hN b3 b4 hsl hc (fun j => by unfold gGo; rw [if_pos rfl])
        have w5 : mW (mMv m r s) r = mW m r := by unfold mW; rw [mMv_o (by decide) (by decide) (by decide)]
        have w3 : gN (mMv m r s 3 r) = L' := by rw [mMv_o (by decide) (by decide) (by decide), a3]
        have w4 : gN (mMv m r s 4 r) = Q' := by rw [mMv_o (by decide) (by decide) (by decide), a4]
        have hr1 : r < gN (mMv m r s 2 0) := by rw [mMv_o (by decide) (by decide) (by decide)]; exact hr
        have wN : mN (mMv m r s) r = mN m r := by unfold mN; rw [mMv_o (by decide) (by decide) (by decide), mMv_o (by decide) (by decide) (by decide)]
        have wZ : mZ (mMv m r s) = mZ m := by unfold mZ; rw [mMv_o (by decide) (by decide) (by decide)]
        have wM : mMay (mMv m r s) = mMay m := by unfold mMay; rw [mMv_o (by decide) (by decide) (by decide), mMv_o (by decide) (by decide) (by decide)]
        have hA1 := dA_of hM1 hr1
        rw [w4, wN, wZ] at hA1
        have he : ∀ t, t ≠ s → mE (mMv m r s) r t = mE m r t := fun t ht => by
          unfold mE
          rw [w5, hm1, lay_11, if_neg ht, lay_o (by decide) (by decide) (by decide), lay_o (by decide) (by decide) (by decide), lay_o (by decide) (by decide) (by decide)]
        have hes : mE (mMv m r s) r s = D := by
          unfold mE
          rw [w5, w3, w4, hm1, lay_11, if_pos rfl, lay_o (by decide) (by decide) (by decide), b4, gN_nI (by omega)]
          rcases a9 with ⟨-, w⟩ | ⟨-, w⟩ <;> simp only [w, ↓reduceIte, Bool.false_eq_true] at e2 ⊢ <;> omega
        have hC : ∀ i, i < D → mC (mMv m r s) r i = mC m r i := fun i hi => by
          have hp : mP (mMv m r s) r i = mP m r i := by unfold mP; rw [w5, w3, w4, a3, a4]
          have hp2 : mP m r i = if mW m r = true then L' + i else L' + Q' - 1 - i := by unfold mP; rw [a3, a4]
          unfold mC
          rw [hp, hm1, lay_7]
          have n1 : ¬ (c ≤ mP m r i ∧ mP m r i < c + q) := by
            rcases a9 with ⟨-, w⟩ | ⟨-, w⟩ <;> simp only [w, ↓reduceIte, Bool.false_eq_true] at e2 hp2 <;> omega
          have n2 : ¬ (l ≤ mP m r i ∧ mP m r i < l + q) := by
            rcases a9 with ⟨-, w⟩ | ⟨-, w⟩ <;> simp only [w, ↓reduceIte, Bool.false_eq_true] at e1 hp2 <;> omega
          rw [if_neg n1, if_neg n2]
        have hJ1 := d_moved hA hJ hS hA1 he hes hC
        rw [hz] at hJ1
        obtain ⟨o, o1, o2, o3⟩ := mvT_back (s := s) (D := D + q) h hM1 hr1 w3 w4 (by rw [wN]; exact hN) (by rw [hes, wZ, hz]) (by rw [wN, wZ]; exact hJ1.2.2.1)
        rw [wN] at o2 o3
        rw [w5] at o1
        obtain ⟨z', i1, i2, i3, i4⟩ := ih (D + q) (u + q) f (mMv m r s) (gGo z s l q c) o (.int (nI c)) (by omega) hM1 hr1 w3 w4 (by rw [wN, wZ, wM]; exact hJ1) (by omega) (by
          rw [wN]
          have := gCnt_grow (c := fun t => mN m r t && decide (D + q ≤ mE (mMv m r s) r t)) (c' := fun t => mN m r t && decide (D ≤ mE m r t)) (s := s) (L := 30) (fun t _ ht => by
            simp only [Bool.and_eq_true, decide_eq_true_eq] at ht ⊢
            refine ⟨ht.1, ?_⟩
            by_cases ets : t = s
            · rw [ets]; exact hDe
            · rw [he t ets] at ht; omega) b5 (by
            have : ¬ D + q ≤ mE (mMv m r s) r s := by rw [hes]; omega
            simp [this]) (by simp [hN, hDe])
          omega) (by rw [wN]; exact o2) (by rw [wN]; exact o3)
        rw [w5] at i1
        refine ⟨z', fun d K => ?_, i2, fun i n1 n2 => ?_, i4⟩
        · rw [← i1 d K, ← o1 d K (nI bud) (nI (if mW m r = true then L' + D else L' + Q' - D)) (nI (u + q)) (nI c), st, BX10_moved_88 h.2]
          simp +decide only [c1, c2, at_6 h b5, at_2 h b5, at_3 h b5, p6, p2, p3, b1, b2, lc, k4, nI_add, BX10_moved_99 h.2, BX10_moved_109 h.2, BX10_moved_123 h.2, BX10_moved_140 h.2, ge, Option.toList_some, Option.toList_none, List.cons_append, List.nil_append, Nat.zero_add, Nat.reduceAdd, Option.some.injEq, Value.int.injEq, exists_eq_left', true_and, and_true, true_or, or_true, false_or, g_10, ↓reduceIte]
        · rw [i3 i n1 n2]
          unfold gGo
          funext j
          rw [if_neg n1, if_neg (fun z => n2 z.1)]
end O48
