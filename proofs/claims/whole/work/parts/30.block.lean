section O30
variable {G : gG} {d B : Nat} {σ : gM} {K : gK}
theorem g_fl_d {σ : gM} {a l n b j : Nat} {v : Int32} : g_fl σ a l n v b j = if b = a then (if l ≤ j ∧ j < l + n then v else σ b j) else σ b j := by
  unfold g_fl
  by_cases e : b = a <;> by_cases e2 : l ≤ j ∧ j < l + n <;> simp [e, e2]
/-- what is equal behind a change of one slot and of cells -/
theorem wEq_sl {m m' : gM} {g g' : Nat → Int32} {s : Nat} (c : wEq m g) (hs : s < 30) (fo : ∀ i, i = 0 ∨ (2 ≤ i ∧ i ≤ 5) ∨ 20 ≤ i → m' i = m i) (ft : ∀ k t, 9 ≤ k → k ≤ 17 → t ≠ s → m' k t = m k t) (go : ∀ i, (i < s * 11 ∨ s * 11 + 11 ≤ i) → (i < 330 ∨ 570 ≤ i) → i ≠ 606 → g' i = g i) (gc : ∀ i, i < 240 → g' (330 + i) = m' 1 i)
    (gs : g' (s * 11 + 0) = m' 10 s ∧ g' (s * 11 + 1) = m' 9 s ∧ g' (s * 11 + 2) = m' 11 s ∧ g' (s * 11 + 3) = m' 12 s ∧ g' (s * 11 + 4) = m' 13 s ∧ g' (s * 11 + 5) = m' 14 s ∧ g' (s * 11 + 6) = m' 15 s ∧ g' (s * 11 + 7) = m' 16 s ∧ g' (s * 11 + 9) = m' 17 s) : wEq m' g' := by
  obtain ⟨c1, c2, c3, c4, c5, c6, c7⟩ := c
  refine ⟨?_, gc, ?_, fun r hr => ?_, fun t ht => ?_, fun o ho => ?_, fun r hr => ?_⟩
  · rw [go _ (by omega) (by omega) (by omega), fo 0 (by omega)]; exact c1
  · rw [go _ (by omega) (by omega) (by omega), fo 2 (by omega)]; exact c3
  · rw [go _ (by omega) (by omega) (by omega), fo 3 (by omega), go _ (by omega) (by omega) (by omega), fo 4 (by omega), go _ (by omega) (by omega) (by omega), fo 5 (by omega)]; exact c4 r hr
  · by_cases e : t = s
    · subst e; exact gs
    · obtain ⟨d0, d1, d2, d3, d4, d5, d6, d7, d8⟩ := c5 t ht
      refine ⟨?_, ?_, ?_, ?_, ?_, ?_, ?_, ?_, ?_⟩
      · rw [go _ (by omega) (by omega) (by omega), ft _ t (by omega) (by omega) e]; exact d0
      · rw [go _ (by omega) (by omega) (by omega), ft _ t (by omega) (by omega) e]; exact d1
      · rw [go _ (by omega) (by omega) (by omega), ft _ t (by omega) (by omega) e]; exact d2
      · rw [go _ (by omega) (by omega) (by omega), ft _ t (by omega) (by omega) e]; exact d3
      · rw [go _ (by omega) (by omega) (by omega), ft _ t (by omega) (by omega) e]; exact d4
      · rw [go _ (by omega) (by omega) (by omega), ft _ t (by omega) (by omega) e]; exact d5
      · rw [go _ (by omega) (by omega) (by omega), ft _ t (by omega) (by omega) e]; exact d6
      · rw [go _ (by omega) (by omega) (by omega), ft _ t (by omega) (by omega) e]; exact d7
      · rw [go _ (by omega) (by omega) (by omega), ft _ t (by omega) (by omega) e]; exact d8
  · rw [go _ (by omega) (by omega) (by omega), fo 20 (by omega)]; exact c6 o ho
  · rw [go _ (by omega) (by omega) (by omega), fo 21 (by omega)]; exact c7 r hr
theorem nI_inj {a b : Nat} (ha : a < 2 ^ 31) (hb : b < 2 ^ 31) (h : nI a = nI b) : a = b := (nI_eq ha hb).mp h
/-- a block more -/
theorem wMem_make {m m' : gM} {g g' : Nat → Int32} {s r c n o : Nat} (hB : B < 1000000) (hM : wMem B m g) (hs : s < 30) (h0 : m 10 s = 0) (hr : r < gN (m 2 0)) (hn : 1 ≤ n) (hn2 : n ≤ 40) (ho : o ≤ 9) (hc1 : gN (m 3 r) ≤ c) (hc2 : c + n ≤ gN (m 3 r) + gN (m 4 r)) (hfree : ∀ j, c ≤ j → j < c + n → m 7 j = -1)
    (fo : ∀ i, i = 0 ∨ (2 ≤ i ∧ i ≤ 5) ∨ 17 ≤ i → m' i = m i) (ft : ∀ k t, 9 ≤ k → k ≤ 17 → t ≠ s → m' k t = m k t) (f9 : m' 9 s = m 9 s + 1) (f10 : m' 10 s = 1) (f11 : m' 11 s = nI c) (f12 : m' 12 s = nI n) (f13 : m' 13 s = nI r) (f14 : m' 14 s = nI o) (f15 : m' 15 s = 0) (f16 : m' 16 s = -1)
    (f7 : ∀ j, m' 7 j = if c ≤ j ∧ j < c + n then nI s else m 7 j) (he : wEq m' g') (hg : g' 606 = g 606) (hg8 : ∀ t, t < 30 → g' (t * 11 + 8) = g (t * 11 + 8)) : wMem (B + 1) m' g' := by
  obtain ⟨⟨a1, a2, a3, a4⟩, ⟨t1, t2, t3, t4, t5⟩, -⟩ := hM
  obtain ⟨r1, r2⟩ := a1
  have n6 : gN (m 2 0) ≤ 6 := r1.2
  obtain ⟨q1, q2, q3, q4, q5, -⟩ := r2 r hr
  refine ⟨⟨wReg_c ⟨r1, r2⟩ (fo 2 (by omega)) (fo 3 (by omega)) (fo 4 (by omega)) (fo 5 (by omega)), fun t ht => ?_, fun k hk => ⟨?_, fun t ht hl => ?_⟩, wRest_c a4 (by omega) (by rw [fo 0 (by omega)]) (fo 20 (by omega)) (fo 21 (by omega))⟩, ⟨?_, ?_, fun k hk => ?_, fun t ht h1 h2 => ?_, fun k j hkj hj => ?_⟩, he⟩
  · by_cases e : t = s
    · subst e
      obtain ⟨b1, b2, b3, b4, b5⟩ := a2 t ht
      refine ⟨?_, Or.inr (Or.inl f10), by rw [fo 17 (by omega)]; exact gNn_up b3 (by omega), Or.inl f16, fun _ => ?_⟩
      · have hB := b1.2
        rw [f9, b1.1, nI_1]
        exact gNn_nI (by omega) (by omega)
      · unfold wBlk
        rw [f11, f12, f13, f14, f15, fo 2 (by omega), fo 3 (by omega), fo 4 (by omega), gN_nI (by omega), gN_nI (by omega), gN_nI (by omega)]
        exact ⟨gNn_nI (by omega) (by decide), hr, gNn_nI (by omega) (by decide), hn, gNn_nI (by omega) (by decide), hc1, hc2, gNn_nI ho (by decide), gNn_nI (n := 0) (by omega) (by decide)⟩
    · exact wSlot_c (a2 t ht) (by omega) (fo 2 (by omega)) (fo 3 (by omega)) (fo 4 (by omega)) (ft _ t (by omega) (by omega) e) (ft _ t (by omega) (by omega) e) (ft _ t (by omega) (by omega) e) (ft _ t (by omega) (by omega) e) (ft _ t (by omega) (by omega) e) (ft _ t (by omega) (by omega) e) (ft _ t (by omega) (by omega) e) (ft _ t (by omega) (by omega) e) (ft _ t (by omega) (by omega) e)
  · rw [f7]
    by_cases hk2 : c ≤ k ∧ k < c + n
    · rw [if_pos hk2]; exact Or.inr ⟨s, hs, by rw [f10]; decide, rfl⟩
    · rw [if_neg hk2]
      rcases (a3 k hk).1 with z | ⟨t, ht, z1, z2⟩
      · exact Or.inl z
      · have : t ≠ s := fun e => z1 (by rw [e]; exact h0)
        exact Or.inr ⟨t, ht, by rw [ft 10 t (by omega) (by omega) this]; exact z1, z2⟩
  · rw [f7]
    by_cases e : t = s
    · subst e
      rw [f11, f12, gN_nI (by omega), gN_nI (by omega)]
      by_cases hk2 : c ≤ k ∧ k < c + n
      · rw [if_pos hk2]; exact ⟨fun _ => rfl, fun _ => hk2⟩
      · rw [if_neg hk2]
        refine ⟨fun z => absurd z hk2, fun z => ?_⟩
        rcases (a3 k hk).1 with y | ⟨t', ht', y1, y2⟩
        · rw [z] at y; exact absurd y (g_m1 (by omega))
        · rw [z] at y2
          have := nI_inj (by omega) (by omega) y2
          subst this; exact absurd h0 y1
    · rw [ft 10 t (by omega) (by omega) e] at hl
      rw [ft 11 t (by omega) (by omega) e, ft 12 t (by omega) (by omega) e]
      have old := (a3 k hk).2 t ht hl
      by_cases hk2 : c ≤ k ∧ k < c + n
      · rw [if_pos hk2, old, hfree k hk2.1 hk2.2]
        refine ⟨fun z => absurd z.symm (g_m1 (by omega)), fun z => absurd (nI_inj (by omega) (by omega) z).symm e⟩
      · rw [if_neg hk2]; exact old
  · rw [fo 18 (by omega)]; exact t1
  · rw [hg]; exact gNn_up t2 (by omega)
  · rw [fo 18 (by omega)] at hk
    rw [fo 19 (by omega), hg]
    obtain ⟨b1, b2, b3, b4, b5⟩ := t3 k hk
    have hb := b1.2
    have e : gN (m 19 k) ≠ s := fun e => by rw [e, h0] at b2; exact absurd b2 (by decide)
    rw [hg8 _ (by omega), ft 10 _ (by omega) (by omega) e, ft 16 _ (by omega) (by omega) e]
    exact ⟨b1, b2, b3, gNn_up b4 (by omega), b5⟩
  · have e : t ≠ s := fun e => by rw [e, f16] at h2; exact h2 rfl
    rw [ft 10 _ (by omega) (by omega) e] at h1
    rw [ft 16 _ (by omega) (by omega) e] at h2
    rw [fo 18 (by omega), fo 19 (by omega)]
    exact t4 t ht h1 h2
  · rw [fo 18 (by omega)] at hj
    rw [fo 19 (by omega)]
    obtain ⟨b1, b2, -⟩ := t3 k (by omega)
    obtain ⟨d1, d2, -⟩ := t3 j hj
    have := b1.2
    have := d1.2
    have e : gN (m 19 k) ≠ s := fun e => by rw [e, h0] at b2; exact absurd b2 (by decide)
    have e' : gN (m 19 j) ≠ s := fun e => by rw [e, h0] at d2; exact absurd d2 (by decide)
    rw [hg8 _ (by omega), hg8 _ (by omega), ft 16 _ (by omega) (by omega) e, ft 16 _ (by omega) (by omega) e']
    exact t5 k j hkj hj
def gMk (σ : gM) (s r c n o : Nat) : gM := g_fl (g_fl (g_up (g_up (g_up (g_up (g_up (g_up (g_up (g_up σ 10 s (σ 10 s + 1)) 11 s 1) 12 s (nI c)) 13 s (nI n)) 14 s (nI r)) 15 s (nI o)) 16 s 0) 17 s (-1)) 8 c n (nI s)) 2 c n 0
def gMkT (z : gM) (s r c n o : Nat) (v : Int32) : gM := g_fl (g_up (g_up (g_up (g_up (g_up (g_up (g_up (g_up z 105 (s * 11 + 0) 1) 105 (s * 11 + 1) v) 105 (s * 11 + 2) (nI c)) 105 (s * 11 + 3) (nI n)) 105 (s * 11 + 4) (nI r)) 105 (s * 11 + 5) (nI o)) 105 (s * 11 + 6) 0) 105 (s * 11 + 7) (-1)) 105 (330 + c) n 0
theorem gMk_o {s r c n o i : Nat} (h1 : i ≠ 2) (h2 : i ≠ 8) (h3 : i < 10 ∨ 17 < i) : gMk σ s r c n o i = σ i := by
  unfold gMk
  rw [g_fl_o h1, g_fl_o h2, g_up_o (by omega), g_up_o (by omega), g_up_o (by omega), g_up_o (by omega), g_up_o (by omega), g_up_o (by omega), g_up_o (by omega), g_up_o (by omega)]
theorem gMk_t {s r c n o i t : Nat} (ht : t ≠ s) (h1 : i ≠ 2) (h2 : i ≠ 8) : gMk σ s r c n o i t = σ i t := by
  simp [gMk, g_fl_d, g_up_d, ht, h1, h2]
theorem gMkT_o {z : gM} {s r c n o i : Nat} {v : Int32} (h : i ≠ 105) : gMkT z s r c n o v i = z i := by
  unfold gMkT
  rw [g_fl_o h, g_up_o h, g_up_o h, g_up_o h, g_up_o h, g_up_o h, g_up_o h, g_up_o h, g_up_o h]
theorem gMkT_i {z : gM} {s r c n o i : Nat} {v : Int32} (h : i < s * 11 ∨ s * 11 + 11 ≤ i) (h2 : ¬ (330 + c ≤ i ∧ i < 330 + c + n)) : gMkT z s r c n o v 105 i = z 105 i := by
  simp only [gMkT, g_fl_d, g_up_d, ↓reduceIte, h2]
  rw [if_neg (by omega), if_neg (by omega), if_neg (by omega), if_neg (by omega), if_neg (by omega), if_neg (by omega), if_neg (by omega), if_neg (by omega)]
theorem gMkT_c {z : gM} {s r c n o i : Nat} {v : Int32} (h : s < 30) : gMkT z s r c n o v 105 (330 + i) = if c ≤ i ∧ i < c + n then 0 else z 105 (330 + i) := by
  have e : (330 + c ≤ 330 + i ∧ 330 + i < 330 + c + n) ↔ (c ≤ i ∧ i < c + n) := by omega
  simp only [gMkT, g_fl_d, g_up_d, ↓reduceIte, e]
  split
  · rfl
  · rw [if_neg (by omega), if_neg (by omega), if_neg (by omega), if_neg (by omega), if_neg (by omega), if_neg (by omega), if_neg (by omega), if_neg (by omega)]
theorem gMkT_s {z : gM} {s r c n o w : Nat} {v : Int32} (hs : s < 30) (hw : w < 11) : gMkT z s r c n o v 105 (s * 11 + w) = if w = 7 then -1 else if w = 6 then 0 else if w = 5 then nI o else if w = 4 then nI r else if w = 3 then nI n else if w = 2 then nI c else if w = 1 then v else if w = 0 then 1 else z 105 (s * 11 + w) := by
  have e : ¬ (330 + c ≤ s * 11 + w ∧ s * 11 + w < 330 + c + n) := by omega
  simp only [gMkT, g_fl_d, g_up_d, ↓reduceIte, e, Nat.add_left_cancel_iff]
theorem make_eq (h : gOK G) {s r c n o : Nat} (hs : s < 30) (hc : c + n ≤ 240) : g_inv (gCm' G (d + 3)) mX3_makeBlock [.ref 1, .int (nI s), .int (nI r), .int (nI c), .int (nI n), .int (nI o)] σ K = K none (gMk σ s r c n o) := by
  obtain ⟨f1, f2, f3, f4, f5⟩ := g_ix (n := 29) hs (by decide)
  have ft : ∀ (K : gK) (σ : gM), g_inv (gCm' G (d + 1)) mX9_fill [.ref 8, .int (nI c), .int (nI n), .int (nI s)] σ K = K none (g_fl σ 8 c n (nI s)) := fun K σ => fill_eq (aX1_0 (hGrd h)) (nX1_0 (hGrd h)) (by decide) hc
  have fc : ∀ (K : gK) (σ : gM), g_inv (gCm' G (d + 2)) mX9_fill [.ref 2, .int (nI c), .int (nI n), .int 0] σ K = K none (g_fl σ 2 c n 0) := fun K σ => fill_eq (aX3_1 (hNow h)) (nX3_1 (hNow h)) (by decide) hc
  simp only [EX3_makeBlock, BX3_makeBlock_13, BX3_makeBlock_23, BX3_makeBlock_33, BX3_makeBlock_44, BX3_makeBlock_54, BX3_makeBlock_65, BX3_makeBlock_75, BX3_makeBlock_85, BX3_makeBlock_96, BX3_makeBlock_107, EX1_take, BX1_take_10, Option.toList_some, Option.toList_none, List.cons_append, List.nil_append, Nat.zero_add, Nat.reduceAdd, Option.some.injEq, Value.int.injEq, exists_eq_left', true_and, and_true, true_or, or_true, false_or, g_10, ↓reduceIte, h.1, h.2, hNow h, hReg h, hGrd h, hBlk h, hTgo h, hWlk h, hPln h, hTap h, hHol h, f4, f5, ft, fc]
  rfl
theorem lus_eq (h : gOK G) : g_inv (gCm' G (d + 1)) mX0_leastUnusedSlot [.ref 9] σ K = K (some (.int (gAns (gFst (fun i => decide (σ 11 i = 0)) 30 0) (-1)))) σ := by
  rw [EX0_leastUnusedSlot (hBlk h)]
  refine Eq.trans (g_find (W := fun i (_ : Unit) => gw (gCm' G d) G mX0_leastUnusedSlot K 2 [.ref 9, .int (nI i)] [] σ) (F := fun _ _ => ()) (c := fun i => decide (σ 11 i = 0)) (R := fun k => K (some (.int (nI k))) σ) (E := K (some (.int (-1))) σ) (L := 30) (fun i hi v => ?_) (fun v => ?_) ()) ?_
  · obtain ⟨f1, f2, f3, f4, f5⟩ := g_ix (n := 29) hi (by decide)
    have f2 : nI i < 30 := f2
    rw [BX0_leastUnusedSlot_2 (hBlk h)]
    simp only [f2, f4, f5, Option.toList_some, Option.toList_none, List.cons_append, List.nil_append, Nat.zero_add, Nat.reduceAdd, Option.some.injEq, Value.int.injEq, exists_eq_left', true_and, and_true, true_or, or_true, false_or, g_10, ↓reduceIte, nI_1, decide_eq_true_eq]
  · rw [BX0_leastUnusedSlot_2 (hBlk h)]
    simp only [show ¬ nI 30 < 30 by decide, Option.toList_some, Option.toList_none, List.cons_append, List.nil_append, Nat.zero_add, Nat.reduceAdd, Option.some.injEq, Value.int.injEq, exists_eq_left', true_and, and_true, true_or, or_true, false_or, g_10, ↓reduceIte]
  · cases gFst (fun i => decide (σ 11 i = 0)) 30 0 <;> rfl
theorem fsl_eq (h : gOK G) (hR : wRel B σ) {z : gM} (hz : z 105 = σ 105) : g_inv (gCm' G (d + 2)) mX10_freeSlot [.ref 104] z K = K (some (.int (gAns (gFst (fun i => decide (σ 11 i = 0)) 30 0) (-2)))) z := by
  rw [EX10_freeSlot h.2]
  refine Eq.trans (g_find (W := fun i (_ : Unit) => gw (gCm' G (d + 1)) G mX10_freeSlot K 2 [.ref 104, .int (nI i)] [] z) (F := fun _ _ => ()) (c := fun i => decide (σ 11 i = 0)) (R := fun k => K (some (.int (nI k))) z) (E := K (some (.int (-2))) z) (L := 30) (fun i hi v => ?_) (fun v => ?_) ()) ?_
  · obtain ⟨f1, f2, f3, f4, f5⟩ := g_ix (n := 29) hi (by decide)
    have f2 : nI i < 30 := f2
    rw [BX10_freeSlot_2 h.2]
    simp only [f2, f4, f5, Option.toList_some, Option.toList_none, List.cons_append, List.nil_append, Nat.zero_add, Nat.reduceAdd, Option.some.injEq, Value.int.injEq, exists_eq_left', true_and, and_true, true_or, or_true, false_or, g_10, ↓reduceIte, nI_1, at_0 h hi, BX10_freeSlot_14 h.2, hz, rs0 hR _ hi, decide_eq_true_eq]
  · rw [BX10_freeSlot_2 h.2]
    simp only [show ¬ nI 30 < 30 by decide, Option.toList_some, Option.toList_none, List.cons_append, List.nil_append, Nat.zero_add, Nat.reduceAdd, Option.some.injEq, Value.int.injEq, exists_eq_left', true_and, and_true, true_or, or_true, false_or, g_10, ↓reduceIte]
  · cases gFst (fun i => decide (σ 11 i = 0)) 30 0 <;> rfl
theorem op_block (h : gOK G) (hB : B < 1000000) (hR : wRel B σ) (a n o : Int32) : gOp G (d + 5) B mX9_block mX10_block [.int a, .int n, .int o] σ := by
  unfold gOp
  rcases reg_cases hR a with (c | ⟨c, c2⟩) | ⟨r, hr, rfl, c, c2⟩
  · simp only [EX9_block, BX9_block_11, BX9_block_18, BX9_block_25, BX9_block_39, BX9_block_55, BX9_block_66, BX9_block_97, BX9_block_109, EX10_block, BX10_block_5, BX10_block_15, BX10_block_25, BX10_block_35, BX10_block_57, BX10_block_63, BX10_block_69, BX10_block_92, BX10_block_103, BX10_block_108, BX10_block_117, BX10_block_125, BX10_block_133, BX10_block_141, BX10_block_150, BX10_block_159, BX10_block_195, has_eq h hR, isReg_eq h hR rfl, Option.toList_some, Option.toList_none, List.cons_append, List.nil_append, Nat.zero_add, Nat.reduceAdd, Option.some.injEq, Value.int.injEq, exists_eq_left', true_and, and_true, true_or, or_true, false_or, g_10, ↓reduceIte, h.1, h.2, hNow h, hReg h, hGrd h, hBlk h, hTgo h, hWlk h, hPln h, hTap h, hHol h, c]
    exact wRel_up hR (by omega)
  · simp only [EX9_block, BX9_block_11, BX9_block_18, BX9_block_25, BX9_block_39, BX9_block_55, BX9_block_66, BX9_block_97, BX9_block_109, EX10_block, BX10_block_5, BX10_block_15, BX10_block_25, BX10_block_35, BX10_block_57, BX10_block_63, BX10_block_69, BX10_block_92, BX10_block_103, BX10_block_108, BX10_block_117, BX10_block_125, BX10_block_133, BX10_block_141, BX10_block_150, BX10_block_159, BX10_block_195, has_eq h hR, isReg_eq h hR rfl, Option.toList_some, Option.toList_none, List.cons_append, List.nil_append, Nat.zero_add, Nat.reduceAdd, Option.some.injEq, Value.int.injEq, exists_eq_left', true_and, and_true, true_or, or_true, false_or, g_10, ↓reduceIte, h.1, h.2, hNow h, hReg h, hGrd h, hBlk h, hTgo h, hWlk h, hPln h, hTap h, hHol h, c, c2]
    exact wRel_up hR (by omega)
  by_cases n1 : n < 1
  · simp only [EX9_block, BX9_block_11, BX9_block_18, BX9_block_25, BX9_block_39, BX9_block_55, BX9_block_66, BX9_block_97, BX9_block_109, EX10_block, BX10_block_5, BX10_block_15, BX10_block_25, BX10_block_35, BX10_block_57, BX10_block_63, BX10_block_69, BX10_block_92, BX10_block_103, BX10_block_108, BX10_block_117, BX10_block_125, BX10_block_133, BX10_block_141, BX10_block_150, BX10_block_159, BX10_block_195, EX10_in, EX9_isBlockLength, has_eq h hR, isReg_eq h hR rfl, Option.toList_some, Option.toList_none, List.cons_append, List.nil_append, Nat.zero_add, Nat.reduceAdd, Option.some.injEq, Value.int.injEq, exists_eq_left', true_and, and_true, true_or, or_true, false_or, g_10, ↓reduceIte, h.1, h.2, hNow h, hReg h, hGrd h, hBlk h, hTgo h, hWlk h, hPln h, hTap h, hHol h, c, c2, n1]
    exact wRel_up hR (by omega)
  by_cases n2 : 40 < n
  · simp only [EX9_block, BX9_block_11, BX9_block_18, BX9_block_25, BX9_block_39, BX9_block_55, BX9_block_66, BX9_block_97, BX9_block_109, EX10_block, BX10_block_5, BX10_block_15, BX10_block_25, BX10_block_35, BX10_block_57, BX10_block_63, BX10_block_69, BX10_block_92, BX10_block_103, BX10_block_108, BX10_block_117, BX10_block_125, BX10_block_133, BX10_block_141, BX10_block_150, BX10_block_159, BX10_block_195, EX10_in, EX9_isBlockLength, has_eq h hR, isReg_eq h hR rfl, Option.toList_some, Option.toList_none, List.cons_append, List.nil_append, Nat.zero_add, Nat.reduceAdd, Option.some.injEq, Value.int.injEq, exists_eq_left', true_and, and_true, true_or, or_true, false_or, g_10, ↓reduceIte, h.1, h.2, hNow h, hReg h, hGrd h, hBlk h, hTgo h, hWlk h, hPln h, hTap h, hHol h, c, c2, n1, n2]
    exact wRel_up hR (by omega)
  obtain ⟨m, hm, hm2, rfl⟩ := g_rng (a := 1) (b := 40) (by decide) (by decide) n1 n2
  rcases pk_ix o (n := 10) (by decide) with h1 | h1 | ⟨j, hj, rfl⟩
  · simp only [EX9_block, BX9_block_11, BX9_block_18, BX9_block_25, BX9_block_39, BX9_block_55, BX9_block_66, BX9_block_97, BX9_block_109, EX10_block, BX10_block_5, BX10_block_15, BX10_block_25, BX10_block_35, BX10_block_57, BX10_block_63, BX10_block_69, BX10_block_92, BX10_block_103, BX10_block_108, BX10_block_117, BX10_block_125, BX10_block_133, BX10_block_141, BX10_block_150, BX10_block_159, BX10_block_195, EX10_in, EX9_isBlockLength, EX9_isOwner, has_eq h hR, isReg_eq h hR rfl, Option.toList_some, Option.toList_none, List.cons_append, List.nil_append, Nat.zero_add, Nat.reduceAdd, Option.some.injEq, Value.int.injEq, exists_eq_left', true_and, and_true, true_or, or_true, false_or, g_10, ↓reduceIte, h.1, h.2, hNow h, hReg h, hGrd h, hBlk h, hTgo h, hWlk h, hPln h, hTap h, hHol h, c, c2, n1, n2, h1]
    exact wRel_up hR (by omega)
  · obtain ⟨e1, e2, e3⟩ := g_ge (n := 9) (by decide) h1
    have e2 : ¬ o < 10 := e2
    have e3 : 9 < o := e3
    simp only [EX9_block, BX9_block_11, BX9_block_18, BX9_block_25, BX9_block_39, BX9_block_55, BX9_block_66, BX9_block_97, BX9_block_109, EX10_block, BX10_block_5, BX10_block_15, BX10_block_25, BX10_block_35, BX10_block_57, BX10_block_63, BX10_block_69, BX10_block_92, BX10_block_103, BX10_block_108, BX10_block_117, BX10_block_125, BX10_block_133, BX10_block_141, BX10_block_150, BX10_block_159, BX10_block_195, EX10_in, EX9_isBlockLength, EX9_isOwner, has_eq h hR, isReg_eq h hR rfl, Option.toList_some, Option.toList_none, List.cons_append, List.nil_append, Nat.zero_add, Nat.reduceAdd, Option.some.injEq, Value.int.injEq, exists_eq_left', true_and, and_true, true_or, or_true, false_or, g_10, ↓reduceIte, h.1, h.2, hNow h, hReg h, hGrd h, hBlk h, hTgo h, hWlk h, hPln h, hTap h, hHol h, c, c2, n1, n2, e1, e2, e3]
    exact wRel_up hR (by omega)
  obtain ⟨e1, e2, e3, e4, e5⟩ := g_ix (n := 9) hj (by decide)
  have e2 : nI j < 10 := e2
  have e3 : ¬ 9 < nI j := e3
  have ea : (589 : Int32) + nI j = nI (589 + j) := nI_add 589 j
  have ec : vp_in (nI (589 + j)) 607 := vp_c (by omega)
  have ed : (nI (589 + j)).toNatClampNeg = 589 + j := nI_clamp (by omega)
  by_cases c3 : σ 21 j < gUsed σ (nI j) + nI m
  · simp only [EX9_block, BX9_block_11, BX9_block_18, BX9_block_25, BX9_block_39, BX9_block_55, BX9_block_66, BX9_block_97, BX9_block_109, EX10_block, BX10_block_5, BX10_block_15, BX10_block_25, BX10_block_35, BX10_block_57, BX10_block_63, BX10_block_69, BX10_block_92, BX10_block_103, BX10_block_108, BX10_block_117, BX10_block_125, BX10_block_133, BX10_block_141, BX10_block_150, BX10_block_159, BX10_block_195, EX10_in, EX9_isBlockLength, EX9_isOwner, EX3_quotaAllows, BX3_quotaAllows_8, has_eq h hR, isReg_eq h hR rfl, usedBy_eq h, used_eq h hR rfl, Option.toList_some, Option.toList_none, List.cons_append, List.nil_append, Nat.zero_add, Nat.reduceAdd, Option.some.injEq, Value.int.injEq, exists_eq_left', true_and, and_true, true_or, or_true, false_or, g_10, ↓reduceIte, h.1, h.2, hNow h, hReg h, hGrd h, hBlk h, hTgo h, hWlk h, hPln h, hTap h, hHol h, c, c2, n1, n2, e1, e2, e3, e4, e5, ea, ec, ed, r589 hR _ hj, c3]
    exact wRel_up hR (by omega)
  obtain ⟨h6, l, q, a1, a2, a3, a4, a5, a6, a7, a8⟩ := rReg hR hr
  have hl : ∀ (z : gM) (K : gK), z 105 = σ 105 → g_inv (gCm' G (d + 4)) mX10_laid [.ref 104] z K = K none (g_ln z σ) := fun z K hz => laid_eq h hR hz
  have pf : ∀ K : gK, g_inv (gCm' G (d + 4)) mX3_placeFor [.ref 1, .int (nI r), .int (nI m)] σ K = K (some (.int (gAns (gPl (σ 8) l q (gIs (σ 6 r) 0) m) (-1)))) σ := fun K => by
    rw [placeFor_eq h hR hr hm (by omega), a3, a4]
  have pm : ∀ (z : gM) (K : gK), z 105 = σ 105 → g_inv (gCm' G (d + 4)) mX10_placed [.ref 104, .int (nI r), .int (nI m)] (g_ln z σ) K = K (some (.int (gAns (gPl (σ 8) l q (gIs (σ 6 r) 0) m) (-2)))) (g_ln z σ) := fun z K hz => by
    rw [placed_eq h hR ((g_ln_o (by decide)).trans hz) hr (fun c h1 h2 => ln_free hR hr h1 h2) hm (by omega), a3, a4]
  have fs : ∀ (z : gM) (K : gK), z 105 = σ 105 → g_inv (gCm' G (d + 4)) mX10_freeSlot [.ref 104] (g_ln z σ) K = K (some (.int (gAns (gFst (fun i => decide (σ 11 i = 0)) 30 0) (-2)))) (g_ln z σ) := fun z K hz => fsl_eq h hR ((g_ln_o (by decide)).trans hz)
  have full : ∀ x1 x2 y1 y2 : Int32, (x1 = -1 ∨ ¬ x1 = -1 ∧ x2 = -1) → (y2 < 0 ∨ ¬ y2 < 0 ∧ y1 < 0) → (∀ K : gK, g_inv (gCm' G (d + 4)) mX0_leastUnusedSlot [.ref 9] σ K = K (some (.int x1)) σ) → (∀ K : gK, g_inv (gCm' G (d + 4)) mX3_placeFor [.ref 1, .int (nI r), .int (nI m)] σ K = K (some (.int x2)) σ) → (∀ K : gK, g_inv (gCm' G (d + 4)) mX10_freeSlot [.ref 104] (g_ln σ σ) K = K (some (.int y1)) (g_ln σ σ)) → (∀ K : gK, g_inv (gCm' G (d + 4)) mX10_placed [.ref 104, .int (nI r), .int (nI m)] (g_ln σ σ) K = K (some (.int y2)) (g_ln σ σ)) → gOp G (d + 5) B mX9_block mX10_block [.int (nI r), .int (nI m), .int (nI j)] σ := fun x1 x2 y1 y2 hx hy q1 q2 q3 q4 => by
    unfold gOp
    have fin : wRel (B + 1) (g_ln σ σ) := wRel_sc hR (by omega) (fun i h1 h2 => g_ln_o (by omega)) (g_ln_o (by decide)) (fun i hi => g_ln_o (by unfold gRl at hi; omega)) (by rw [g_ln_o (by decide)]) (by rw [g_ln_o (by decide)]) (by rw [g_ln_o (by decide)])
    rcases hx with hx | ⟨hx, hx2⟩ <;> rcases hy with hy | ⟨hy, hy2⟩
    · simp only [EX9_block, BX9_block_11, BX9_block_18, BX9_block_25, BX9_block_39, BX9_block_55, BX9_block_66, BX9_block_97, BX9_block_109, EX10_block, BX10_block_5, BX10_block_15, BX10_block_25, BX10_block_35, BX10_block_57, BX10_block_63, BX10_block_69, BX10_block_92, BX10_block_103, BX10_block_108, BX10_block_117, BX10_block_125, BX10_block_133, BX10_block_141, BX10_block_150, BX10_block_159, BX10_block_195, EX10_in, EX9_isBlockLength, EX9_isOwner, EX3_quotaAllows, BX3_quotaAllows_8, has_eq h hR, isReg_eq h hR rfl, usedBy_eq h, used_eq h hR rfl, Option.toList_some, Option.toList_none, List.cons_append, List.nil_append, Nat.zero_add, Nat.reduceAdd, Option.some.injEq, Value.int.injEq, exists_eq_left', true_and, and_true, true_or, or_true, false_or, g_10, ↓reduceIte, h.1, h.2, hNow h, hReg h, hGrd h, hBlk h, hTgo h, hWlk h, hPln h, hTap h, hHol h, c, c2, n1, n2, e1, e2, e3, e4, e5, ea, ec, ed, r589 hR _ hj, c3, q1, q2, q3, q4, hl σ _ rfl, hx, hy]
      exact fin
    · simp only [EX9_block, BX9_block_11, BX9_block_18, BX9_block_25, BX9_block_39, BX9_block_55, BX9_block_66, BX9_block_97, BX9_block_109, EX10_block, BX10_block_5, BX10_block_15, BX10_block_25, BX10_block_35, BX10_block_57, BX10_block_63, BX10_block_69, BX10_block_92, BX10_block_103, BX10_block_108, BX10_block_117, BX10_block_125, BX10_block_133, BX10_block_141, BX10_block_150, BX10_block_159, BX10_block_195, EX10_in, EX9_isBlockLength, EX9_isOwner, EX3_quotaAllows, BX3_quotaAllows_8, has_eq h hR, isReg_eq h hR rfl, usedBy_eq h, used_eq h hR rfl, Option.toList_some, Option.toList_none, List.cons_append, List.nil_append, Nat.zero_add, Nat.reduceAdd, Option.some.injEq, Value.int.injEq, exists_eq_left', true_and, and_true, true_or, or_true, false_or, g_10, ↓reduceIte, h.1, h.2, hNow h, hReg h, hGrd h, hBlk h, hTgo h, hWlk h, hPln h, hTap h, hHol h, c, c2, n1, n2, e1, e2, e3, e4, e5, ea, ec, ed, r589 hR _ hj, c3, q1, q2, q3, q4, hl σ _ rfl, hx, hy, hy2]
      exact fin
    · simp only [EX9_block, BX9_block_11, BX9_block_18, BX9_block_25, BX9_block_39, BX9_block_55, BX9_block_66, BX9_block_97, BX9_block_109, EX10_block, BX10_block_5, BX10_block_15, BX10_block_25, BX10_block_35, BX10_block_57, BX10_block_63, BX10_block_69, BX10_block_92, BX10_block_103, BX10_block_108, BX10_block_117, BX10_block_125, BX10_block_133, BX10_block_141, BX10_block_150, BX10_block_159, BX10_block_195, EX10_in, EX9_isBlockLength, EX9_isOwner, EX3_quotaAllows, BX3_quotaAllows_8, has_eq h hR, isReg_eq h hR rfl, usedBy_eq h, used_eq h hR rfl, Option.toList_some, Option.toList_none, List.cons_append, List.nil_append, Nat.zero_add, Nat.reduceAdd, Option.some.injEq, Value.int.injEq, exists_eq_left', true_and, and_true, true_or, or_true, false_or, g_10, ↓reduceIte, h.1, h.2, hNow h, hReg h, hGrd h, hBlk h, hTgo h, hWlk h, hPln h, hTap h, hHol h, c, c2, n1, n2, e1, e2, e3, e4, e5, ea, ec, ed, r589 hR _ hj, c3, q1, q2, q3, q4, hl σ _ rfl, hx, hx2, hy]
      exact fin
    · simp only [EX9_block, BX9_block_11, BX9_block_18, BX9_block_25, BX9_block_39, BX9_block_55, BX9_block_66, BX9_block_97, BX9_block_109, EX10_block, BX10_block_5, BX10_block_15, BX10_block_25, BX10_block_35, BX10_block_57, BX10_block_63, BX10_block_69, BX10_block_92, BX10_block_103, BX10_block_108, BX10_block_117, BX10_block_125, BX10_block_133, BX10_block_141, BX10_block_150, BX10_block_159, BX10_block_195, EX10_in, EX9_isBlockLength, EX9_isOwner, EX3_quotaAllows, BX3_quotaAllows_8, has_eq h hR, isReg_eq h hR rfl, usedBy_eq h, used_eq h hR rfl, Option.toList_some, Option.toList_none, List.cons_append, List.nil_append, Nat.zero_add, Nat.reduceAdd, Option.some.injEq, Value.int.injEq, exists_eq_left', true_and, and_true, true_or, or_true, false_or, g_10, ↓reduceIte, h.1, h.2, hNow h, hReg h, hGrd h, hBlk h, hTgo h, hWlk h, hPln h, hTap h, hHol h, c, c2, n1, n2, e1, e2, e3, e4, e5, ea, ec, ed, r589 hR _ hj, c3, q1, q2, q3, q4, hl σ _ rfl, hx, hx2, hy, hy2]
      exact fin
  cases hsl : gFst (fun i => decide (σ 11 i = 0)) 30 0 with
  | none =>
    rw [hsl] at fs
    have lu : ∀ K : gK, g_inv (gCm' G (d + 4)) mX0_leastUnusedSlot [.ref 9] σ K = K (some (.int (-1))) σ := fun K => by rw [lus_eq h, hsl]; rfl
    cases hp : gPl (σ 8) l q (gIs (σ 6 r) 0) m with
    | none =>
      rw [hp] at pf pm
      exact full _ _ _ _ (Or.inl rfl) (Or.inl (by decide)) lu pf (fun K => fs σ K rfl) (fun K => pm σ K rfl)
    | some v =>
      rw [hp] at pf pm
      obtain ⟨v1, v2, -⟩ := gPl_some hm hp
      exact full _ _ _ _ (Or.inl rfl) (Or.inr ⟨nI_pos (by omega), by decide⟩) lu pf (fun K => fs σ K rfl) (fun K => pm σ K rfl)
  | some s =>
    rw [hsl] at fs
    have lu : ∀ K : gK, g_inv (gCm' G (d + 4)) mX0_leastUnusedSlot [.ref 9] σ K = K (some (.int (nI s))) σ := fun K => by rw [lus_eq h, hsl]; rfl
    obtain ⟨-, hs, hs0, -⟩ := gFst_some hsl
    have hs : s < 30 := by omega
    have hs0 : σ 11 s = 0 := of_decide_eq_true hs0
    cases hp : gPl (σ 8) l q (gIs (σ 6 r) 0) m with
    | none =>
      rw [hp] at pf pm
      exact full _ _ _ _ (Or.inr ⟨g_m1 (by omega), rfl⟩) (Or.inl (by decide)) lu pf (fun K => fs σ K rfl) (fun K => pm σ K rfl)
    | some v =>
      rw [hp] at pf pm
      obtain ⟨v1, v2, v3⟩ := gPl_some hm hp
      have sm := g_m1 (j := s) (by omega)
      have vm := g_m1 (j := v) (by omega)
      have sn : ¬ nI s < 0 := nI_pos (by omega)
      have vn : ¬ nI v < 0 := nI_pos (by omega)
      have hz : gMk σ s r v m j 105 = σ 105 := by
        funext i; simp only [gMk, g_fl_d, g_up_d, Nat.reduceEqDiff, ↓reduceIte]
      have ge : gMk σ s r v m j 10 s = σ 10 s + 1 := by simp only [gMk, g_fl_d, g_up_d, Nat.reduceEqDiff, ↓reduceIte]
      obtain ⟨y, hy⟩ : ∃ y, y = gMk σ s r v m j := ⟨_, rfl⟩
      have lp : ∀ (x : gM) (K : gK), gw (gCm' G (d + 4)) G mX10_block K 162 [.ref 104, .int (nI r), .int (nI m), .int (nI j), .int (nI v), .int (nI s), .int 0] [] x = gw (gCm' G (d + 4)) G mX10_block K 162 [.ref 104, .int (nI r), .int (nI m), .int (nI j), .int (nI v), .int (nI s), .int (nI m)] [] (g_fl x 105 (330 + v) m 0) := fun x K => by
        have : ∀ k, k ≤ m → gw (gCm' G (d + 4)) G mX10_block K 162 [.ref 104, .int (nI r), .int (nI m), .int (nI j), .int (nI v), .int (nI s), .int 0] [] x = gw (gCm' G (d + 4)) G mX10_block K 162 [.ref 104, .int (nI r), .int (nI m), .int (nI j), .int (nI v), .int (nI s), .int (nI k)] [] (gFold (fun i (y : gM) => g_up y 105 (330 + v + i) 0) k x) := by
          intro k
          induction k with
          | zero => intro _; rfl
          | succ k ih =>
            intro hk
            rw [ih (by omega), BX10_block_162 h.2]
            have g1 : nI k < nI m := nI_lt (by omega) (by omega)
            have g2 : (330 : Int32) + nI v + nI k = nI (330 + v + k) := by rw [show (330 : Int32) = nI 330 from rfl, nI_add, nI_add]
            have g3 : vp_in (nI (330 + v + k)) 607 := vp_c (by omega)
            have g4 : (nI (330 + v + k)).toNatClampNeg = 330 + v + k := nI_clamp (by omega)
            simp only [g1, g2, g3, g4, Option.toList_some, Option.toList_none, List.cons_append, List.nil_append, Nat.zero_add, Nat.reduceAdd, Option.some.injEq, Value.int.injEq, exists_eq_left', true_and, and_true, true_or, or_true, false_or, g_10, ↓reduceIte, nI_1]
            rfl
        rw [this m (Nat.le_refl _), gFold_fl]
      rw [← hy] at ge hz
      have mk : ∀ K : gK, g_inv (gCm' G (d + 4)) mX3_makeBlock [.ref 1, .int (nI s), .int (nI r), .int (nI v), .int (nI m), .int (nI j)] σ K = K none y := fun K => by rw [hy]; exact make_eq h hs (by omega)
      have gt : (g_ln y σ) 105 (s * 11 + 1) = σ 10 s := by rw [g_ln_o (by decide), hz, rs1 hR _ hs]
      have mm : ¬ nI m < nI m := nI_nlt (Nat.le_refl _) (by omega)
      have gu : ¬ (s * 11 + 1 = 330 + v ∨ 330 + v < s * 11 + 1) := by omega
      have gu2 : ¬ (330 + v ≤ s * 11 + 1 ∧ s * 11 + 1 < 330 + v + m) := by omega
      simp only [EX9_block, BX9_block_11, BX9_block_18, BX9_block_25, BX9_block_39, BX9_block_55, BX9_block_66, BX9_block_97, BX9_block_109, EX10_block, BX10_block_5, BX10_block_15, BX10_block_25, BX10_block_35, BX10_block_57, BX10_block_63, BX10_block_69, BX10_block_92, BX10_block_103, BX10_block_108, BX10_block_117, BX10_block_125, BX10_block_133, BX10_block_141, BX10_block_150, BX10_block_159, BX10_block_195, EX10_in, EX9_isBlockLength, EX9_isOwner, EX3_quotaAllows, BX3_quotaAllows_8, has_eq h hR, isReg_eq h hR rfl, isReg_eq h hR hz, usedBy_eq h, used_eq h hR hz, Option.toList_some, Option.toList_none, List.cons_append, List.nil_append, Nat.zero_add, Nat.reduceAdd, Option.some.injEq, Value.int.injEq, exists_eq_left', true_and, and_true, true_or, or_true, false_or, g_10, ↓reduceIte, g_up_d, Nat.reduceEqDiff, h.1, h.2, hNow h, hReg h, hGrd h, hBlk h, hTgo h, hWlk h, hPln h, hTap h, hHol h, c, c2, n1, n2, e1, e2, e3, e4, e5, ea, ec, ed, hz, r589 hR _ hj, c3, lu, pf, pm y _ hz, fs y _ hz, hl y _ hz, gAns, sm, vm, sn, vn, mk, ge, hof9_eq h hs, sets_0 h hs, sets_1 h hs, sets_2 h hs, sets_3 h hs, sets_4 h hs, sets_5 h hs, sets_6 h hs, sets_7 h hs, at_1 h hs, gt, lp, BX10_block_162 h.2, mm, hof_eq h hs, g_fl_d, gu2, Nat.add_right_cancel_iff, Nat.add_left_cancel_iff]
      have e2' : g_fl (g_up (g_up (g_up (g_up (g_up (g_up (g_up (g_up (g_ln y σ) 105 (s * 11 + 0) 1) 105 (s * 11 + 1) (σ 10 s + 1)) 105 (s * 11 + 2) (nI v)) 105 (s * 11 + 3) (nI m)) 105 (s * 11 + 4) (nI r)) 105 (s * 11 + 5) (nI j)) 105 (s * 11 + 6) 0) 105 (s * 11 + 7) (-1)) 105 (330 + v) m 0 = gMkT (g_ln y σ) s r v m j (σ 10 s + 1) := rfl
      rw [e2', if_neg (by omega), if_neg (by omega), if_neg (by omega), if_neg (by omega), if_neg (by omega), if_neg (by omega)]
      refine ⟨rfl, ?_⟩
      subst hy
      have zo : ∀ i, i ≠ 105 → i ≠ 109 → i ≠ 2 → i ≠ 8 → (i < 10 ∨ 17 < i) → gMkT (g_ln (gMk σ s r v m j) σ) s r v m j (σ 10 s + 1) i = σ i := fun i h1 h2 h3 h4 h5 => by rw [gMkT_o h1, g_ln_o h2, gMk_o h3 h4 h5]
      have zi : ∀ k t, k < 22 → gMem (gMkT (g_ln (gMk σ s r v m j) σ) s r v m j (σ 10 s + 1)) 1 k t = gMk σ s r v m j (1 + k) t := fun k t hk => by rw [gMem_k hk, gMkT_o (by omega), g_ln_o (by omega)]
      refine wRel_fr hR (by omega) (wMem_make (s := s) (r := r) (c := v) (n := m) (o := j) hB hR.1 hs hs0 hr hm hm2 (by omega) (by show gN (σ 4 r) ≤ v; rw [a3]; exact v1) (by show v + m ≤ gN (σ 4 r) + gN (σ 5 r); rw [a3, a4]; exact v2) v3 (fun i hi => ?_) (fun k t hk1 hk2 ht => ?_) ?_ ?_ ?_ ?_ ?_ ?_ ?_ ?_ (fun k => ?_) (wEq_sl (s := s) hR.1.2.2 hs (fun i hi => ?_) (fun k t hk1 hk2 ht => ?_) (fun i h1 h2 h3 => ?_) (fun i hi => ?_) ⟨?_, ?_, ?_, ?_, ?_, ?_, ?_, ?_, ?_⟩) ?_ (fun t ht => ?_)) (fun i hi => ?_) ?_ ?_ ?_
      · funext t; by_cases hi2 : i < 22
        · rw [zi i t hi2, gMk_o (by omega) (by omega) (by omega), gMem_k hi2]
        · simp [gMem, hi2]
      · rw [zi k t (by omega), gMk_t ht (by omega) (by omega), gMem_k (by omega)]
      · rw [zi 9 s (by decide)]; simp [gMk, g_fl_d, g_up_d, gMem]
      · rw [zi 10 s (by decide)]; simp [gMk, g_fl_d, g_up_d]
      · rw [zi 11 s (by decide)]; simp [gMk, g_fl_d, g_up_d]
      · rw [zi 12 s (by decide)]; simp [gMk, g_fl_d, g_up_d]
      · rw [zi 13 s (by decide)]; simp [gMk, g_fl_d, g_up_d]
      · rw [zi 14 s (by decide)]; simp [gMk, g_fl_d, g_up_d]
      · rw [zi 15 s (by decide)]; simp [gMk, g_fl_d, g_up_d]
      · rw [zi 16 s (by decide)]; simp [gMk, g_fl_d, g_up_d]
      · rw [zi 7 k (by decide)]; simp [gMk, g_fl_d, g_up_d, gMem]
      · funext t; by_cases hi2 : i < 22
        · rw [zi i t hi2, gMk_o (by omega) (by omega) (by omega), gMem_k hi2]
        · simp [gMem, hi2]
      · rw [zi k t (by omega), gMk_t ht (by omega) (by omega), gMem_k (by omega)]
      · rw [gMkT_i h1 (by omega), g_ln_o (by decide), gMk_o (by decide) (by decide) (by decide)]
      · rw [zi 1 i (by decide), gMkT_c (by omega), g_ln_o (by decide), gMk_o (by decide) (by decide) (by decide), r330 hR _ hi]
        simp [gMk, g_fl_d, g_up_d]
      · rw [zi 10 s (by decide), gMkT_s (by omega) (by decide)]; simp [gMk, g_fl_d, g_up_d]
      · rw [zi 9 s (by decide), gMkT_s (by omega) (by decide)]; simp [gMk, g_fl_d, g_up_d]
      · rw [zi 11 s (by decide), gMkT_s (by omega) (by decide)]; simp [gMk, g_fl_d, g_up_d]
      · rw [zi 12 s (by decide), gMkT_s (by omega) (by decide)]; simp [gMk, g_fl_d, g_up_d]
      · rw [zi 13 s (by decide), gMkT_s (by omega) (by decide)]; simp [gMk, g_fl_d, g_up_d]
      · rw [zi 14 s (by decide), gMkT_s (by omega) (by decide)]; simp [gMk, g_fl_d, g_up_d]
      · rw [zi 15 s (by decide), gMkT_s (by omega) (by decide)]; simp [gMk, g_fl_d, g_up_d]
      · rw [zi 16 s (by decide), gMkT_s (by omega) (by decide)]; simp [gMk, g_fl_d, g_up_d]
      · rw [zi 17 s (by decide), gMkT_s (by omega) (by decide), g_ln_o (by decide), gMk_o (by decide) (by decide) (by decide), rs9 hR _ hs]; simp [gMk, g_fl_d, g_up_d]
      · rw [gMkT_i (by omega) (by omega), g_ln_o (by decide), gMk_o (by decide) (by decide) (by decide)]
      · by_cases e : t = s
        · subst e; rw [gMkT_s (by omega) (by decide), g_ln_o (by decide), gMk_o (by decide) (by decide) (by decide)]; simp
        · rw [gMkT_i (by omega) (by omega), g_ln_o (by decide), gMk_o (by decide) (by decide) (by decide)]
      · unfold gRl at hi; exact zo i (by omega) (by omega) (by omega) (by omega) (by omega)
      · rw [zo 95 (by decide) (by decide) (by decide) (by decide) (by decide)]
      · rw [zo 104 (by decide) (by decide) (by decide) (by decide) (by decide)]
      · rw [zo 104 (by decide) (by decide) (by decide) (by decide) (by decide)]
end O30
