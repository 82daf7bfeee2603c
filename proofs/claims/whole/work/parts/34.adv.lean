section O34
variable {G : gG} {d B : Nat} {σ : gM} {K : gK}
theorem wTag_l {B' : Nat} {m m' : gM} {g g' : Nat → Int32} (h : wTag B m g) (hB : B ≤ B') (h18 : m' 18 = m 18) (h19 : m' 19 = m 19) (h10 : ∀ t, t < 30 → (m' 10 t = 1 ↔ m 10 t = 1)) (h16 : m' 16 = m 16) (hc : g' 606 = g 606) (hs : ∀ s, s < 30 → g' (s * 11 + 8) = g (s * 11 + 8)) : wTag B' m' g' := by
  obtain ⟨a1, a2, a3, a4, a5⟩ := h
  unfold wTag
  rw [h18, h19, h16, hc]
  refine ⟨a1, gNn_up a2 hB, fun k hk => ?_, fun s hs' z => a4 s hs' ((h10 s hs').mp z), fun k j hk hj => ?_⟩
  · obtain ⟨b1, b2, b3, b4, b5⟩ := a3 k hk
    have := b1.2
    rw [hs _ (by omega)]
    exact ⟨b1, (h10 _ (by omega)).mpr b2, b3, gNn_up b4 hB, b5⟩
  · have c1 := (a3 k (by omega)).1.2
    have c2 := (a3 j hj).1.2
    rw [hs _ (by omega), hs _ (by omega)]
    exact a5 k j hk hj
theorem gFrb_e {s : Nat} (h : gFrb σ s = true) : σ 11 s = 2 ∧ gSee σ s = none := by
  unfold gFrb at h
  simp only [Bool.and_eq_true, decide_eq_true_eq, Option.isNone_iff_eq_none] at h
  exact h
/-- the class lets go what nobody sees -/
theorem dropF_sp (h : gOK G) (hR : wRel B σ) {x : gM} (hx : ∀ i, i ≠ 1 → x i = σ i) : ∃ z : gM, (∀ d K, g_inv (gCm' G (d + 3)) mX3_dropFreeable [.ref 1] x K = K (some (.int (gFrs σ 30))) z) ∧ (∀ i, i ≠ 8 → i ≠ 11 → z i = x i) ∧ (∀ t, t < 30 → z 11 t = if gFrb σ t = true then 0 else σ 11 t) ∧ (∀ c, c < 240 → (∃ t, t < 30 ∧ gFrb σ t = true ∧ σ 8 c = nI t) ∧ z 8 c = -1 ∨ (¬ ∃ t, t < 30 ∧ gFrb σ t = true ∧ σ 8 c = nI t) ∧ z 8 c = σ 8 c) := by
  have key : ∀ k, k ≤ 30 → ∃ z : gM, (∀ d K, gw (gCm' G (d + 2)) G mX3_dropFreeable K 4 [.ref 1, .int 0, .int 0] [] x = gw (gCm' G (d + 2)) G mX3_dropFreeable K 4 [.ref 1, .int (gFrs σ k), .int (nI k)] [] z) ∧ (∀ i, i ≠ 8 → i ≠ 11 → z i = x i) ∧ (∀ t, z 11 t = if t < k ∧ gFrb σ t = true then 0 else σ 11 t) ∧ (∀ c, c < 240 → (∃ t, t < k ∧ gFrb σ t = true ∧ σ 8 c = nI t) ∧ z 8 c = -1 ∨ (¬ ∃ t, t < k ∧ gFrb σ t = true ∧ σ 8 c = nI t) ∧ z 8 c = σ 8 c) := by
    intro k
    induction k with
    | zero => intro _; exact ⟨x, fun _ _ => rfl, fun _ _ _ => rfl, fun t => by rw [hx 11 (by decide), if_neg (by omega)], fun c hc => Or.inr ⟨fun ⟨t, ht, _⟩ => by omega, by rw [hx 8 (by decide)]⟩⟩
    | succ k ih =>
      intro hk
      obtain ⟨z, i1, i2, i3, i4⟩ := ih (by omega)
      obtain ⟨e1, e2, e3, e4, e5⟩ := g_ix (n := 29) (show k < 29 + 1 by omega) (by decide)
      have e2 : nI k < 30 := e2
      have fb : ∀ (d : Nat) (K : gK), g_inv (gCm' G (d + 2)) mX3_isFreeable [.ref 1, .int (nI k)] z K = K (some (.int (if gFrb σ k = true then 1 else 0))) z := fun d K => isFrb_eq h (by omega) (by rw [i3, if_neg (by omega)]) (by rw [i2 18 (by decide) (by decide), hx 18 (by decide)]) (by rw [i2 22 (by decide) (by decide), hx 22 (by decide)])
      by_cases c : gFrb σ k = true
      · obtain ⟨c1, c2⟩ := gFrb_e c
        obtain ⟨l, q, r, o, p, b1, b2, b3, b4, b5, b6, b7, b8, -⟩ := rBlk hR (show k < 30 by omega) (by rw [c1]; decide)
        have ff : ∀ (d : Nat) (K : gK), g_inv (gCm' G (d + 1)) mX9_fill [.ref 8, .int (nI l), .int (nI q), .int (-1)] z K = K none (g_fl z 8 l q (-1)) := fun d K => fill_eq (aX1_0 (hGrd h)) (nX1_0 (hGrd h)) (by decide) b8
        have z12 : z 12 = σ 12 := by rw [i2 12 (by decide) (by decide), hx 12 (by decide)]
        have z13 : z 13 = σ 13 := by rw [i2 13 (by decide) (by decide), hx 13 (by decide)]
        have inb : ∀ cc, cc < 240 → ((l ≤ cc ∧ cc < l + q) ↔ σ 8 cc = nI k) := fun cc hcc => by
          have := (rGrd hR hcc).2 k (by omega) (by rw [c1]; decide)
          rw [b1, b2, gN_nI (by omega), gN_nI (by omega)] at this
          exact this
        refine ⟨g_up (g_fl z 8 l q (-1)) 11 k 0, fun d K => ?_, fun i h1 h2 => by rw [g_up_o h2, g_fl_o h1]; exact i2 i h1 h2, fun t => ?_, fun cc hcc => ?_⟩
        · have : gFrs σ (k + 1) = gFrs σ k + 1 := by show (if _ then _ else _) = _; rw [if_pos c]; rfl
          rw [i1, BX3_dropFreeable_4 (hNow h), this]
          simp +decide only [EX1_release, BX1_release_10, BX3_dropFreeable_15 (hNow h), BX3_dropFreeable_46 (hNow h), fb, ff, c, e2, e4, e5, z12, z13, b1, b2, Option.toList_some, Option.toList_none, List.cons_append, List.nil_append, Nat.zero_add, Nat.reduceAdd, Option.some.injEq, Value.int.injEq, exists_eq_left', true_and, and_true, true_or, or_true, false_or, g_10, ↓reduceIte, h.1, h.2, hNow h, hReg h, hGrd h, hBlk h, hTgo h, hWlk h, hPln h, hTap h, hHol h, nI_1]
        · by_cases e : t = k
          · subst e
            rw [g_up_3, if_pos ⟨by omega, c⟩]
          · rw [g_up_2 e, g_fl_o (by decide), i3]
            have : (t < k ∧ gFrb σ t = true) ↔ (t < k + 1 ∧ gFrb σ t = true) := by constructor <;> rintro ⟨u, v⟩ <;> exact ⟨by omega, v⟩
            simp only [this]
        · rw [g_up_o (by decide), g_fl_d, if_pos rfl]
          by_cases hin : l ≤ cc ∧ cc < l + q
          · rw [if_pos hin]
            exact Or.inl ⟨⟨k, by omega, c, (inb cc hcc).mp hin⟩, rfl⟩
          · rw [if_neg hin]
            rcases i4 cc hcc with ⟨⟨t, ht, u1, u2⟩, u3⟩ | ⟨u1, u2⟩
            · exact Or.inl ⟨⟨t, by omega, u1, u2⟩, u3⟩
            · refine Or.inr ⟨fun ⟨t, ht, v1, v2⟩ => ?_, u2⟩
              by_cases e : t = k
              · subst e; exact hin ((inb cc hcc).mpr v2)
              · exact u1 ⟨t, by omega, v1, v2⟩
      · refine ⟨z, fun d K => ?_, i2, fun t => ?_, fun cc hcc => ?_⟩
        · have : gFrs σ (k + 1) = gFrs σ k := by show (if _ then _ else _) = _; rw [if_neg c]; rfl
          rw [i1, BX3_dropFreeable_4 (hNow h), this]
          simp +decide only [BX3_dropFreeable_15 (hNow h), fb, c, e2, Option.toList_some, Option.toList_none, List.cons_append, List.nil_append, Nat.zero_add, Nat.reduceAdd, Option.some.injEq, Value.int.injEq, exists_eq_left', true_and, and_true, true_or, or_true, false_or, g_10, ↓reduceIte, nI_1]
        · rw [i3]
          have : (t < k ∧ gFrb σ t = true) ↔ (t < k + 1 ∧ gFrb σ t = true) := by
            constructor
            · rintro ⟨u, v⟩; exact ⟨by omega, v⟩
            · rintro ⟨u, v⟩
              refine ⟨?_, v⟩
              by_cases e : t = k
              · subst e; exact absurd v c
              · omega
          simp only [this]
        · rcases i4 cc hcc with ⟨⟨t, ht, u1, u2⟩, u3⟩ | ⟨u1, u2⟩
          · exact Or.inl ⟨⟨t, by omega, u1, u2⟩, u3⟩
          · refine Or.inr ⟨fun ⟨t, ht, v1, v2⟩ => ?_, u2⟩
            by_cases e : t = k
            · subst e; exact c v1
            · exact u1 ⟨t, by omega, v1, v2⟩
  obtain ⟨z, i1, i2, i3, i4⟩ := key 30 (Nat.le_refl _)
  refine ⟨z, fun d K => ?_, i2, fun t ht => ?_, i4⟩
  · rw [EX3_dropFreeable (hNow h), i1, BX3_dropFreeable_4 (hNow h)]
    simp only [show ¬ nI 30 < 30 by decide, Option.toList_some, Option.toList_none, List.cons_append, List.nil_append, Nat.zero_add, Nat.reduceAdd, Option.some.injEq, Value.int.injEq, exists_eq_left', true_and, and_true, true_or, or_true, false_or, g_10, ↓reduceIte]
  · rw [i3]
    simp only [ht, true_and]
theorem advT_sp (h : gOK G) (hB : B < 1000000) (hR : wRel B σ) {x : gM} {n : Int32} (h9 : ∀ s, s < 30 → x 105 (s * 11 + 9) = σ 18 s) (h0 : ∀ s, s < 30 → x 105 (s * 11 + 0) = σ 11 s) (h22 : ∀ r, r < 6 → x 105 (599 + r) = σ 22 r) : ∃ z : gM, (∀ d K, gw (gCm' G (d + 3)) G mX10_advance K 19 [.ref 104, .int n, .int 0] [] x = K (some (.int n)) z) ∧ (∀ i, i ≠ 105 → z i = x i) ∧ (∀ i, (∀ t, t < 30 → i ≠ t * 11 + 0) → z 105 i = x 105 i) ∧ (∀ t, t < 30 → z 105 (t * 11 + 0) = if gFrb σ t = true then 0 else σ 11 t) := by
  have key : ∀ k, k ≤ 30 → ∃ z : gM, (∀ d K, gw (gCm' G (d + 3)) G mX10_advance K 19 [.ref 104, .int n, .int 0] [] x = gw (gCm' G (d + 3)) G mX10_advance K 19 [.ref 104, .int n, .int (nI k)] [] z) ∧ (∀ i, i ≠ 105 → z i = x i) ∧ (∀ i, (∀ t, t < 30 → i ≠ t * 11 + 0) → z 105 i = x 105 i) ∧ (∀ t, t < 30 → z 105 (t * 11 + 0) = if t < k ∧ gFrb σ t = true then 0 else σ 11 t) := by
    intro k
    induction k with
    | zero => intro _; exact ⟨x, fun _ _ => rfl, fun _ _ => rfl, fun _ _ => rfl, fun t ht => by rw [h0 t ht, if_neg (by omega)]⟩
    | succ k ih =>
      intro hk
      obtain ⟨z, i1, i2, i3, i4⟩ := ih (by omega)
      have hk30 : k < 30 := by omega
      obtain ⟨e1, e2, e3, e4, e5⟩ := g_ix (n := 29) hk30 (by decide)
      have e2 : nI k < 30 := e2
      have zk : z 105 (k * 11 + 0) = σ 11 k := by rw [i4 k hk30, if_neg (by omega)]
      have sn : ∀ (d : Nat) (K : gK), g_inv (gCm' G (d + 3)) mX10_isSeen [.ref 104, .int (nI k)] z K = K (some (.int (if (gSee σ k).isNone = true then 0 else 1))) z := fun d K => isSn_eq h hB hR hk30 (by rw [i3 _ (fun t _ => by omega)]; exact h9 k hk30) (fun r hr => by rw [i3 _ (fun t _ => by omega)]; exact h22 r hr)
      have rest : gFrb σ k = false → ∀ t, t < 30 → z 105 (t * 11 + 0) = if t < k + 1 ∧ gFrb σ t = true then 0 else σ 11 t := fun c t ht => by
        rw [i4 t ht]
        have : (t < k ∧ gFrb σ t = true) ↔ (t < k + 1 ∧ gFrb σ t = true) := by
          constructor
          · rintro ⟨u, v⟩; exact ⟨by omega, v⟩
          · rintro ⟨u, v⟩
            refine ⟨?_, v⟩
            by_cases e : t = k
            · subst e; rw [c] at v; cases v
            · omega
        simp only [this]
      by_cases c1 : σ 11 k = 2
      · cases hf : gSee σ k with
        | none =>
          refine ⟨g_up z 105 (k * 11 + 0) 0, fun d K => ?_, fun i hi => by rw [g_up_o hi]; exact i2 i hi, fun i hi => by rw [g_up_2 (hi k hk30)]; exact i3 i hi, fun t ht => ?_⟩
          · rw [i1, BX10_advance_19 h.2]
            simp +decide only [BX10_advance_31 h.2, BX10_advance_40 h.2, BX10_advance_50 h.2, at_0 h hk30, sets_0 h hk30, sn, hf, zk, c1, e2, Option.toList_some, Option.toList_none, List.cons_append, List.nil_append, Nat.zero_add, Nat.reduceAdd, Option.some.injEq, Value.int.injEq, exists_eq_left', true_and, and_true, true_or, or_true, false_or, g_10, ↓reduceIte, nI_1, Option.isNone_none]
          · by_cases e : t = k
            · subst e
              rw [g_up_3, if_pos ⟨by omega, gFrb_t c1 hf⟩]
            · rw [g_up_2 (by omega), i4 t ht]
              have : (t < k ∧ gFrb σ t = true) ↔ (t < k + 1 ∧ gFrb σ t = true) := by constructor <;> rintro ⟨u, v⟩ <;> exact ⟨by omega, v⟩
              simp only [this]
        | some j =>
          refine ⟨z, fun d K => ?_, i2, i3, rest (gFrb_s hf)⟩
          rw [i1, BX10_advance_19 h.2]
          simp +decide only [BX10_advance_31 h.2, BX10_advance_40 h.2, BX10_advance_50 h.2, at_0 h hk30, sn, hf, zk, c1, e2, Option.toList_some, Option.toList_none, List.cons_append, List.nil_append, Nat.zero_add, Nat.reduceAdd, Option.some.injEq, Value.int.injEq, exists_eq_left', true_and, and_true, true_or, or_true, false_or, g_10, ↓reduceIte, nI_1, Option.isNone_some]
      · refine ⟨z, fun d K => ?_, i2, i3, rest (gFrb_f c1)⟩
        rw [i1, BX10_advance_19 h.2]
        simp +decide only [BX10_advance_31 h.2, BX10_advance_50 h.2, at_0 h hk30, zk, c1, e2, Option.toList_some, Option.toList_none, List.cons_append, List.nil_append, Nat.zero_add, Nat.reduceAdd, Option.some.injEq, Value.int.injEq, exists_eq_left', true_and, and_true, true_or, or_true, false_or, g_10, ↓reduceIte, nI_1]
  obtain ⟨z, i1, i2, i3, i4⟩ := key 30 (Nat.le_refl _)
  refine ⟨z, fun d K => ?_, i2, i3, fun t ht => ?_⟩
  · rw [i1, BX10_advance_19 h.2]
    simp only [show ¬ nI 30 < 30 by decide, Option.toList_some, Option.toList_none, List.cons_append, List.nil_append, Nat.zero_add, Nat.reduceAdd, Option.some.injEq, Value.int.injEq, exists_eq_left', true_and, and_true, true_or, or_true, false_or, g_10, ↓reduceIte]
  · rw [i4 t ht]
    simp only [ht, true_and]
theorem op_advance (h : gOK G) (hB : B < 1000000) (hR : wRel B σ) : gOp G (d + 4) B mX9_advance mX10_advance [] σ := by
  unfold gOp
  obtain ⟨n, hn, en⟩ : ∃ n, n ≤ B ∧ σ 1 0 = nI n := ⟨_, (rEp hR).2, (rEp hR).1⟩
  obtain ⟨y, c1, c2, c3, c4⟩ := dropF_sp (x := g_up σ 1 0 (nI (n + 1))) h hR (fun i hi => g_up_o hi)
  have y5 : y 105 = σ 105 := by rw [c2 105 (by decide) (by decide), g_up_o (by decide)]
  have y10 : y 1 0 = nI (n + 1) := by rw [c2 1 (by decide) (by decide), g_up_3]
  have yo : ∀ i, i ≠ 1 → i ≠ 8 → i ≠ 11 → y i = σ i := fun i h1 h2 h3 => by rw [c2 i h2 h3, g_up_o h1]
  obtain ⟨z, d1, d2, d3, d4⟩ := advT_sp (x := g_up y 105 605 (nI (n + 1))) (n := gFrs σ 30) h hB hR (fun s hs => by rw [g_up_2 (by omega), y5]; exact rs9 hR s hs) (fun s hs => by rw [g_up_2 (by omega), y5]; exact rs0 hR s hs) (fun r hr => by rw [g_up_2 (by omega), y5]; exact r599 hR r hr)
  simp +decide only [EX9_advance, BX9_advance_13, BX9_advance_20, EX10_advance, BX10_advance_4, BX10_advance_31, BX10_advance_40, BX10_advance_50, Option.toList_some, Option.toList_none, List.cons_append, List.nil_append, Nat.zero_add, Nat.reduceAdd, Option.some.injEq, Value.int.injEq, exists_eq_left', true_and, and_true, true_or, or_true, false_or, g_10, ↓reduceIte, h.1, h.2, hNow h, hReg h, hGrd h, hBlk h, hTgo h, hWlk h, hPln h, hTap h, hHol h, en, nI_1, c1, y5, mFreeable_eq h hB hR y5, r605 hR, vp605, cl605, d1]
  have zo : ∀ i, i ≠ 105 → z i = y i := fun i hi => by rw [d2 i hi, g_up_o hi]
  have z5 : ∀ i, (∀ t, t < 30 → i ≠ t * 11 + 0) → i ≠ 605 → z 105 i = σ 105 i := fun i h1 h2 => by rw [d3 i h1, g_up_2 h2, y5]
  have z605 : z 105 605 = nI (n + 1) := by rw [d3 605 (fun t _ => by omega), g_up_3]
  have mi : ∀ k t, k < 22 → gMem z 1 k t = y (1 + k) t := fun k t hk => by rw [gMem_k hk, zo _ (by omega)]
  have mo : ∀ i, i ≠ 0 → i ≠ 7 → i ≠ 10 → gMem z 1 i = gMem σ 1 i := fun i h1 h2 h3 => by
    funext t
    by_cases hi2 : i < 22
    · rw [mi i t hi2, yo _ (by omega) (by omega) (by omega), gMem_k hi2]
    · simp [gMem, hi2]
  have m10 : ∀ t, t < 30 → gMem z 1 10 t = if gFrb σ t = true then 0 else σ 11 t := fun t ht => by rw [mi 10 t (by decide)]; exact c3 t ht
  have m0 : gMem z 1 0 0 = nI (n + 1) := by rw [mi 0 0 (by decide)]; exact y10
  have live : ∀ t, t < 30 → gMem z 1 10 t ≠ 0 → gFrb σ t = false ∧ σ 11 t ≠ 0 := fun t ht z => by
    rw [m10 t ht] at z
    cases hf : gFrb σ t with
    | true => rw [hf, if_pos rfl] at z; exact absurd rfl z
    | false => rw [hf, if_neg (by decide)] at z; exact ⟨rfl, z⟩
  refine wRel_fr hR (by omega) ⟨⟨wReg_c hR.1.1.1 (mo 2 (by decide) (by decide) (by decide)) (mo 3 (by decide) (by decide) (by decide)) (mo 4 (by decide) (by decide) (by decide)) (mo 5 (by decide) (by decide) (by decide)), fun t ht => ?_, fun c hc => ⟨?_, fun t ht hl => ?_⟩, ?_, by rw [mo 20 (by decide) (by decide) (by decide)]; exact rQu hR, by rw [mo 21 (by decide) (by decide) (by decide)]; exact fun r hr => (rIn hR r hr).imp id (fun z => gNn_up z (by omega))⟩, wTag_l hR.1.2.1 (by omega) (mo 18 (by decide) (by decide) (by decide)) (mo 19 (by decide) (by decide) (by decide)) (fun t ht => ?_) (mo 16 (by decide) (by decide) (by decide)) (z5 _ (fun t _ => by omega) (by omega)) (fun s hs => z5 _ (fun t _ => by omega) (by omega)), ?_⟩ (fun i hi => ?_) ?_ ?_ ?_
  · obtain ⟨g1, g2, g3, g4, g5⟩ := rSl hR t ht
    unfold wSlot
    rw [mo 9 (by decide) (by decide) (by decide), mo 17 (by decide) (by decide) (by decide), mo 16 (by decide) (by decide) (by decide)]
    refine ⟨gNn_up g1 (by omega), ?_, gNn_up g3 (by omega), g4, fun z => ?_⟩
    · rw [m10 t ht]
      split
      · exact Or.inl rfl
      · exact g2
    · obtain ⟨v1, v2⟩ := live t ht z
      exact wBlk_c (g5 v2) (mo 2 (by decide) (by decide) (by decide)) (mo 3 (by decide) (by decide) (by decide)) (mo 4 (by decide) (by decide) (by decide)) (congrFun (mo 11 (by decide) (by decide) (by decide)) t) (congrFun (mo 12 (by decide) (by decide) (by decide)) t) (congrFun (mo 13 (by decide) (by decide) (by decide)) t) (congrFun (mo 14 (by decide) (by decide) (by decide)) t) (congrFun (mo 15 (by decide) (by decide) (by decide)) t)
  · rw [mi 7 c (by decide)]
    show y 8 c = -1 ∨ _
    rcases c4 c hc with ⟨-, u⟩ | ⟨u1, u2⟩
    · exact Or.inl u
    · rw [u2]
      rcases (rGrd hR hc).1 with v | ⟨s, hs, v1, v2⟩
      · exact Or.inl v
      · refine Or.inr ⟨s, hs, ?_, v2⟩
        rw [m10 s hs, if_neg (fun v => u1 ⟨s, hs, v, v2⟩)]
        exact v1
  · obtain ⟨v1, v2⟩ := live t ht hl
    have old := (rGrd hR hc).2 t ht v2
    rw [mo 11 (by decide) (by decide) (by decide), mo 12 (by decide) (by decide) (by decide), mi 7 c (by decide)]
    show (gN (σ 12 t) ≤ c ∧ c < gN (σ 12 t) + gN (σ 13 t)) ↔ y 8 c = nI t
    rw [old]
    rcases c4 c hc with ⟨⟨s, hs, w1, w2⟩, u⟩ | ⟨u1, u2⟩
    · rw [u, w2]
      refine ⟨fun e => ?_, fun e => absurd e.symm (g_m1 (by omega))⟩
      have := nI_inj (by omega) (by omega) e
      subst this
      rw [v1] at w1; cases w1
    · rw [u2]
  · rw [m0]; exact gNn_nI (by omega) (by omega)
  · rw [m10 t ht]
    cases hf : gFrb σ t with
    | true =>
      have := (gFrb_e hf).1
      show (if true = true then 0 else σ 11 t) = 1 ↔ σ 11 t = 1
      rw [if_pos rfl, this]; decide
    | false => rw [if_neg (by decide)]; rfl
  · refine ⟨by rw [z605, m0], fun i hi => ?_, ?_, fun r hr => ?_, fun s hs => ?_, fun o ho => ?_, fun r hr => ?_⟩
    · rw [z5 _ (fun t _ => by omega) (by omega), mo 1 (by decide) (by decide) (by decide)]; exact r330 hR i hi
    · rw [z5 _ (fun t _ => by omega) (by omega), mo 2 (by decide) (by decide) (by decide)]; exact r570 hR
    · rw [z5 _ (fun t _ => by omega) (by omega), z5 _ (fun t _ => by omega) (by omega), z5 _ (fun t _ => by omega) (by omega), mo 3 (by decide) (by decide) (by decide), mo 4 (by decide) (by decide) (by decide), mo 5 (by decide) (by decide) (by decide)]
      exact ⟨r571 hR r hr, r577 hR r hr, r583 hR r hr⟩
    · refine ⟨by rw [d4 s hs, m10 s hs], ?_, ?_, ?_, ?_, ?_, ?_, ?_, ?_⟩
      · rw [z5 _ (fun t _ => by omega) (by omega), mo 9 (by decide) (by decide) (by decide)]; exact rs1 hR s hs
      · rw [z5 _ (fun t _ => by omega) (by omega), mo 11 (by decide) (by decide) (by decide)]; exact rs2 hR s hs
      · rw [z5 _ (fun t _ => by omega) (by omega), mo 12 (by decide) (by decide) (by decide)]; exact rs3 hR s hs
      · rw [z5 _ (fun t _ => by omega) (by omega), mo 13 (by decide) (by decide) (by decide)]; exact rs4 hR s hs
      · rw [z5 _ (fun t _ => by omega) (by omega), mo 14 (by decide) (by decide) (by decide)]; exact rs5 hR s hs
      · rw [z5 _ (fun t _ => by omega) (by omega), mo 15 (by decide) (by decide) (by decide)]; exact rs6 hR s hs
      · rw [z5 _ (fun t _ => by omega) (by omega), mo 16 (by decide) (by decide) (by decide)]; exact rs7 hR s hs
      · rw [z5 _ (fun t _ => by omega) (by omega), mo 17 (by decide) (by decide) (by decide)]; exact rs9 hR s hs
    · rw [z5 _ (fun t _ => by omega) (by omega), mo 20 (by decide) (by decide) (by decide)]; exact r589 hR o ho
    · rw [z5 _ (fun t _ => by omega) (by omega), mo 21 (by decide) (by decide) (by decide)]; exact r599 hR r hr
  · unfold gRl at hi; rw [zo i (by omega), yo i (by omega) (by omega) (by omega)]
  · rw [zo 95 (by decide), yo 95 (by decide) (by decide) (by decide)]
  · rw [zo 104 (by decide), yo 104 (by decide) (by decide) (by decide)]
  · rw [zo 104 (by decide), yo 104 (by decide) (by decide) (by decide)]
end O34
