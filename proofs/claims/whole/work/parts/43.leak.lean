section O43
variable {G : gG} {d B : Nat} {σ : gM} {K : gK}
/-- a set that is come to, growing -/
def lP (σ : gM) (x : Int32) : Prop := (∀ s, s < 30 → bt x s = true → rch (gRt σ) (gEd σ) s ∧ σ 11 s = 1) ∧ bt x 31 = false
def lG (x y : Int32) : Prop := (∀ s, s < 30 → bt x s = true → bt y s = true) ∧ (y = x ∨ gCnt (bt x) 30 < gCnt (bt y) 30)
theorem lG_r (x : Int32) : lG x x := ⟨fun _ _ h => h, Or.inl rfl⟩
theorem lG_t {x y z : Int32} (h1 : lG x y) (h2 : lG y z) : lG x z := by
  refine ⟨fun s hs h => h2.1 s hs (h1.1 s hs h), ?_⟩
  rcases h1.2 with e | e
  · subst e; exact h2.2
  · rcases h2.2 with e2 | e2
    · subst e2; exact Or.inr e
    · exact Or.inr (by omega)
theorem lG_b {x : Int32} {q : Nat} (hq : q < 30) : lG x (bs x q) := by
  refine ⟨fun s hs h => by rw [bt_bs hq (by omega), h]; rfl, ?_⟩
  cases e : bt x q with
  | true => exact Or.inl (bs_same hq e)
  | false => exact Or.inr (by rw [bs_cnt hq e]; omega)
theorem lk_in (h : gOK G) (hR : wRel B σ) {z : gM} (hz : z 105 = σ 105) {lv bf : Int32} {s : Nat} (hs : s < 30) : ∀ (rem q : Nat) (x : Int32), q + rem = 30 → lP σ x →
    ∃ y : Int32, (∀ (d : Nat) (K : gK), ∃ w : Value, gw (gCm' G (d + 4)) G mX10_leakedOnes K 96 [.ref 104, .int x, .int lv, .int bf, .int (nI s), .int (nI q)] [] z = gw (gCm' G (d + 4)) G mX10_leakedOnes K 86 [.ref 104, .int y, .int lv, .int bf, .int (nI (s + 1)), w] [] z) ∧ lP σ y ∧ lG x y ∧ (bt x s = true → ∀ t, q ≤ t → t < 30 → gEd σ s t → bt y t = true) := by
  intro rem
  induction rem with
  | zero =>
    intro q x hq hx
    have : q = 30 := by omega
    subst this
    refine ⟨x, fun d K => ⟨.int (nI 30), ?_⟩, hx, lG_r x, fun _ t h1 h2 => by omega⟩
    rw [BX10_leakedOnes_96 h.2]
    simp only [show ¬ nI 30 < 30 by decide, Option.toList_some, Option.toList_none, List.cons_append, List.nil_append, Nat.zero_add, Nat.reduceAdd, Option.some.injEq, Value.int.injEq, exists_eq_left', true_and, and_true, true_or, or_true, false_or, g_10, ↓reduceIte, nI_1]
  | succ rem ih =>
    intro q x hq hx
    have hq30 : q < 30 := by omega
    obtain ⟨f1, f2, f3, f4, f5⟩ := g_ix (n := 29) hq30 (by decide)
    have f2 : nI q < 30 := f2
    by_cases cb : bt x s = true
    · have ct := (bt_t hs).mpr cb
      have hls := (hx.1 s hs cb).2
      obtain ⟨l, n, r, o, p, b1, b2, b3, b4, b5, b6, b7, b8, -⟩ := rBlk hR hs (by rw [hls]; decide)
      have same : (gEd σ s q → False) → (∀ (d : Nat) (K : gK), gw (gCm' G (d + 4)) G mX10_leakedOnes K 96 [.ref 104, .int x, .int lv, .int bf, .int (nI s), .int (nI q)] [] z = gw (gCm' G (d + 4)) G mX10_leakedOnes K 96 [.ref 104, .int x, .int lv, .int bf, .int (nI s), .int (nI (q + 1))] [] z) → ∃ y : Int32, (∀ (d : Nat) (K : gK), ∃ w : Value, gw (gCm' G (d + 4)) G mX10_leakedOnes K 96 [.ref 104, .int x, .int lv, .int bf, .int (nI s), .int (nI q)] [] z = gw (gCm' G (d + 4)) G mX10_leakedOnes K 86 [.ref 104, .int y, .int lv, .int bf, .int (nI (s + 1)), w] [] z) ∧ lP σ y ∧ lG x y ∧ (bt x s = true → ∀ t, q ≤ t → t < 30 → gEd σ s t → bt y t = true) := fun h1 h2 => by
        obtain ⟨y, i1, i2, i3, i4⟩ := ih (q + 1) x (by omega) hx
        refine ⟨y, fun d K => ?_, i2, i3, fun _ t g1 g2 g3 => ?_⟩
        · obtain ⟨w, i1⟩ := i1 d K
          exact ⟨w, by rw [h2, i1]⟩
        · by_cases e : t = q
          · subst e; exact (h1 g3).elim
          · exact i4 cb t (by omega) g2 g3
      by_cases cl : σ 11 q = 1
      · have ho : ∀ (d : Nat) (K : gK), g_inv (gCm' G (d + 3)) mX10_holds [.ref 104, .int (nI s), .int (nI q)] z K = match gFst (fun i => decide (σ 2 (l + i) = 100 * σ 10 q + nI q)) n 0 with
            | some _ => K (some (.int 1)) z
            | none => K (some (.int 0)) z := fun d K => holds_eq h hR hz hs hq30 b1 b2 b8
        cases hf : gFst (fun i => decide (σ 2 (l + i) = 100 * σ 10 q + nI q)) n 0 with
        | none =>
          rw [hf] at ho
          refine same (fun he => absurd hf ((holds_iff hq30 cl b1 b2 b8).mpr he)) (fun d K => ?_)
          rw [BX10_leakedOnes_96 h.2]
          simp +decide only [f2, ct, live_eq h hq30, hz, rs0 hR _ hq30, cl, BX10_leakedOnes_120 h.2, ho, BX10_leakedOnes_131 h.2, Int32.or_zero, Option.toList_some, Option.toList_none, List.cons_append, List.nil_append, Nat.zero_add, Nat.reduceAdd, Option.some.injEq, Value.int.injEq, exists_eq_left', true_and, and_true, true_or, or_true, false_or, g_10, ↓reduceIte, nI_1]
        | some w =>
          rw [hf] at ho
          have he : gEd σ s q := (holds_iff hq30 cl b1 b2 b8).mp (by rw [hf]; simp)
          have hb : lP σ (bs x q) := by
            refine ⟨fun t ht hbt => ?_, by rw [bt_bs hq30 (by decide), hx.2]; simp; omega⟩
            rw [bt_bs hq30 (by omega)] at hbt
            cases e : bt x t with
            | true => exact hx.1 t ht e
            | false =>
              rw [e] at hbt
              simp at hbt
              subst hbt
              exact ⟨rch_e (hx.1 s hs cb).1 he, cl⟩
          obtain ⟨y, i1, i2, i3, i4⟩ := ih (q + 1) (bs x q) (by omega) hb
          have hbx : bt (bs x q) s = true := (lG_b hq30).1 s hs cb
          refine ⟨y, fun d K => ?_, i2, lG_t (lG_b hq30) i3, fun _ t g1 g2 g3 => ?_⟩
          · obtain ⟨w, i1⟩ := i1 d K
            refine ⟨w, ?_⟩
            rw [← i1, BX10_leakedOnes_96 h.2]
            simp +decide only [f2, ct, live_eq h hq30, hz, rs0 hR _ hq30, cl, BX10_leakedOnes_120 h.2, ho, BX10_leakedOnes_131 h.2, Option.toList_some, Option.toList_none, List.cons_append, List.nil_append, Nat.zero_add, Nat.reduceAdd, Option.some.injEq, Value.int.injEq, exists_eq_left', true_and, and_true, true_or, or_true, false_or, g_10, ↓reduceIte, nI_1, bs]
          · by_cases e : t = q
            · subst e
              exact i3.1 t hq30 (by rw [bt_bs hq30 (by omega)]; simp)
            · exact i4 hbx t (by omega) g2 g3
      · refine same (fun he => cl he.2.1) (fun d K => ?_)
        rw [BX10_leakedOnes_96 h.2]
        simp +decide only [f2, ct, live_eq h hq30, hz, rs0 hR _ hq30, cl, BX10_leakedOnes_120 h.2, Int32.or_zero, Option.toList_some, Option.toList_none, List.cons_append, List.nil_append, Nat.zero_add, Nat.reduceAdd, Option.some.injEq, Value.int.injEq, exists_eq_left', true_and, and_true, true_or, or_true, false_or, g_10, ↓reduceIte, nI_1]
    · have ct : ¬ ((x >>> (nI s &&& 31)) &&& 1 = 1) := fun e => cb ((bt_t hs).mp e)
      refine ⟨x, fun d K => ⟨.int (nI q), ?_⟩, hx, lG_r x, fun e => absurd e cb⟩
      rw [BX10_leakedOnes_96 h.2]
      simp only [f2, ct, Option.toList_some, Option.toList_none, List.cons_append, List.nil_append, Nat.zero_add, Nat.reduceAdd, Option.some.injEq, Value.int.injEq, exists_eq_left', true_and, and_true, true_or, or_true, false_or, g_10, ↓reduceIte, nI_1]
theorem lk_pass (h : gOK G) (hR : wRel B σ) {z : gM} (hz : z 105 = σ 105) {lv bf : Int32} : ∀ (rem s : Nat) (x : Int32), s + rem = 30 → lP σ x →
    ∃ y : Int32, (∀ (d : Nat) (w : Value) (K : gK), ∃ w' : Value, gw (gCm' G (d + 4)) G mX10_leakedOnes K 86 [.ref 104, .int x, .int lv, .int bf, .int (nI s), w] [] z = gw (gCm' G (d + 4)) G mX10_leakedOnes K 76 [.ref 104, .int y, .int lv, .int bf, .int (nI 30), w'] [] z) ∧ lP σ y ∧ lG x y ∧ (∀ u, s ≤ u → u < 30 → bt x u = true → ∀ t, t < 30 → gEd σ u t → bt y t = true) := by
  intro rem
  induction rem with
  | zero =>
    intro s x hs hx
    have : s = 30 := by omega
    subst this
    refine ⟨x, fun d w K => ⟨w, ?_⟩, hx, lG_r x, fun u h1 h2 => by omega⟩
    rw [BX10_leakedOnes_86 h.2]
    simp only [show ¬ nI 30 < 30 by decide, Option.toList_some, Option.toList_none, List.cons_append, List.nil_append, Nat.zero_add, Nat.reduceAdd, Option.some.injEq, Value.int.injEq, exists_eq_left', true_and, and_true, true_or, or_true, false_or, g_10, ↓reduceIte]
  | succ rem ih =>
    intro s x hs hx
    have hs30 : s < 30 := by omega
    obtain ⟨y, i1, i2, i3, i4⟩ := lk_in h hR hz (lv := lv) (bf := bf) hs30 30 0 x (by omega) hx
    obtain ⟨y2, j1, j2, j3, j4⟩ := ih (s + 1) y (by omega) i2
    refine ⟨y2, fun d w K => ?_, j2, lG_t i3 j3, fun u g1 g2 g3 t g4 g5 => ?_⟩
    · obtain ⟨w1, i1⟩ := i1 d K
      obtain ⟨w2, j1⟩ := j1 d w1 K
      refine ⟨w2, ?_⟩
      rw [BX10_leakedOnes_86 h.2]
      simp only [show nI s < 30 from nI_lt (b := 30) hs30 (by decide), Option.toList_some, Option.toList_none, List.cons_append, List.nil_append, Nat.zero_add, Nat.reduceAdd, Option.some.injEq, Value.int.injEq, exists_eq_left', true_and, and_true, true_or, or_true, false_or, g_10, ↓reduceIte]
      rw [show (0 : Int32) = nI 0 from rfl, i1, j1]
    · by_cases e : u = s
      · subst e; exact j3.1 t g4 (i4 g3 t (by omega) g4 g5)
      · exact j4 u (by omega) g2 (i3.1 u g2 g3) t g4 g5
theorem lk_all (h : gOK G) (hR : wRel B σ) {z : gM} (hz : z 105 = σ 105) {lv : Int32} : ∀ (fuel : Nat) (x bf : Int32), 31 ≤ gCnt (bt x) 30 + fuel → lP σ x → bf ≠ x →
    ∃ y : Int32, (∀ (d : Nat) (w4 w5 : Value) (K : gK), gw (gCm' G (d + 4)) G mX10_leakedOnes K 76 [.ref 104, .int x, .int lv, .int bf, w4, w5] [] z = K (some (.int (lv &&& (y ^^^ -1)))) z) ∧ lP σ y ∧ lG x y ∧ (∀ u, u < 30 → bt y u = true → ∀ t, t < 30 → gEd σ u t → bt y t = true) := by
  intro fuel
  induction fuel with
  | zero => intro x bf hf; have := gCnt_le (c := bt x) 30; omega
  | succ fuel ih =>
    intro x bf hf hx hne
    obtain ⟨y, i1, i2, i3, i4⟩ := lk_pass h hR hz (lv := lv) (bf := x) 30 0 x (by omega) hx
    by_cases e : y = x
    · subst e
      refine ⟨y, fun d w4 w5 K => ?_, i2, i3, fun u hu => i4 u (by omega) hu⟩
      obtain ⟨w', i1⟩ := i1 d w5 K
      rw [BX10_leakedOnes_76 h.2]
      simp only [hne, Option.toList_some, Option.toList_none, List.cons_append, List.nil_append, Nat.zero_add, Nat.reduceAdd, Option.some.injEq, Value.int.injEq, exists_eq_left', true_and, and_true, true_or, or_true, false_or, g_10, ↓reduceIte]
      rw [show (0 : Int32) = nI 0 from rfl, i1, BX10_leakedOnes_76 h.2]
      simp only [Option.toList_some, Option.toList_none, List.cons_append, List.nil_append, Nat.zero_add, Nat.reduceAdd, Option.some.injEq, Value.int.injEq, exists_eq_left', true_and, and_true, true_or, or_true, false_or, g_10, ↓reduceIte]
    · obtain ⟨y2, j1, j2, j3, j4⟩ := ih y x (by rcases i3.2 with z | z; exact absurd z e; omega) i2 (fun z => e z.symm)
      refine ⟨y2, fun d w4 w5 K => ?_, j2, lG_t i3 j3, j4⟩
      obtain ⟨w', i1⟩ := i1 d w5 K
      rw [BX10_leakedOnes_76 h.2]
      simp only [hne, Option.toList_some, Option.toList_none, List.cons_append, List.nil_append, Nat.zero_add, Nat.reduceAdd, Option.some.injEq, Value.int.injEq, exists_eq_left', true_and, and_true, true_or, or_true, false_or, g_10, ↓reduceIte]
      rw [show (0 : Int32) = nI 0 from rfl, i1]
      exact j1 d _ _ K
theorem leaked_sp (h : gOK G) (hR : wRel B σ) {z : gM} (hz : z 105 = σ 105) : ∃ v : Int32, (∀ (d : Nat) (K : gK), g_inv (gCm' G (d + 5)) mX10_leakedOnes [.ref 104] z K = K (some (.int v)) z) ∧ ∀ s, s < 30 → (bt v s = true ↔ σ 11 s = 1 ∧ ¬ rch (gRt σ) (gEd σ) s) := by
  have key : ∀ k, k ≤ 30 → ∃ x lv : Int32, (∀ (d : Nat) (K : gK), gw (gCm' G (d + 4)) G mX10_leakedOnes K 6 [.ref 104, .int 0, .int 0, .int 0, .long 0, .long 0] [] z = gw (gCm' G (d + 4)) G mX10_leakedOnes K 6 [.ref 104, .int x, .int lv, .int (nI k), .long 0, .long 0] [] z) ∧ bt x 31 = false ∧ (∀ s, s < 30 → (bt x s = true ↔ s < k ∧ gRt σ s)) ∧ (∀ s, s < 30 → (bt lv s = true ↔ s < k ∧ σ 11 s = 1)) := by
    intro k
    induction k with
    | zero => intro _; exact ⟨0, 0, fun _ _ => rfl, bt_0 _, fun s hs => by rw [bt_0]; simp, fun s hs => by rw [bt_0]; simp⟩
    | succ k ih =>
      intro hk
      obtain ⟨x, lv, i1, i2, i3, i4⟩ := ih (by omega)
      have hk30 : k < 30 := by omega
      obtain ⟨f1, f2, f3, f4, f5⟩ := g_ix (n := 29) hk30 (by decide)
      have f2 : nI k < 30 := f2
      have stay : ∀ (w : Int32) (P : Nat → Prop), (¬ P k) → (∀ s, s < 30 → (bt w s = true ↔ s < k ∧ P s)) → (∀ s, s < 30 → (bt w s = true ↔ s < k + 1 ∧ P s)) := fun w P hn hw s hs => by
        rw [hw s hs]
        constructor
        · rintro ⟨a, b⟩; exact ⟨by omega, b⟩
        · rintro ⟨a, b⟩
          refine ⟨?_, b⟩
          by_cases e : s = k
          · subst e; exact absurd b hn
          · omega
      have grow : ∀ (w : Int32) (P : Nat → Prop), P k → (∀ s, s < 30 → (bt w s = true ↔ s < k ∧ P s)) → (∀ s, s < 30 → (bt (bs w k) s = true ↔ s < k + 1 ∧ P s)) := fun w P hn hw s hs => by
        rw [bt_bs hk30 (by omega), Bool.or_eq_true, hw s hs, decide_eq_true_eq]
        constructor
        · rintro (⟨a, b⟩ | a)
          · exact ⟨by omega, b⟩
          · subst a; exact ⟨by omega, hn⟩
        · rintro ⟨a, b⟩
          by_cases e : s = k
          · exact Or.inr e
          · exact Or.inl ⟨by omega, b⟩
      by_cases cl : σ 11 k = 1
      · by_cases ct : σ 17 k < 0
        · have ct1 : σ 17 k = -1 := by
            rcases (rSl hR k hk30).2.2.2.1 with e | e
            · exact e
            · exact absurd ct (gNn_neg e (by decide))
          by_cases cp : 0 < σ 16 k
          · refine ⟨bs x k, bs lv k, fun d K => ?_, by rw [bt_bs hk30 (by decide), i2]; simp; omega, grow x _ ⟨hk30, cl, Or.inr cp⟩ i3, grow lv (fun s => σ 11 s = 1) cl i4⟩
            rw [i1, BX10_leakedOnes_6 h.2]
            simp +decide only [f2, live_eq h hk30, hz, rs0 hR _ hk30, rs7 hR _ hk30, rs6 hR _ hk30, at_7 h hk30, at_6 h hk30, cl, ct, cp, BX10_leakedOnes_18 h.2, BX10_leakedOnes_28 h.2, BX10_leakedOnes_36 h.2, BX10_leakedOnes_46 h.2, BX10_leakedOnes_56 h.2, Option.toList_some, Option.toList_none, List.cons_append, List.nil_append, Nat.zero_add, Nat.reduceAdd, Option.some.injEq, Value.int.injEq, exists_eq_left', true_and, and_true, true_or, or_true, false_or, g_10, ↓reduceIte, nI_1, bs]
          · refine ⟨x, bs lv k, fun d K => ?_, i2, stay x _ (fun ⟨_, _, e⟩ => e.elim (fun z => z ct1) cp) i3, grow lv (fun s => σ 11 s = 1) cl i4⟩
            rw [i1, BX10_leakedOnes_6 h.2]
            simp +decide only [f2, live_eq h hk30, hz, rs0 hR _ hk30, rs7 hR _ hk30, rs6 hR _ hk30, at_7 h hk30, at_6 h hk30, cl, ct, cp, BX10_leakedOnes_18 h.2, BX10_leakedOnes_28 h.2, BX10_leakedOnes_36 h.2, BX10_leakedOnes_46 h.2, BX10_leakedOnes_56 h.2, Int32.or_zero, Option.toList_some, Option.toList_none, List.cons_append, List.nil_append, Nat.zero_add, Nat.reduceAdd, Option.some.injEq, Value.int.injEq, exists_eq_left', true_and, and_true, true_or, or_true, false_or, g_10, ↓reduceIte, nI_1, bs]
        · refine ⟨bs x k, bs lv k, fun d K => ?_, by rw [bt_bs hk30 (by decide), i2]; simp; omega, grow x _ ⟨hk30, cl, Or.inl (fun e => ct (by rw [e]; decide))⟩ i3, grow lv (fun s => σ 11 s = 1) cl i4⟩
          rw [i1, BX10_leakedOnes_6 h.2]
          simp +decide only [f2, live_eq h hk30, hz, rs0 hR _ hk30, rs7 hR _ hk30, at_7 h hk30, cl, ct, BX10_leakedOnes_18 h.2, BX10_leakedOnes_28 h.2, BX10_leakedOnes_36 h.2, BX10_leakedOnes_46 h.2, Option.toList_some, Option.toList_none, List.cons_append, List.nil_append, Nat.zero_add, Nat.reduceAdd, Option.some.injEq, Value.int.injEq, exists_eq_left', true_and, and_true, true_or, or_true, false_or, g_10, ↓reduceIte, nI_1, bs]
      · refine ⟨x, lv, fun d K => ?_, i2, stay x _ (fun e => cl e.2.1) i3, stay lv (fun s => σ 11 s = 1) cl i4⟩
        rw [i1, BX10_leakedOnes_6 h.2]
        simp +decide only [f2, live_eq h hk30, hz, rs0 hR _ hk30, cl, BX10_leakedOnes_18 h.2, BX10_leakedOnes_28 h.2, BX10_leakedOnes_36 h.2, Int32.or_zero, Option.toList_some, Option.toList_none, List.cons_append, List.nil_append, Nat.zero_add, Nat.reduceAdd, Option.some.injEq, Value.int.injEq, exists_eq_left', true_and, and_true, true_or, or_true, false_or, g_10, ↓reduceIte, nI_1]
  obtain ⟨x, lv, i1, i2, i3, i4⟩ := key 30 (Nat.le_refl _)
  have hx : lP σ x := ⟨fun s hs hb => ⟨rch_r ((i3 s hs).mp hb).2, ((i3 s hs).mp hb).2.2.1⟩, i2⟩
  have hne : (-1 : Int32) ≠ x := fun e => by
    have := bt_m1 (s := 31) (by decide)
    rw [e, i2] at this; cases this
  obtain ⟨y, j1, j2, j3, j4⟩ := lk_all h hR hz (lv := lv) 31 x (-1) (by omega) hx hne
  refine ⟨lv &&& (y ^^^ -1), fun d K => ?_, fun s hs => ?_⟩
  · rw [EX10_leakedOnes h.2, i1, BX10_leakedOnes_6 h.2]
    simp only [show ¬ nI 30 < 30 by decide, j1, Option.toList_some, Option.toList_none, List.cons_append, List.nil_append, Nat.zero_add, Nat.reduceAdd, Option.some.injEq, Value.int.injEq, exists_eq_left', true_and, and_true, true_or, or_true, false_or, g_10, ↓reduceIte]
  · rw [bt_an (by omega), Bool.and_eq_true, Bool.not_eq_true', i4 s hs]
    constructor
    · rintro ⟨⟨-, a⟩, b⟩
      refine ⟨a, fun hr => ?_⟩
      have : ∀ t, rch (gRt σ) (gEd σ) t → t < 30 ∧ bt y t = true := fun t ht => ht (fun t => t < 30 ∧ bt y t = true) (fun t ht => ⟨ht.1, j3.1 t ht.1 ((i3 t ht.1).mpr ⟨ht.1, ht⟩)⟩) (fun p t hp he => ⟨he.1, j4 p hp.1 hp.2 t he.1 he⟩)
      rw [(this s hr).2] at b; cases b
    · rintro ⟨a, b⟩
      refine ⟨⟨hs, a⟩, ?_⟩
      cases e : bt y s with
      | false => rfl
      | true => exact absurd (j2.1 s hs e).1 b
end O43
