section O41
variable {G : gG} {d B : Nat} {σ : gM} {K : gK}
theorem holds_eq (h : gOK G) (hR : wRel B σ) {z : gM} (hz : z 105 = σ 105) {s t l q : Nat} (hs : s < 30) (ht : t < 30) (el : σ 12 s = nI l) (eq : σ 13 s = nI q) (hlq : l + q ≤ 240) : g_inv (gCm' G (d + 3)) mX10_holds [.ref 104, .int (nI s), .int (nI t)] z K = match gFst (fun i => decide (σ 2 (l + i) = 100 * σ 10 t + nI t)) q 0 with
    | some _ => K (some (.int 1)) z
    | none => K (some (.int 0)) z := by
  rw [EX10_holds h.2]
  refine g_find (W := fun i (_ : Unit) => gw (gCm' G (d + 2)) G mX10_holds K 2 [.ref 104, .int (nI s), .int (nI t), .int (nI i)] [] z) (F := fun _ _ => ()) (c := fun i => decide (σ 2 (l + i) = 100 * σ 10 t + nI t)) (R := fun _ => K (some (.int 1)) z) (E := K (some (.int 0)) z) (L := q) (fun i hi v => ?_) (fun v => ?_) ()
  · have g0 : nI i < nI q := nI_lt hi (by omega)
    have g1 : (330 : Int32) + nI l + nI i = nI (330 + (l + i)) := by rw [show (330 : Int32) = nI 330 from rfl, nI_add, nI_add, Nat.add_assoc]
    have g2 : vp_in (nI (330 + (l + i))) 607 := vp_c (by omega)
    have g3 : (nI (330 + (l + i))).toNatClampNeg = 330 + (l + i) := nI_clamp (by omega)
    rw [BX10_holds_2 h.2]
    simp only [at_3 h hs, at_2 h hs, hz, rs3 hR _ hs, rs2 hR _ hs, el, eq, BX10_holds_9 h.2, BX10_holds_25 h.2, BX10_holds_34 h.2, hof_eq h ht, rs1 hR _ ht, r330 hR _ (show l + i < 240 by omega), g0, g1, g2, g3, Option.toList_some, Option.toList_none, List.cons_append, List.nil_append, Nat.zero_add, Nat.reduceAdd, Option.some.injEq, Value.int.injEq, exists_eq_left', true_and, and_true, true_or, or_true, false_or, g_10, ↓reduceIte, nI_1, decide_eq_true_eq]
  · rw [BX10_holds_2 h.2]
    simp only [at_3 h hs, hz, rs3 hR _ hs, eq, BX10_holds_9 h.2, show ¬ nI q < nI q from nI_nlt (Nat.le_refl _) (by omega), Option.toList_some, Option.toList_none, List.cons_append, List.nil_append, Nat.zero_add, Nat.reduceAdd, Option.some.injEq, Value.int.injEq, exists_eq_left', true_and, and_true, true_or, or_true, false_or, g_10, ↓reduceIte]
theorem holds_iff {s t l q : Nat} (ht : t < 30) (hl : σ 11 t = 1) (el : σ 12 s = nI l) (eq : σ 13 s = nI q) (hlq : l + q ≤ 240) : gFst (fun i => decide (σ 2 (l + i) = 100 * σ 10 t + nI t)) q 0 ≠ none ↔ gEd σ s t := by
  constructor
  · intro hn
    cases e : gFst (fun i => decide (σ 2 (l + i) = 100 * σ 10 t + nI t)) q 0 with
    | none => exact absurd e hn
    | some k =>
      obtain ⟨-, h2, h3, -⟩ := gFst_some e
      refine ⟨ht, hl, k, by rw [eq, gN_nI (by omega)]; omega, ?_⟩
      rw [el, gN_nI (by omega)]
      exact of_decide_eq_true h3
  · rintro ⟨-, -, k, h1, h2⟩ hn
    rw [eq, gN_nI (by omega)] at h1
    rw [el, gN_nI (by omega)] at h2
    have := gFst_none hn k (by omega) (by omega)
    rw [decide_eq_false_iff_not] at this
    exact this h2
def tW (y z : gM) (lab : Nat → Option Nat) (ord : Nat → Nat) (c : Nat) : Prop := (∀ i, i ≠ 112 → i ≠ 113 → z i = y i) ∧ (∀ t, t < 30 → z 112 t = gAns (lab t) (-2)) ∧ ∀ j, j < c → z 113 j = nI (ord j)
theorem path_in (h : gOK G) (hB : B < 1000000) (hR : wRel B σ) {y : gM} (hy : y 105 = σ 105) {R : Nat → Prop} {i : Nat} {va vb vf vt : Value} (ha : ∃ a, va = .int a) (hb' : ∃ a, vb = .int a) (hf : ∃ a, vf = .int a) (htt : ∃ a, vt = .int a) : ∀ (rem k : Nat) (z : gM) (lab : Nat → Option Nat) (ord : Nat → Nat) (c s : Nat), tW y z lab ord c → bI R (gEd σ) lab ord c i → i < c → ord i = s → σ 11 s = 1 → k + rem = 30 → (∀ t, t < k → gEd σ s t → lab t ≠ none) →
    ∃ (z' : gM) (lab' : Nat → Option Nat) (ord' : Nat → Nat) (c' : Nat), (∀ (d : Nat) (K : gK), gw (gCm' G (d + 4)) G mX10_path K 80 [.ref 104, va, vb, vf, vt, .int (nI c), .int (nI i), .int (nI k)] [] z = gw (gCm' G (d + 4)) G mX10_path K 80 [.ref 104, va, vb, vf, vt, .int (nI c'), .int (nI i), .int (nI 30)] [] z') ∧ tW y z' lab' ord' c' ∧ bI R (gEd σ) lab' ord' c' i ∧ i < c' ∧ ord' i = s ∧ (∀ t n, lab t = some n → lab' t = some n) ∧ (∀ t, t < 30 → gEd σ s t → lab' t ≠ none) := by
  obtain ⟨va, rfl⟩ := ha
  obtain ⟨vb, rfl⟩ := hb'
  obtain ⟨vf, rfl⟩ := hf
  obtain ⟨vt, rfl⟩ := htt
  intro rem
  induction rem with
  | zero =>
    intro k z lab ord c s hx hb hi hs hl hk hd
    have : k = 30 := by omega
    subst this
    exact ⟨z, lab, ord, c, fun d K => rfl, hx, hb, hi, hs, fun _ _ e => e, hd⟩
  | succ rem ih =>
    intro k z lab ord c s hx hb hi hs hl hk hd
    obtain ⟨x1, x3, x4⟩ := id hx
    have hk30 : k < 30 := by omega
    obtain ⟨f1, f2, f3, f4, f5⟩ := g_ix (n := 29) hk30 (by decide)
    have f2 : nI k < 30 := f2
    have hs30 : s < 30 := by rw [← hs]; exact (hb.2.2.1 i hi).1
    obtain ⟨u1, u2, u3, u4, u5⟩ := g_ix (n := 29) hs30 (by decide)
    obtain ⟨m, hm, hm2⟩ := (hb.2.2.1 i hi).2
    rw [hs] at hm
    have c30 := hb.1
    have z5 : z 105 = σ 105 := by rw [x1 105 (by decide) (by decide)]; exact hy
    obtain ⟨l, q, r, o, p, b1, b2, b3, b4, b5, b6, b7, b8, -⟩ := rBlk hR hs30 (by rw [hl]; decide)
    have gi : vp_in (nI i) 30 := vp_in_nI (by omega) (by decide)
    have gj : (nI i).toNatClampNeg = i := nI_clamp (by omega)
    have e113 : z 113 i = nI s := by rw [x4 i hi, hs]
    have ho : ∀ (d : Nat) (K : gK), g_inv (gCm' G (d + 3)) mX10_holds [.ref 104, .int (nI s), .int (nI k)] z K = match gFst (fun i => decide (σ 2 (l + i) = 100 * σ 10 k + nI k)) q 0 with
        | some _ => K (some (.int 1)) z
        | none => K (some (.int 0)) z := fun d K => holds_eq h hR z5 hs30 hk30 b1 b2 b8
    have skip : (gEd σ s k → lab k ≠ none) → (∀ (d : Nat) (K : gK), gw (gCm' G (d + 4)) G mX10_path K 80 [.ref 104, .int va, .int vb, .int vf, .int vt, .int (nI c), .int (nI i), .int (nI k)] [] z = gw (gCm' G (d + 4)) G mX10_path K 80 [.ref 104, .int va, .int vb, .int vf, .int vt, .int (nI c), .int (nI i), .int (nI (k + 1))] [] z) → ∃ (z' : gM) (lab' : Nat → Option Nat) (ord' : Nat → Nat) (c' : Nat), (∀ (d : Nat) (K : gK), gw (gCm' G (d + 4)) G mX10_path K 80 [.ref 104, .int va, .int vb, .int vf, .int vt, .int (nI c), .int (nI i), .int (nI k)] [] z = gw (gCm' G (d + 4)) G mX10_path K 80 [.ref 104, .int va, .int vb, .int vf, .int vt, .int (nI c'), .int (nI i), .int (nI 30)] [] z') ∧ tW y z' lab' ord' c' ∧ bI R (gEd σ) lab' ord' c' i ∧ i < c' ∧ ord' i = s ∧ (∀ t n, lab t = some n → lab' t = some n) ∧ (∀ t, t < 30 → gEd σ s t → lab' t ≠ none) := fun h1 h2 => by
      obtain ⟨z', lab', ord', c', i1, i2⟩ := ih (k + 1) z lab ord c s hx hb hi hs hl (by omega) (fun t ht he => by
        by_cases e : t = k
        · subst e; exact h1 he
        · exact hd t (by omega) he)
      exact ⟨z', lab', ord', c', fun d K => by rw [h2, i1], i2⟩
    cases hlk : lab k with
    | some n =>
      have e112 : z 112 k = nI n := by rw [x3 k hk30, hlk]; rfl
      have hn30 : n ≤ 30 := by
        obtain ⟨⟨j, hj, ej⟩, -⟩ := hb.2.2.2.2.1 k n hlk
        obtain ⟨-, n', e', h'⟩ := hb.2.2.1 j hj
        rw [ej, hlk] at e'; cases e'; omega
      refine skip (fun _ => by rw [hlk]; simp) (fun d K => ?_)
      rw [BX10_path_80 h.2]
      simp only [f2, f4, f5, e112, show ¬ nI n < 0 from nI_pos (by omega), Option.toList_some, Option.toList_none, List.cons_append, List.nil_append, Nat.zero_add, Nat.reduceAdd, Option.some.injEq, Value.int.injEq, exists_eq_left', true_and, and_true, true_or, or_true, false_or, g_10, ↓reduceIte, nI_1]
    | none =>
      have e112 : z 112 k = -2 := by rw [x3 k hk30, hlk]; rfl
      by_cases ck : σ 11 k = 1
      · cases hf : gFst (fun i => decide (σ 2 (l + i) = 100 * σ 10 k + nI k)) q 0 with
        | none =>
          rw [hf] at ho
          refine skip (fun he => absurd hf ((holds_iff hk30 ck b1 b2 b8).mpr he)) (fun d K => ?_)
          rw [BX10_path_80 h.2]
          simp +decide only [f2, f4, f5, e112, live_eq h hk30, z5, rs0 hR _ hk30, ck, BX10_path_103 h.2, gi, gj, e113, ho, BX10_path_119 h.2, Option.toList_some, Option.toList_none, List.cons_append, List.nil_append, Nat.zero_add, Nat.reduceAdd, Option.some.injEq, Value.int.injEq, exists_eq_left', true_and, and_true, true_or, or_true, false_or, g_10, ↓reduceIte, nI_1]
        | some w =>
          rw [hf] at ho
          have he : gEd σ s k := (holds_iff hk30 ck b1 b2 b8).mp (by rw [hf]; simp)
          have c29 := bI_lt hb hk30 hlk
          have hb2 := bI_push hb hk30 hlk (n := m + 1) (by omega) (Or.inr ⟨s, m, hm, he, rfl⟩) (fun u n hu => by
            obtain ⟨m', w1, w2⟩ := hb.2.2.2.2.2.2 u n hu hi
            rw [hs, hm] at w1; cases w1; exact w2) (fun _ => ⟨m, by rw [hs]; exact hm, Nat.le_refl _⟩) (fun e => by omega)
          have os : (if i = c then k else ord i) = s := by rw [if_neg (by omega)]; exact hs
          have hx2 : tW y (g_up (g_up z 112 k (nI (m + 1))) 113 c (nI k)) (fun u => if u = k then some (m + 1) else lab u) (fun j => if j = c then k else ord j) (c + 1) := by
            refine ⟨fun i h1 h2 => by rw [g_up_o h2, g_up_o h1]; exact x1 i h1 h2, fun u hu => ?_, fun j hj => ?_⟩
            · rw [g_up_o (by decide), g_up_d, if_pos rfl]
              by_cases eu : u = k
              · subst eu; simp only [↓reduceIte]; rfl
              · simp only [eu, ↓reduceIte]; exact x3 u hu
            · rw [g_up_d, if_pos rfl]
              by_cases ej : j = c
              · subst ej; simp only [↓reduceIte]
              · simp only [ej, ↓reduceIte]; rw [g_up_o (by decide)]; exact x4 j (by omega)
          obtain ⟨z', lab', ord', c', i1, i2, i3, i4, i5, i6, i7⟩ := ih (k + 1) _ _ _ (c + 1) s hx2 hb2 (by omega) os hl (by omega) (fun t ht het => by
            by_cases e : t = k
            · simp [e]
            · simp only [e, ↓reduceIte]; exact hd t (by omega) het)
          refine ⟨z', lab', ord', c', fun d K => ?_, i2, i3, i4, i5, fun u n hu => i6 u n (by
            have : ¬ u = k := fun e => by rw [e, hlk] at hu; cases hu
            simp only [this, ↓reduceIte]; exact hu), i7⟩
          rw [← i1, BX10_path_80 h.2]
          have e90 : z 112 s = nI m := by rw [x3 s hs30, hm]; rfl
          have gc : vp_in (nI c) 30 := vp_in_nI (by omega) (by decide)
          have gd : (nI c).toNatClampNeg = c := nI_clamp (by omega)
          simp +decide only [f2, f4, f5, u4, u5, e112, live_eq h hk30, z5, rs0 hR _ hk30, ck, BX10_path_103 h.2, gi, gj, e113, ho, BX10_path_119 h.2, BX10_path_143 h.2, e90, gc, gd, Option.toList_some, Option.toList_none, List.cons_append, List.nil_append, Nat.zero_add, Nat.reduceAdd, Option.some.injEq, Value.int.injEq, exists_eq_left', true_and, and_true, true_or, or_true, false_or, g_10, ↓reduceIte, nI_1]
      · refine skip (fun he => absurd he.2.1 ck) (fun d K => ?_)
        rw [BX10_path_80 h.2]
        simp +decide only [f2, f4, f5, e112, live_eq h hk30, z5, rs0 hR _ hk30, ck, BX10_path_103 h.2, Option.toList_some, Option.toList_none, List.cons_append, List.nil_append, Nat.zero_add, Nat.reduceAdd, Option.some.injEq, Value.int.injEq, exists_eq_left', true_and, and_true, true_or, or_true, false_or, g_10, ↓reduceIte, nI_1]
theorem path_out (h : gOK G) (hB : B < 1000000) (hR : wRel B σ) {y : gM} (hy : y 105 = σ 105) {R : Nat → Prop} (hRl : ∀ t, R t → t < 30 ∧ σ 11 t = 1) {va vb vf : Int32} {u : Nat} (hu : u < 30) : ∀ (rem i : Nat) (z : gM) (lab : Nat → Option Nat) (ord : Nat → Nat) (c : Nat), i + rem = 30 → tW y z lab ord c → bI R (gEd σ) lab ord c i →
    ∃ (z' : gM) (lab' : Nat → Option Nat) (ord' : Nat → Nat) (c' : Nat), (∀ (d : Nat) (w : Value) (K : gK), gw (gCm' G (d + 4)) G mX10_path K 70 [.ref 104, .int va, .int vb, .int vf, .int (nI u), .int (nI c), .int (nI i), w] [] z = K (some (.int (gAns (lab' u) (-2)))) z') ∧ tW y z' lab' ord' c' ∧ bI R (gEd σ) lab' ord' c' c' ∧ (∀ t n, lab t = some n → lab' t = some n) := by
  obtain ⟨f1, f2, f3, f4, f5⟩ := g_ix (n := 29) hu (by decide)
  intro rem
  induction rem with
  | zero =>
    intro i z lab ord c hi hx hb
    have : i = c := by have := hb.1; have := hb.2.1; omega
    subst this
    refine ⟨z, lab, ord, i, fun d w K => ?_, hx, hb, fun _ _ e => e⟩
    rw [BX10_path_70 h.2]
    simp only [show ¬ nI i < nI i from nI_nlt (Nat.le_refl _) (by omega), f4, f5, hx.2.1 u hu, Option.toList_some, Option.toList_none, List.cons_append, List.nil_append, Nat.zero_add, Nat.reduceAdd, Option.some.injEq, Value.int.injEq, exists_eq_left', true_and, and_true, true_or, or_true, false_or, g_10, ↓reduceIte]
  | succ rem ih =>
    intro i z lab ord c hi hx hb
    have c30 := hb.1
    by_cases hic : i < c
    · obtain ⟨s, hs⟩ : ∃ s, s = ord i := ⟨_, rfl⟩
      obtain ⟨hs30, m, hm, -⟩ := hb.2.2.1 i hic
      rw [← hs] at hs30 hm
      have hlv : σ 11 s = 1 := by
        rcases (hb.2.2.2.2.1 s m hm).2 with ⟨-, w⟩ | ⟨p, m', -, w, -⟩
        · exact (hRl s w).2
        · exact w.2.1
      obtain ⟨z', lab', ord', c', i1, i2, i3, i4, i5, i6, i7⟩ := path_in h hB hR hy (R := R) (i := i) (va := .int va) (vb := .int vb) (vf := .int vf) (vt := .int (nI u)) ⟨_, rfl⟩ ⟨_, rfl⟩ ⟨_, rfl⟩ ⟨_, rfl⟩ 30 0 z lab ord c s hx hb hic hs.symm hlv (by omega) (fun t ht => by omega)
      have hb2 := bI_next i3 i4 (fun t ht => by
        rw [i5] at ht
        exact i7 t ht.1 ht)
      obtain ⟨z2, lab2, ord2, c2, j1, j2, j3, j4⟩ := ih (i + 1) z' lab' ord' c' (by omega) i2 hb2
      refine ⟨z2, lab2, ord2, c2, fun d w K => ?_, j2, j3, fun t n ht => j4 t n (i6 t n ht)⟩
      rw [BX10_path_70 h.2]
      simp only [show nI i < nI c from nI_lt hic (by omega), Option.toList_some, Option.toList_none, List.cons_append, List.nil_append, Nat.zero_add, Nat.reduceAdd, Option.some.injEq, Value.int.injEq, exists_eq_left', true_and, and_true, true_or, or_true, false_or, g_10, ↓reduceIte]
      rw [show (0 : Int32) = nI 0 from rfl, i1, BX10_path_80 h.2]
      simp only [show ¬ nI 30 < 30 by decide, Option.toList_some, Option.toList_none, List.cons_append, List.nil_append, Nat.zero_add, Nat.reduceAdd, Option.some.injEq, Value.int.injEq, exists_eq_left', true_and, and_true, true_or, or_true, false_or, g_10, ↓reduceIte, nI_1]
      exact j1 d _ K
    · have : i = c := by have := hb.2.1; omega
      subst this
      refine ⟨z, lab, ord, i, fun d w K => ?_, hx, hb, fun _ _ e => e⟩
      rw [BX10_path_70 h.2]
      simp only [show ¬ nI i < nI i from nI_nlt (Nat.le_refl _) (by omega), f4, f5, hx.2.1 u hu, Option.toList_some, Option.toList_none, List.cons_append, List.nil_append, Nat.zero_add, Nat.reduceAdd, Option.some.injEq, Value.int.injEq, exists_eq_left', true_and, and_true, true_or, or_true, false_or, g_10, ↓reduceIte]
theorem op_path (h : gOK G) (hB : B < 1000000) (hR : wRel B σ) (a b : Int32) : gOp G (d + 5) B mX9_path mX10_path [.int a, .int b] σ := by
  unfold gOp
  rcases Classical.em (∃ s, gGood σ a s) with ⟨s, hg⟩ | hg
  case inr =>
    obtain ⟨n1, n2⟩ := good_n' h hR (not_exists.mp hg)
    rcases Classical.em (∃ s, gGood σ b s) with ⟨u, hu⟩ | hu
    · obtain ⟨y1, y2⟩ := good_y (G := G) (B := B) h hu
      simp +decide only [EX9_path, BX9_path_11, BX9_path_23, BX9_path_51, BX9_path_64, BX10_path_5, BX10_path_11, BX10_path_57, BX10_path_103, BX10_path_119, BX10_path_143, EX10_path, Option.toList_some, Option.toList_none, List.cons_append, List.nil_append, Nat.zero_add, Nat.reduceAdd, Option.some.injEq, Value.int.injEq, exists_eq_left', true_and, and_true, true_or, or_true, false_or, g_10, ↓reduceIte, h.1, h.2, hNow h, hReg h, hGrd h, hBlk h, hTgo h, hWlk h, hPln h, hTap h, hHol h, n1, n2, y1, y2, rs0 hR _ hu.1, rs1 hR _ hu.1]
      exact wRel_up hR (by omega)
    · obtain ⟨y1, y2⟩ := good_n' h hR (not_exists.mp hu)
      simp +decide only [EX9_path, BX9_path_11, BX9_path_23, BX9_path_51, BX9_path_64, BX10_path_5, BX10_path_11, BX10_path_57, BX10_path_103, BX10_path_119, BX10_path_143, EX10_path, Option.toList_some, Option.toList_none, List.cons_append, List.nil_append, Nat.zero_add, Nat.reduceAdd, Option.some.injEq, Value.int.injEq, exists_eq_left', true_and, and_true, true_or, or_true, false_or, g_10, ↓reduceIte, h.1, h.2, hNow h, hReg h, hGrd h, hBlk h, hTgo h, hWlk h, hPln h, hTap h, hHol h, n1, n2, y1, y2]
      exact wRel_up hR (by omega)
  obtain ⟨x1, x2⟩ := good_y (G := G) (B := B) h hg
  obtain ⟨hs, hl, -⟩ := id hg
  have sm := g_m1 (j := s) (by omega)
  have sn : ¬ nI s < 0 := nI_pos (by omega)
  rcases Classical.em (∃ s, gGood σ b s) with ⟨u, hgu⟩ | hgu
  case inr =>
    obtain ⟨y1, y2⟩ := good_n' h hR (not_exists.mp hgu)
    simp +decide only [EX9_path, BX9_path_11, BX9_path_23, BX9_path_51, BX9_path_64, BX10_path_5, BX10_path_11, BX10_path_57, BX10_path_103, BX10_path_119, BX10_path_143, EX10_path, Option.toList_some, Option.toList_none, List.cons_append, List.nil_append, Nat.zero_add, Nat.reduceAdd, Option.some.injEq, Value.int.injEq, exists_eq_left', true_and, and_true, true_or, or_true, false_or, g_10, ↓reduceIte, h.1, h.2, hNow h, hReg h, hGrd h, hBlk h, hTgo h, hWlk h, hPln h, hTap h, hHol h, x1, x2, y1, y2, rs0 hR _ hs, rs1 hR _ hs, sm, sn]
    exact wRel_up hR (by omega)
  obtain ⟨y1, y2⟩ := good_y (G := G) (B := B) h hgu
  obtain ⟨hu, hlu, -⟩ := id hgu
  have um := g_m1 (j := u) (by omega)
  have un : ¬ nI u < 0 := nI_pos (by omega)
  obtain ⟨f1, f2, f3, f4, f5⟩ := g_ix (n := 29) hu (by decide)
  obtain ⟨v1, v2, v3, v4, v5⟩ := g_ix (n := 29) hs (by decide)
  obtain ⟨x, lab, ord, c, i1, i2, i3, i4⟩ := from_sp (G := G) h hB hR hs hl
  have xo := i2.1
  have x5 : x 105 = σ 105 := xo 105 (by decide) (by decide) (by decide)
  obtain ⟨z, hz⟩ : ∃ z, z = g_up (g_up (g_fl x 112 0 30 (-2)) 112 s 0) 113 0 (nI s) := ⟨_, rfl⟩
  have hx2 : tW x z (fun t => if t = s then some 0 else none) (fun j => if j = 0 then s else 0) 1 := by
    refine ⟨fun i h1 h2 => by rw [hz, g_up_o h2, g_up_o h1, g_fl_o h1], fun t ht => ?_, fun j hj => ?_⟩
    · rw [hz, g_up_o (by decide), g_up_d, if_pos rfl, g_fl_d, if_pos rfl, if_pos (show 0 ≤ t ∧ t < 0 + 30 by omega)]
      by_cases e : t = s
      · simp only [e, ↓reduceIte]; rfl
      · simp only [e, ↓reduceIte]; rfl
    · have : j = 0 := by omega
      subst this
      rw [hz, g_up_3]; rfl
  have hb : bI (fun t => t = s) (gEd σ) (fun u => if u = s then some 0 else none) (fun j => if j = 0 then s else 0) 1 0 := by
    refine ⟨by omega, by omega, fun j hj => ?_, fun j k h1 h2 => by omega, fun t n ht => ?_, fun j hj => by omega, fun t n ht _ => ?_⟩
    · have : j = 0 := by omega
      subst this; simp only [↓reduceIte]; exact ⟨hs, 0, rfl, by omega⟩
    · by_cases e : t = s
      · subst e; simp only [↓reduceIte, Option.some.injEq] at ht
        exact ⟨⟨0, by omega, by simp⟩, Or.inl ⟨ht.symm, rfl⟩⟩
      · simp [e] at ht
    · by_cases e : t = s
      · subst e; simp only [↓reduceIte, Option.some.injEq] at ht
        simp only [↓reduceIte]
        exact ⟨0, rfl, by omega⟩
      · simp [e] at ht
  obtain ⟨z', lab', ord', c', j1, j2, j3, j4⟩ := path_out (G := G) h hB hR x5 (R := fun t => t = s) (fun t ht => by subst ht; exact ⟨hs, hl⟩) (va := a) (vb := b) (vf := nI s) hu 30 0 z _ _ 1 (by omega) hx2 hb
  have hF := bI_end j3 (fun t ht => j4 t 0 (by simp [ht]))
  have hlab : lab' u = lab u := bF_u hF i3 u
  have e90 : x 90 u = gAns (lab u) (-1) := i2.2.2.1 u hu
  have nin : ∀ (d : Nat) (K : gK) (y : gM), g_inv (gCm' G (d + 1)) mX9_notIfNone [.int (gAns (lab u) (-1))] y K = K (some (.int (gAns (lab u) (-2)))) y := fun d K y => by
    cases e : lab u with
    | none => simp +decide only [EX9_notIfNone, gAns, Option.toList_some, Option.toList_none, List.cons_append, List.nil_append, Nat.zero_add, Nat.reduceAdd, Option.some.injEq, Value.int.injEq, exists_eq_left', true_and, and_true, true_or, or_true, false_or, g_10, ↓reduceIte]
    | some n =>
      have := g_m1 (j := n) (by have := i4 u n e; omega)
      simp +decide only [EX9_notIfNone, gAns, this, Option.toList_some, Option.toList_none, List.cons_append, List.nil_append, Nat.zero_add, Nat.reduceAdd, Option.some.injEq, Value.int.injEq, exists_eq_left', true_and, and_true, true_or, or_true, false_or, g_10, ↓reduceIte]
  have i1 : ∀ (d : Nat) (K : gK), g_inv (gCm' G (d + 4)) mX8_from [.ref 89, .ref 1, .int (nI s)] σ K = K none x := i1
  have lp : ∀ K : gK, gw (gCm' G (d + 4)) G mX10_path K 28 [.ref 104, .int a, .int b, .int (nI s), .int (nI u), .int 0, .long 0, .long 0] [] x = K (some (.int (gAns (lab u) (-2)))) z' := fun K => by
    have : ∀ k, k ≤ 30 → gw (gCm' G (d + 4)) G mX10_path K 28 [.ref 104, .int a, .int b, .int (nI s), .int (nI u), .int 0, .long 0, .long 0] [] x = gw (gCm' G (d + 4)) G mX10_path K 28 [.ref 104, .int a, .int b, .int (nI s), .int (nI u), .int (nI k), .long 0, .long 0] [] (gFold (fun i (y : gM) => g_up y 112 (0 + i) (-2)) k x) := by
      intro k
      induction k with
      | zero => intro _; rfl
      | succ k ih =>
        intro hk
        obtain ⟨k1, k2, k3, k4, k5⟩ := g_ix (n := 29) (show k < 29 + 1 by omega) (by decide)
        have k2 : nI k < 30 := k2
        rw [ih (by omega), BX10_path_28 h.2]
        simp only [k2, k4, k5, Option.toList_some, Option.toList_none, List.cons_append, List.nil_append, Nat.zero_add, Nat.reduceAdd, Option.some.injEq, Value.int.injEq, exists_eq_left', true_and, and_true, true_or, or_true, false_or, g_10, ↓reduceIte, nI_1]
        rfl
    rw [this 30 (Nat.le_refl _), gFold_fl, BX10_path_28 h.2]
    have v0 : vp_in 0 30 := vp_in_nI (n := 0) (N := 30) (by decide) (by decide)
    simp +decide only [show ¬ nI 30 < 30 by decide, v4, v5, BX10_path_57 h.2, v0, show (0 : Int32).toNatClampNeg = 0 from rfl, Option.toList_some, Option.toList_none, List.cons_append, List.nil_append, Nat.zero_add, Nat.reduceAdd, Option.some.injEq, Value.int.injEq, exists_eq_left', true_and, and_true, true_or, or_true, false_or, g_10, ↓reduceIte]
    rw [← hz]
    have j1 := j1 d (.long 0) K
    rw [hlab] at j1
    exact j1
  have yg : ∀ (d : Nat) (K : gK), g_inv (gCm' G (d + 3)) mX10_good [.ref 104, .int a] x K = K (some (.int (nI s))) x := fun d K => x2 _ _ _ (by rw [x5]; exact rs0 hR _ hs) (by rw [x5]; exact rs1 hR _ hs)
  have yh : ∀ (d : Nat) (K : gK), g_inv (gCm' G (d + 3)) mX10_good [.ref 104, .int b] x K = K (some (.int (nI u))) x := fun d K => y2 _ _ _ (by rw [x5]; exact rs0 hR _ hu) (by rw [x5]; exact rs1 hR _ hu)
  simp +decide only [EX9_path h.1, BX9_path_11 h.1, BX9_path_23 h.1, BX9_path_51 h.1, BX9_path_64 h.1, EX10_path h.2, BX10_path_5 h.2, BX10_path_11 h.2, Option.toList_some, Option.toList_none, List.cons_append, List.nil_append, Nat.zero_add, Nat.reduceAdd, Option.some.injEq, Value.int.injEq, exists_eq_left', true_and, and_true, true_or, or_true, false_or, g_10, ↓reduceIte, h.1, h.2, hNow h, hReg h, hGrd h, hBlk h, hTgo h, hWlk h, hPln h, hTap h, hHol h, x1, y1, sm, um, sn, un, i1, f4, f5, e90, nin, yg, yh, lp]
  have zo : ∀ i, i ≠ 112 → i ≠ 113 → i ≠ 89 → i ≠ 90 → i ≠ 91 → z' i = σ i := fun i h1 h2 h3 h4 h5 => by rw [j2.1 i h1 h2]; exact xo i h3 h4 h5
  refine wRel_sc hR (by omega) (fun i h1 h2 => zo i (by omega) (by omega) (by omega) (by omega) (by omega)) (zo 105 (by decide) (by decide) (by decide) (by decide) (by decide)) (fun i hi => ?_) ?_ ?_ ?_
  · unfold gRl at hi; exact zo i (by omega) (by omega) (by omega) (by omega) (by omega)
  · rw [zo 95 (by decide) (by decide) (by decide) (by decide) (by decide)]
  · rw [zo 104 (by decide) (by decide) (by decide) (by decide) (by decide)]
  · rw [zo 104 (by decide) (by decide) (by decide) (by decide) (by decide)]
end O41
