section O40
variable {G : gG} {d B : Nat} {σ : gM} {K : gK}
theorem goOn_sp (h : gOK G) (hB : B < 1000000) (hR : wRel B σ) {R : Nat → Prop} (hRl : ∀ t, R t → t < 30 ∧ σ 11 t = 1) : ∀ (rem i : Nat) (x : gM) (lab : Nat → Option Nat) (ord : Nat → Nat) (c : Nat), i + rem = 30 → cW σ x lab ord c → bI R (gEd σ) lab ord c i →
    ∃ (x' : gM) (lab' : Nat → Option Nat) (ord' : Nat → Nat) (c' : Nat), (∀ (d : Nat) (w3 w4 w5 w6 : Value) (K : gK), gw (gCm' G (d + 2)) G mX8_goOn K 2 [.ref 89, .ref 1, .int (nI i), w3, w4, w5, w6] [] x = K none x') ∧ cW σ x' lab' ord' c' ∧ bI R (gEd σ) lab' ord' c' c' ∧ (∀ t n, lab t = some n → lab' t = some n) := by
  intro rem
  induction rem with
  | zero =>
    intro i x lab ord c hi hx hb
    have : i = c := by have := hb.1; have := hb.2.1; omega
    subst this
    have : i = 30 := by omega
    subst this
    refine ⟨x, lab, ord, 30, fun d w3 w4 w5 w6 K => ?_, hx, hb, fun _ _ e => e⟩
    rw [BX8_goOn_2 (hWlk h) (hNow h)]
    simp only [show ¬ nI 30 < 30 by decide, Option.toList_some, Option.toList_none, List.cons_append, List.nil_append, Nat.zero_add, Nat.reduceAdd, Option.some.injEq, Value.int.injEq, exists_eq_left', true_and, and_true, true_or, or_true, false_or, g_10, ↓reduceIte]
  | succ rem ih =>
    intro i x lab ord c hi hx hb
    have g1 : nI i < 30 := nI_lt (b := 30) (by omega) (by decide)
    have c30 := hb.1
    by_cases hic : i < c
    · obtain ⟨x1, x2, x3, x4⟩ := id hx
      obtain ⟨s, hs⟩ : ∃ s, s = ord i := ⟨_, rfl⟩
      obtain ⟨hs30, m, hm, -⟩ := hb.2.2.1 i hic
      rw [← hs] at hs30 hm
      have hlv : σ 11 s = 1 := by
        rcases (hb.2.2.2.2.1 s m hm).2 with ⟨-, w⟩ | ⟨p, m', -, w, -⟩
        · exact (hRl s w).2
        · exact w.2.1
      obtain ⟨l, q, r, o, p, b1, b2, b3, b4, b5, b6, b7, b8, -⟩ := rBlk hR hs30 (by rw [hlv]; decide)
      obtain ⟨x', lab', ord', c', i1, i2, i3, i4, i5, i6, i7⟩ := goOn_in h hB hR (R := R) (i := i) q 0 x lab ord c s l q hx hb hic hs.symm b1 b2 b8 (by omega) (fun k' hk' => by omega)
      have hb2 := bI_next i3 i4 (fun t ht => by
        rw [i5] at ht
        obtain ⟨t1, t2, k, t3, t4⟩ := ht
        rw [b2, gN_nI (by omega)] at t3
        rw [b1, gN_nI (by omega)] at t4
        exact i7 k t3 t ((good_iff hB hR).mpr ⟨t1, t2, t4⟩))
      obtain ⟨x2', lab2, ord2, c2, j1, j2, j3, j4⟩ := ih (i + 1) x' lab' ord' c' (by omega) i2 hb2
      refine ⟨x2', lab2, ord2, c2, fun d w3 w4 w5 w6 K => ?_, j2, j3, fun t n ht => j4 t n (i6 t n ht)⟩
      obtain ⟨f1, f2, f3, f4, f5⟩ := g_ix (n := 29) hs30 (by decide)
      have g2 : nI i < nI c := nI_lt hic (by omega)
      have g3 : vp_in (nI i) 30 := vp_in_nI (by omega) (by decide)
      have g4 : (nI i).toNatClampNeg = i := nI_clamp (by omega)
      obtain ⟨w', i1⟩ := i1 d w6 K
      have e12 : x 12 s = nI l := by rw [x1 12 (by decide) (by decide) (by decide)]; exact b1
      have e13 : x' 13 s = nI q := by rw [i2.1 13 (by decide) (by decide) (by decide)]; exact b2
      rw [BX8_goOn_2 (hWlk h) (hNow h)]
      simp only [g1, g2, g3, g4, x2, x4 i hic, ← hs, f4, f5, e12, Option.toList_some, Option.toList_none, List.cons_append, List.nil_append, Nat.zero_add, Nat.reduceAdd, Option.some.injEq, Value.int.injEq, exists_eq_left', true_and, and_true, true_or, or_true, false_or, g_10, ↓reduceIte]
      rw [show nI l = nI (l + 0) from rfl] at i1 ⊢
      rw [i1, BX8_goOn_38 (hWlk h) (hNow h)]
      simp only [f4, f5, e13, nI_add, Nat.add_zero, show ¬ nI (l + q) < nI (l + q) from nI_nlt (Nat.le_refl _) (by omega), Option.toList_some, Option.toList_none, List.cons_append, List.nil_append, Nat.zero_add, Nat.reduceAdd, Option.some.injEq, Value.int.injEq, exists_eq_left', true_and, and_true, true_or, or_true, false_or, g_10, ↓reduceIte, nI_1]
      exact j1 d _ _ _ _ K
    · have : i = c := by have := hb.2.1; omega
      subst this
      refine ⟨x, lab, ord, i, fun d w3 w4 w5 w6 K => ?_, hx, hb, fun _ _ e => e⟩
      rw [BX8_goOn_2 (hWlk h) (hNow h)]
      simp only [g1, hx.2.1, show ¬ nI i < nI i from nI_nlt (Nat.le_refl _) (by omega), Option.toList_some, Option.toList_none, List.cons_append, List.nil_append, Nat.zero_add, Nat.reduceAdd, Option.some.injEq, Value.int.injEq, exists_eq_left', true_and, and_true, true_or, or_true, false_or, g_10, ↓reduceIte]
theorem begin_sp (h : gOK G) : ∃ x : gM, (∀ d K, g_inv (gCm' G (d + 2)) mX8_begin [.ref 89] σ K = K none x) ∧ cW σ x (fun _ => none) (fun _ => 0) 0 := by
  refine ⟨g_up (g_fl σ 90 0 30 (-1)) 89 2 0, fun d K => ?_, fun i h1 h2 h3 => by rw [g_up_o h1, g_fl_o h2], g_up_3, fun t ht => ?_, fun j hj => by omega⟩
  · have := fun (K : gK) => fill_eq (G := G) (d := d) (K := K) (σ := σ) (a := 90) (n0 := 30) (l := 0) (n := 30) (v := -1) (aX8_0 (hWlk h)) (nX8_0 (hWlk h)) (by decide) (by decide)
    have := fun (K : gK) => (show g_inv (gCm' G (d + 1)) mX9_fill [.ref 90, .int 0, .int 30, .int (-1)] σ K = K none (g_fl σ 90 0 30 (-1)) from this K)
    simp only [EX8_begin, BX8_begin_11, hWlk h, this, Option.toList_some, Option.toList_none, List.cons_append, List.nil_append, Nat.zero_add, Nat.reduceAdd, Option.some.injEq, Value.int.injEq, exists_eq_left', true_and, and_true, true_or, or_true, false_or, g_10, ↓reduceIte]
  · rw [g_up_o (by decide), g_fl_d, if_pos rfl, if_pos (by omega)]; rfl
def gRt (σ : gM) (t : Nat) : Prop := t < 30 ∧ σ 11 t = 1 ∧ (σ 17 t ≠ -1 ∨ 0 < σ 16 t)
theorem tagsPins_sp (h : gOK G) (hB : B < 1000000) (hR : wRel B σ) : ∃ (x : gM) (lab : Nat → Option Nat) (ord : Nat → Nat) (c : Nat), (∀ d K, g_inv (gCm' G (d + 4)) mX8_fromTagsAndPins [.ref 89, .ref 1] σ K = K none x) ∧ cW σ x lab ord c ∧ bF (gRt σ) (gEd σ) lab ∧ ∀ t n, lab t = some n → n ≤ 30 := by
  obtain ⟨y, y1, y2⟩ := begin_sp (G := G) (σ := σ) h
  have key : ∀ k, k ≤ 30 → ∃ (x : gM) (lab : Nat → Option Nat) (ord : Nat → Nat) (c : Nat), (∀ d K, gw (gCm' G (d + 3)) G mX8_fromTagsAndPins K 6 [.ref 89, .ref 1, .int 0] [] y = gw (gCm' G (d + 3)) G mX8_fromTagsAndPins K 6 [.ref 89, .ref 1, .int (nI k)] [] x) ∧ cW σ x lab ord c ∧ bI (gRt σ) (gEd σ) lab ord c 0 ∧ (∀ t n, lab t = some n → n = 0 ∧ t < k) ∧ (∀ t, t < k → gRt σ t → lab t = some 0) := by
    intro k
    induction k with
    | zero =>
      intro _
      refine ⟨y, _, _, 0, fun _ _ => rfl, y2, ⟨by omega, by omega, fun j hj => by omega, fun j k h1 h2 => by omega, fun t n ht => (by cases ht), fun j hj => by omega, fun t n ht => (by cases ht)⟩, fun t n ht => (by cases ht), fun t ht => by omega⟩
    | succ k ih =>
      intro hk
      obtain ⟨x, lab, ord, c, i1, i2, i3, i4, i5⟩ := ih (by omega)
      obtain ⟨x1, x2, x3, x4⟩ := id i2
      obtain ⟨f1, f2, f3, f4, f5⟩ := g_ix (n := 29) (show k < 29 + 1 by omega) (by decide)
      have f2 : nI k < 30 := f2
      have e11 : x 11 k = σ 11 k := by rw [x1 11 (by decide) (by decide) (by decide)]
      have e16 : x 16 k = σ 16 k := by rw [x1 16 (by decide) (by decide) (by decide)]
      have e17 : x 17 k = σ 17 k := by rw [x1 17 (by decide) (by decide) (by decide)]
      have hn : lab k = none := by
        cases e : lab k with
        | none => rfl
        | some n => have := (i4 k n e).2; omega
      by_cases hr : gRt σ k
      · obtain ⟨z, z1, z2⟩ := come_y (G := G) (n := 0) h i2 (by omega) hn (bI_lt i3 (by omega) hn)
        refine ⟨z, _, _, c + 1, fun d K => ?_, z2, bI_push i3 (by omega) hn (by omega) (Or.inl ⟨rfl, hr⟩) (fun u m hu => by rw [(i4 u m hu).1]; exact Nat.le_refl _) (fun hc => ?_) (fun _ => rfl), fun t n ht => ?_, fun t ht hrt => ?_⟩
        · rw [i1, BX8_fromTagsAndPins_6 (hWlk h) (hNow h)]
          obtain ⟨-, r2, r3⟩ := hr
          have z1 : ∀ (d : Nat) (K : gK), g_inv (gCm' G (d + 1)) mX8_comeTo [.ref 89, .int (nI k), .int 0] x K = K none z := z1
          by_cases c1 : σ 17 k = -1
          · have c2 := r3.resolve_left (fun e => e c1)
            simp only [f2, f4, f5, e11, e16, e17, r2, c1, c2, BX8_fromTagsAndPins_53 (hWlk h) (hNow h), BX8_fromTagsAndPins_59 (hWlk h) (hNow h), z1, Option.toList_some, Option.toList_none, List.cons_append, List.nil_append, Nat.zero_add, Nat.reduceAdd, Option.some.injEq, Value.int.injEq, exists_eq_left', true_and, and_true, true_or, or_true, false_or, g_10, ↓reduceIte, nI_1]
          · simp only [f2, f4, f5, e11, e16, e17, r2, c1, BX8_fromTagsAndPins_53 (hWlk h) (hNow h), BX8_fromTagsAndPins_59 (hWlk h) (hNow h), z1, Option.toList_some, Option.toList_none, List.cons_append, List.nil_append, Nat.zero_add, Nat.reduceAdd, Option.some.injEq, Value.int.injEq, exists_eq_left', true_and, and_true, true_or, or_true, false_or, g_10, ↓reduceIte, nI_1]
        · obtain ⟨-, n, w, -⟩ := i3.2.2.1 0 hc
          exact ⟨n, w, by omega⟩
        · by_cases e : t = k
          · subst e; simp only [↓reduceIte, Option.some.injEq] at ht; exact ⟨ht.symm, by omega⟩
          · simp only [e, ↓reduceIte] at ht
            have := i4 t n ht; exact ⟨this.1, by omega⟩
        · by_cases e : t = k
          · subst e; simp only [↓reduceIte]
          · simp only [e, ↓reduceIte]; exact i5 t (by omega) hrt
      · refine ⟨x, lab, ord, c, fun d K => ?_, i2, i3, fun t n ht => ⟨(i4 t n ht).1, by have := (i4 t n ht).2; omega⟩, fun t ht hrt => ?_⟩
        · rw [i1, BX8_fromTagsAndPins_6 (hWlk h) (hNow h)]
          by_cases c0 : σ 11 k = 1
          · have c1 : σ 17 k = -1 := by
              rcases Classical.em (σ 17 k = -1) with z | z
              · exact z
              · exact absurd ⟨by omega, c0, Or.inl z⟩ hr
            have c2 : ¬ 0 < σ 16 k := fun z => hr ⟨by omega, c0, Or.inr z⟩
            simp only [f2, f4, f5, e11, e16, e17, c0, c1, c2, BX8_fromTagsAndPins_59 (hWlk h) (hNow h), Option.toList_some, Option.toList_none, List.cons_append, List.nil_append, Nat.zero_add, Nat.reduceAdd, Option.some.injEq, Value.int.injEq, exists_eq_left', true_and, and_true, true_or, or_true, false_or, g_10, ↓reduceIte, nI_1]
          · simp only [f2, f4, f5, e11, c0, BX8_fromTagsAndPins_59 (hWlk h) (hNow h), Option.toList_some, Option.toList_none, List.cons_append, List.nil_append, Nat.zero_add, Nat.reduceAdd, Option.some.injEq, Value.int.injEq, exists_eq_left', true_and, and_true, true_or, or_true, false_or, g_10, ↓reduceIte, nI_1]
        · by_cases e : t = k
          · subst e; exact absurd hrt hr
          · exact i5 t (by omega) hrt
  obtain ⟨x, lab, ord, c, i1, i2, i3, i4, i5⟩ := key 30 (Nat.le_refl _)
  obtain ⟨x', lab', ord', c', j1, j2, j3, j4⟩ := goOn_sp h hB hR (R := gRt σ) (fun t ht => ⟨ht.1, ht.2.1⟩) 30 0 x lab ord c (by omega) i2 i3
  refine ⟨x', lab', ord', c', fun d K => ?_, j2, bI_end j3 (fun t ht => j4 t 0 (i5 t ht.1 ht)), fun t n ht => (by
    obtain ⟨⟨j, hj, ej⟩, -⟩ := j3.2.2.2.2.1 t n ht
    obtain ⟨-, n', e', h'⟩ := j3.2.2.1 j hj
    rw [ej, ht] at e'; cases e'
    have := j3.1
    omega)⟩
  have j1 : ∀ (d : Nat) (w3 w4 w5 w6 : Value) (K : gK), gw (gCm' G (d + 2)) G mX8_goOn K 2 [.ref 89, .ref 1, .int 0, w3, w4, w5, w6] [] x = K none x' := j1
  rw [EX8_fromTagsAndPins (hWlk h) (hNow h)]
  simp only [y1, BX8_fromTagsAndPins_4 (hWlk h) (hNow h), Option.toList_some, Option.toList_none, List.cons_append, List.nil_append, Nat.zero_add, Nat.reduceAdd, Option.some.injEq, Value.int.injEq, exists_eq_left', true_and, and_true, true_or, or_true, false_or, g_10, ↓reduceIte]
  rw [i1, BX8_fromTagsAndPins_6 (hWlk h) (hNow h)]
  simp only [show ¬ nI 30 < 30 by decide, EX8_goOn (hWlk h) (hNow h), j1, BX8_fromTagsAndPins_70 (hWlk h) (hNow h), Option.toList_some, Option.toList_none, List.cons_append, List.nil_append, Nat.zero_add, Nat.reduceAdd, Option.some.injEq, Value.int.injEq, exists_eq_left', true_and, and_true, true_or, or_true, false_or, g_10, ↓reduceIte]
theorem from_sp (h : gOK G) (hB : B < 1000000) (hR : wRel B σ) {s : Nat} (hs : s < 30) (hl : σ 11 s = 1) : ∃ (x : gM) (lab : Nat → Option Nat) (ord : Nat → Nat) (c : Nat), (∀ d K, g_inv (gCm' G (d + 4)) mX8_from [.ref 89, .ref 1, .int (nI s)] σ K = K none x) ∧ cW σ x lab ord c ∧ bF (fun t => t = s) (gEd σ) lab ∧ ∀ t n, lab t = some n → n ≤ 30 := by
  obtain ⟨y, y1, y2⟩ := begin_sp (G := G) (σ := σ) h
  obtain ⟨z, z1, z2⟩ := come_y (G := G) (n := 0) h y2 hs rfl (by decide)
  have hb : bI (fun t => t = s) (gEd σ) (fun u => if u = s then some 0 else none) (fun j => if j = 0 then s else 0) (0 + 1) 0 := by
    refine ⟨by omega, by omega, fun j hj => ?_, fun j k h1 h2 => by omega, fun t n ht => ?_, fun j hj => by omega, fun t n ht _ => ?_⟩
    · have : j = 0 := by omega
      subst this; simp only [↓reduceIte]; exact ⟨hs, 0, rfl, by omega⟩
    · by_cases e : t = s
      · subst e; simp only [↓reduceIte, Option.some.injEq] at ht
        exact ⟨⟨0, by omega, by simp⟩, Or.inl ⟨ht.symm, rfl⟩⟩
      · simp [e] at ht
    · by_cases e : t = s
      · subst e; simp only [↓reduceIte, Option.some.injEq] at ht
        simp only [↓reduceIte]
        exact ⟨0, rfl, by omega⟩
      · simp [e] at ht
  obtain ⟨x', lab', ord', c', j1, j2, j3, j4⟩ := goOn_sp h hB hR (R := fun t => t = s) (fun t ht => by subst ht; exact ⟨hs, hl⟩) 30 0 z _ _ _ (by omega) z2 hb
  refine ⟨x', lab', ord', c', fun d K => ?_, j2, bI_end j3 (fun t ht => j4 t 0 (by simp [ht])), fun t n ht => ?_⟩
  · have j1 : ∀ (d : Nat) (w3 w4 w5 w6 : Value) (K : gK), gw (gCm' G (d + 2)) G mX8_goOn K 2 [.ref 89, .ref 1, .int 0, w3, w4, w5, w6] [] z = K none x' := j1
    have z1 : ∀ (d : Nat) (K : gK), g_inv (gCm' G (d + 1)) mX8_comeTo [.ref 89, .int (nI s), .int 0] y K = K none z := z1
    rw [EX8_from (hWlk h) (hNow h)]
    simp only [y1, BX8_from_4 (hWlk h) (hNow h), z1, BX8_from_10 (hWlk h) (hNow h), EX8_goOn (hWlk h) (hNow h), j1, BX8_from_15 (hWlk h) (hNow h), Option.toList_some, Option.toList_none, List.cons_append, List.nil_append, Nat.zero_add, Nat.reduceAdd, Option.some.injEq, Value.int.injEq, exists_eq_left', true_and, and_true, true_or, or_true, false_or, g_10, ↓reduceIte]
  · obtain ⟨⟨j, hj, ej⟩, -⟩ := j3.2.2.2.2.1 t n ht
    obtain ⟨-, n', e', h'⟩ := j3.2.2.1 j hj
    rw [ej, ht] at e'; cases e'
    have := j3.1
    omega
end O40
