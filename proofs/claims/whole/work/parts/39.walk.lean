/-- what is come to from R by ways of E -/
def rch (R : Nat → Prop) (E : Nat → Nat → Prop) (t : Nat) : Prop := ∀ P : Nat → Prop, (∀ t, R t → P t) → (∀ p t, P p → E p t → P t) → P t
theorem rch_r {R : Nat → Prop} {E : Nat → Nat → Prop} {t : Nat} (h : R t) : rch R E t := fun _ h1 _ => h1 t h
theorem rch_e {R : Nat → Prop} {E : Nat → Nat → Prop} {p t : Nat} (h : rch R E p) (he : E p t) : rch R E t := fun P h1 h2 => h2 p t (h P h1 h2) he
/-- a walk, the nearest first -/
def bI (R : Nat → Prop) (E : Nat → Nat → Prop) (lab : Nat → Option Nat) (ord : Nat → Nat) (c i : Nat) : Prop := c ≤ 30 ∧ i ≤ c ∧
  (∀ j, j < c → ord j < 30 ∧ ∃ n, lab (ord j) = some n ∧ n ≤ j) ∧
  (∀ j k, j < k → k < c → ord j ≠ ord k ∧ ∃ m n, lab (ord j) = some m ∧ lab (ord k) = some n ∧ m ≤ n) ∧
  (∀ t n, lab t = some n → (∃ j, j < c ∧ ord j = t) ∧ (n = 0 ∧ R t ∨ ∃ p m, lab p = some m ∧ E p t ∧ n = m + 1)) ∧
  (∀ j, j < i → ∀ t, E (ord j) t → ∃ m n, lab (ord j) = some m ∧ lab t = some n ∧ n ≤ m + 1) ∧
  (∀ t n, lab t = some n → i < c → ∃ m, lab (ord i) = some m ∧ n ≤ m + 1)
theorem bI_lt {R : Nat → Prop} {E : Nat → Nat → Prop} {lab : Nat → Option Nat} {ord : Nat → Nat} {c i t : Nat} (h : bI R E lab ord c i) (ht : t < 30) (hn : lab t = none) : c < 30 := by
  obtain ⟨h1, h2, h3, h4, h5, h6, h7⟩ := h
  refine ord_lt (t := ord) ht (fun k hk => (h3 k hk).1) (fun k j hkj hj => (h4 k j hkj hj).1) (fun k hk e => ?_)
  obtain ⟨-, n, e2, -⟩ := h3 k hk
  rw [e, hn] at e2; cases e2
/-- one more slot is come to, with n ways -/
theorem bI_push {R : Nat → Prop} {E : Nat → Nat → Prop} {lab : Nat → Option Nat} {ord : Nat → Nat} {c i t n : Nat} (h : bI R E lab ord c i) (ht : t < 30) (hn : lab t = none) (hnc : n ≤ c) (hw : n = 0 ∧ R t ∨ ∃ p m, lab p = some m ∧ E p t ∧ n = m + 1) (hmx : ∀ u m, lab u = some m → m ≤ n) (hi : i < c → ∃ m, lab (ord i) = some m ∧ n ≤ m + 1) (hic : i = c → n = 0) : bI R E (fun u => if u = t then some n else lab u) (fun j => if j = c then t else ord j) (c + 1) i := by
  have hc := bI_lt h ht hn
  obtain ⟨h1, h2, h3, h4, h5, h6, h7⟩ := h
  have ot : ∀ k, k < c → ord k ≠ t := fun k hk e => by
    obtain ⟨-, n, e2, -⟩ := h3 k hk
    rw [e, hn] at e2; cases e2
  refine ⟨by omega, by omega, fun j hj => ?_, fun j k hjk hk => ?_, fun u m hu => ?_, fun j hj u hu => ?_, fun u m hu hi2 => ?_⟩
  · by_cases e : j = c
    · subst e; simp only [↓reduceIte]; exact ⟨ht, n, rfl, hnc⟩
    · simp only [e, ↓reduceIte, ot j (by omega)]; exact h3 j (by omega)
  · have e1 : ¬ j = c := by omega
    by_cases e : k = c
    · subst e
      simp only [e1, ↓reduceIte, ot j (by omega)]
      obtain ⟨-, m, e2, -⟩ := h3 j (by omega)
      exact ⟨ot j (by omega), m, n, e2, rfl, hmx _ _ e2⟩
    · simp only [e1, e, ↓reduceIte, ot j (by omega), ot k (by omega)]; exact h4 j k hjk (by omega)
  · by_cases e : u = t
    · subst e
      simp only [↓reduceIte, Option.some.injEq] at hu
      subst hu
      refine ⟨⟨c, by omega, by simp⟩, ?_⟩
      rcases hw with hw | ⟨p, m, w1, w2, w3⟩
      · exact Or.inl hw
      · have : ¬ p = u := fun z => by rw [z, hn] at w1; cases w1
        exact Or.inr ⟨p, m, by simp only [this, ↓reduceIte]; exact w1, w2, w3⟩
    · simp only [e, ↓reduceIte] at hu
      obtain ⟨⟨j, hj, ej⟩, w⟩ := h5 u m hu
      refine ⟨⟨j, by omega, by have : ¬ j = c := by omega
                               simp only [this, ↓reduceIte]; exact ej⟩, ?_⟩
      rcases w with w | ⟨p, m', w1, w2, w3⟩
      · exact Or.inl w
      · have : ¬ p = t := fun z => by rw [z, hn] at w1; cases w1
        exact Or.inr ⟨p, m', by simp only [this, ↓reduceIte]; exact w1, w2, w3⟩
  · have e1 : ¬ j = c := by omega
    simp only [e1, ↓reduceIte] at hu ⊢
    obtain ⟨a, b, w1, w2, w3⟩ := h6 j hj u hu
    have e2 : ¬ u = t := fun z => by rw [z, hn] at w2; cases w2
    simp only [e2, ot j (by omega), ↓reduceIte]
    exact ⟨a, b, w1, w2, w3⟩
  · by_cases eic : i = c
    · subst eic
      have hn0 := hic rfl
      simp only [↓reduceIte]
      refine ⟨n, rfl, ?_⟩
      by_cases e : u = t
      · subst e; simp only [↓reduceIte, Option.some.injEq] at hu; omega
      · simp only [e, ↓reduceIte] at hu
        have := hmx u m hu; omega
    · simp only [eic, ↓reduceIte, ot i (by omega)]
      by_cases e : u = t
      · subst e; simp only [↓reduceIte, Option.some.injEq] at hu
        obtain ⟨m', w1, w2⟩ := hi (by omega)
        exact ⟨m', w1, by omega⟩
      · simp only [e, ↓reduceIte] at hu
        exact h7 u m hu (by omega)
theorem bI_next {R : Nat → Prop} {E : Nat → Nat → Prop} {lab : Nat → Option Nat} {ord : Nat → Nat} {c i : Nat} (h : bI R E lab ord c i) (hi : i < c) (hc : ∀ t, E (ord i) t → lab t ≠ none) : bI R E lab ord c (i + 1) := by
  obtain ⟨h1, h2, h3, h4, h5, h6, h7⟩ := h
  refine ⟨h1, by omega, h3, h4, h5, fun j hj t ht => ?_, fun u m hu hi2 => ?_⟩
  · by_cases e : j = i
    · subst e
      cases hl : lab t with
      | none => exact absurd hl (hc t ht)
      | some n =>
        obtain ⟨m, w1, w2⟩ := h7 t n hl hi
        exact ⟨m, n, w1, rfl, w2⟩
    · exact h6 j (by omega) t ht
  · obtain ⟨m', w1, w2⟩ := h7 u m hu hi
    obtain ⟨-, a, b, v1, v2, v3⟩ := h4 i (i + 1) (by omega) hi2
    rw [w1] at v1; cases v1
    exact ⟨b, v2, by omega⟩
/-- what a walk ends with -/
def bF (R : Nat → Prop) (E : Nat → Nat → Prop) (lab : Nat → Option Nat) : Prop := (∀ t, R t → lab t = some 0) ∧ (∀ t n, lab t = some n → n = 0 ∧ R t ∨ ∃ p m, lab p = some m ∧ E p t ∧ n = m + 1) ∧ ∀ p m t, lab p = some m → E p t → ∃ n, lab t = some n ∧ n ≤ m + 1
theorem bI_end {R : Nat → Prop} {E : Nat → Nat → Prop} {lab : Nat → Option Nat} {ord : Nat → Nat} {c : Nat} (h : bI R E lab ord c c) (hr : ∀ t, R t → lab t = some 0) : bF R E lab := by
  obtain ⟨h1, h2, h3, h4, h5, h6, h7⟩ := h
  refine ⟨hr, fun t n ht => (h5 t n ht).2, fun p m t hp he => ?_⟩
  obtain ⟨⟨j, hj, ej⟩, -⟩ := h5 p m hp
  obtain ⟨a, b, w1, w2, w3⟩ := h6 j hj t (by rw [ej]; exact he)
  rw [ej, hp] at w1; cases w1
  exact ⟨b, w2, w3⟩
theorem bF_le {R : Nat → Prop} {E : Nat → Nat → Prop} {lab lab' : Nat → Option Nat} (h : bF R E lab) (h' : bF R E lab') : ∀ n t, lab t = some n → ∃ n', lab' t = some n' ∧ n' ≤ n := by
  intro n
  induction n with
  | zero =>
    intro t ht
    rcases h.2.1 t 0 ht with ⟨-, w⟩ | ⟨p, m, -, -, w⟩
    · exact ⟨0, h'.1 t w, Nat.le_refl _⟩
    · omega
  | succ n ih =>
    intro t ht
    rcases h.2.1 t _ ht with ⟨w, -⟩ | ⟨p, m, w1, w2, w3⟩
    · omega
    · obtain ⟨a, v1, v2⟩ := ih p (by rw [w1]; congr 1; omega)
      obtain ⟨b, u1, u2⟩ := h'.2.2 p a t v1 w2
      exact ⟨b, u1, by omega⟩
theorem bF_u {R : Nat → Prop} {E : Nat → Nat → Prop} {lab lab' : Nat → Option Nat} (h : bF R E lab) (h' : bF R E lab') (t : Nat) : lab t = lab' t := by
  cases e : lab t with
  | none =>
    cases e' : lab' t with
    | none => rfl
    | some n =>
      obtain ⟨a, w, -⟩ := bF_le h' h n t e'
      rw [e] at w; cases w
  | some n =>
    obtain ⟨a, w, w2⟩ := bF_le h h' n t e
    obtain ⟨b, v, v2⟩ := bF_le h' h a t w
    rw [e] at v; cases v
    rw [w, show a = n by omega]
theorem bF_rch {R : Nat → Prop} {E : Nat → Nat → Prop} {lab : Nat → Option Nat} (h : bF R E lab) (t : Nat) : lab t ≠ none ↔ rch R E t := by
  constructor
  · intro hl
    have : ∀ n t, lab t = some n → rch R E t := by
      intro n
      induction n with
      | zero =>
        intro t ht
        rcases h.2.1 t 0 ht with ⟨-, w⟩ | ⟨p, m, -, -, w⟩
        · exact rch_r w
        · omega
      | succ n ih =>
        intro t ht
        rcases h.2.1 t _ ht with ⟨w, -⟩ | ⟨p, m, w1, w2, w3⟩
        · omega
        · exact rch_e (ih p (by rw [w1]; congr 1; omega)) w2
    cases e : lab t with
    | none => exact absurd e hl
    | some n => exact this n t e
  · intro hr
    refine hr (fun t => lab t ≠ none) (fun t ht => by rw [h.1 t ht]; simp) (fun p t hp he => ?_)
    cases e : lab p with
    | none => exact absurd e hp
    | some m =>
      obtain ⟨n, w, -⟩ := h.2.2 p m t e he
      rw [w]; simp
section O39
variable {G : gG} {d B : Nat} {σ : gM} {K : gK}
/-- a block's cell holds the handle of another -/
def gEd (σ : gM) (s t : Nat) : Prop := t < 30 ∧ σ 11 t = 1 ∧ ∃ i, i < gN (σ 13 s) ∧ σ 2 (gN (σ 12 s) + i) = 100 * σ 10 t + nI t
theorem good_iff (hB : B < 1000000) (hR : wRel B σ) {x : Int32} {t : Nat} : gGood σ x t ↔ t < 30 ∧ σ 11 t = 1 ∧ x = 100 * σ 10 t + nI t := by
  constructor
  · rintro ⟨h1, h2, n, h3, rfl, h4, h5⟩
    refine ⟨h1, h2, ?_⟩
    rw [h5, ← h4, hnd]
    congr 1; omega
  · rintro ⟨h1, h2, rfl⟩
    obtain ⟨g, g1, g2⟩ := rGen hR h1
    refine ⟨h1, h2, 100 * g + t, by omega, by rw [g2, hnd], by omega, ?_⟩
    rw [g2]; congr 1; omega
/-- the class's walk -/
def cW (σ x : gM) (lab : Nat → Option Nat) (ord : Nat → Nat) (c : Nat) : Prop := (∀ i, i ≠ 89 → i ≠ 90 → i ≠ 91 → x i = σ i) ∧ x 89 2 = nI c ∧ (∀ t, t < 30 → x 90 t = gAns (lab t) (-1)) ∧ ∀ j, j < c → x 91 j = nI (ord j)
theorem come_n (h : gOK G) {x : gM} {lab : Nat → Option Nat} {ord : Nat → Nat} {c t n : Nat} {v : Int32} (hx : cW σ x lab ord c) (ht : t < 30) (hl : lab t = some n) (hn : n ≤ 30) : g_inv (gCm' G (d + 1)) mX8_comeTo [.ref 89, .int (nI t), .int v] x K = K none x := by
  obtain ⟨f1, f2, f3, f4, f5⟩ := g_ix (n := 29) ht (by decide)
  have e : x 90 t = nI n := by rw [hx.2.2.1 t ht, hl]; rfl
  have em := g_m1 (j := n) (by omega)
  simp only [EX8_comeTo, BX8_comeTo_27, BX8_comeTo_37, hWlk h, f4, f5, e, em, Option.toList_some, Option.toList_none, List.cons_append, List.nil_append, Nat.zero_add, Nat.reduceAdd, Option.some.injEq, Value.int.injEq, exists_eq_left', true_and, and_true, true_or, or_true, false_or, g_10, ↓reduceIte]
theorem come_y (h : gOK G) {x : gM} {lab : Nat → Option Nat} {ord : Nat → Nat} {c t n : Nat} (hx : cW σ x lab ord c) (ht : t < 30) (hl : lab t = none) (hc : c < 30) : ∃ x' : gM, (∀ d K, g_inv (gCm' G (d + 1)) mX8_comeTo [.ref 89, .int (nI t), .int (nI n)] x K = K none x') ∧ cW σ x' (fun u => if u = t then some n else lab u) (fun j => if j = c then t else ord j) (c + 1) := by
  obtain ⟨f1, f2, f3, f4, f5⟩ := g_ix (n := 29) ht (by decide)
  obtain ⟨x1, x2, x3, x4⟩ := id hx
  have e : x 90 t = -1 := by rw [x3 t ht, hl]; rfl
  have g1 : nI c < 30 := nI_lt (b := 30) hc (by decide)
  have g3 : vp_in (nI c) 30 := vp_in_nI (by omega) (by decide)
  have g4 : (nI c).toNatClampNeg = c := nI_clamp (by omega)
  refine ⟨g_up (g_up (g_up x 90 t (nI n)) 91 c (nI t)) 89 2 (nI (c + 1)), fun d K => ?_, fun i h1 h2 h3 => by rw [g_up_o h1, g_up_o h3, g_up_o h2]; exact x1 i h1 h2 h3, g_up_3, fun u hu => ?_, fun j hj => ?_⟩
  · simp only [EX8_comeTo, BX8_comeTo_27, BX8_comeTo_37, hWlk h, f4, f5, e, x2, g1, g3, g4, Option.toList_some, Option.toList_none, List.cons_append, List.nil_append, Nat.zero_add, Nat.reduceAdd, Option.some.injEq, Value.int.injEq, exists_eq_left', true_and, and_true, true_or, or_true, false_or, g_10, ↓reduceIte, g_up_d, Nat.reduceEqDiff, nI_1]
  · rw [g_up_o (by decide), g_up_o (by decide), g_up_d, if_pos rfl]
    by_cases eu : u = t
    · subst eu; simp only [↓reduceIte]; rfl
    · simp only [eu, ↓reduceIte]; exact x3 u hu
  · rw [g_up_o (by decide), g_up_d, if_pos rfl]
    by_cases ej : j = c
    · subst ej; simp only [↓reduceIte]
    · simp only [ej, ↓reduceIte]; rw [g_up_o (by decide)]; exact x4 j (by omega)
theorem goOn_in (h : gOK G) (hB : B < 1000000) (hR : wRel B σ) {R : Nat → Prop} {i : Nat} : ∀ (rem k : Nat) (x : gM) (lab : Nat → Option Nat) (ord : Nat → Nat) (c s l q : Nat), cW σ x lab ord c → bI R (gEd σ) lab ord c i → i < c → ord i = s → σ 12 s = nI l → σ 13 s = nI q → l + q ≤ 240 → k + rem = q → (∀ k', k' < k → ∀ t, gGood σ (σ 2 (l + k')) t → lab t ≠ none) →
    ∃ (x' : gM) (lab' : Nat → Option Nat) (ord' : Nat → Nat) (c' : Nat), (∀ (d : Nat) (w : Value) (K : gK), ∃ w' : Value, gw (gCm' G (d + 2)) G mX8_goOn K 38 [.ref 89, .ref 1, .int (nI i), .int (nI s), .int (nI l), .int (nI (l + k)), w] [] x = gw (gCm' G (d + 2)) G mX8_goOn K 38 [.ref 89, .ref 1, .int (nI i), .int (nI s), .int (nI l), .int (nI (l + q)), w'] [] x') ∧ cW σ x' lab' ord' c' ∧ bI R (gEd σ) lab' ord' c' i ∧ i < c' ∧ ord' i = s ∧ (∀ t n, lab t = some n → lab' t = some n) ∧ (∀ k', k' < q → ∀ t, gGood σ (σ 2 (l + k')) t → lab' t ≠ none) := by
  intro rem
  induction rem with
  | zero =>
    intro k x lab ord c s l q hx hb hi hs el eq hlq hk hd
    have : k = q := by omega
    subst this
    exact ⟨x, lab, ord, c, fun d w K => ⟨w, rfl⟩, hx, hb, hi, hs, fun _ _ e => e, hd⟩
  | succ rem ih =>
    intro k x lab ord c s l q hx hb hi hs el eq hlq hk hd
    obtain ⟨x1, x2, x3, x4⟩ := id hx
    have hs30 : s < 30 := by rw [← hs]; exact (hb.2.2.1 i hi).1
    obtain ⟨f1, f2, f3, f4, f5⟩ := g_ix (n := 29) hs30 (by decide)
    obtain ⟨m, hm, hm2⟩ := (hb.2.2.1 i hi).2
    rw [hs] at hm
    have g1 : nI (l + k) < nI (l + q) := nI_lt (by omega) (by omega)
    have g2 : vp_in (nI (l + k)) 240 := vp_in_nI (by omega) (by decide)
    have g3 : (nI (l + k)).toNatClampNeg = l + k := nI_clamp (by omega)
    have e13 : x 13 s = nI q := by rw [x1 13 (by decide) (by decide) (by decide)]; exact eq
    have e2 : x 2 = σ 2 := x1 2 (by decide) (by decide) (by decide)
    have e90 : x 90 s = nI m := by rw [x3 s hs30, hm]; rfl
    have c30 := hb.1
    have gx : ∀ t, gGood σ (σ 2 (l + k)) t → gGood x (σ 2 (l + k)) t := fun t ⟨a1, a2, n, a3, a4, a5, a6⟩ => ⟨a1, by rw [x1 11 (by decide) (by decide) (by decide)]; exact a2, n, a3, a4, a5, by rw [x1 10 (by decide) (by decide) (by decide)]; exact a6⟩
    have xg : ∀ t, gGood x (σ 2 (l + k)) t → gGood σ (σ 2 (l + k)) t := fun t ⟨a1, a2, n, a3, a4, a5, a6⟩ => ⟨a1, by rw [x1 11 (by decide) (by decide) (by decide)] at a2; exact a2, n, a3, a4, a5, by rw [x1 10 (by decide) (by decide) (by decide)] at a6; exact a6⟩
    rcases Classical.em (∃ t, gGood σ (σ 2 (l + k)) t) with ⟨t, hg⟩ | hg
    · obtain ⟨ht, -⟩ := id hg
      have hx2 := (good_y (G := G) (B := B) h (gx t hg)).1
      have tm := g_m1 (j := t) (by omega)
      have tu : ∀ t', gGood σ (σ 2 (l + k)) t' → t' = t := fun t' ⟨b1, b2, n', b3, b4, b5, b6⟩ => by
        obtain ⟨-, -, n, a3, a4, a5, a6⟩ := hg
        have := nI_inj b3 a3 (b4.symm.trans a4)
        subst this; omega
      cases hl : lab t with
      | some n =>
        have hn30 : n ≤ 30 := by
          obtain ⟨⟨j, hj, ej⟩, -⟩ := hb.2.2.2.2.1 t n hl
          obtain ⟨-, n', e', h'⟩ := hb.2.2.1 j hj
          rw [ej, hl] at e'; cases e'; omega
        obtain ⟨x', lab', ord', c', i1, i2⟩ := ih (k + 1) x lab ord c s l q hx hb hi hs el eq hlq (by omega) (fun k' hk' t' hg' => by
          by_cases e : k' = k
          · subst e; rw [tu t' hg', hl]; simp
          · exact hd k' (by omega) t' hg')
        refine ⟨x', lab', ord', c', fun d w K => ?_, i2⟩
        obtain ⟨w', i1⟩ := i1 d (.int (nI t)) K
        refine ⟨w', ?_⟩
        rw [BX8_goOn_38 (hWlk h) (hNow h)]
        simp only [f4, f5, e13, nI_add, g1, g2, g3, e2, hx2, BX8_goOn_69 (hWlk h) (hNow h), BX8_goOn_91 (hWlk h) (hNow h), tm, Option.toList_some, Option.toList_none, List.cons_append, List.nil_append, Nat.zero_add, Nat.reduceAdd, Option.some.injEq, Value.int.injEq, exists_eq_left', true_and, and_true, true_or, or_true, false_or, g_10, ↓reduceIte, nI_1, come_n h hx ht hl hn30]
        exact i1
      | none =>
        obtain ⟨y, y1, y2⟩ := come_y (G := G) (n := m + 1) h hx ht hl (bI_lt hb ht hl)
        have tns : ¬ s = t := fun e => by rw [e, hl] at hm; cases hm
        have hb2 := bI_push hb ht hl (n := m + 1) (by omega) (Or.inr ⟨s, m, hm, by
          obtain ⟨a1, a2, a3⟩ := (good_iff hB hR).mp hg
          refine ⟨a1, a2, k, by rw [eq, gN_nI (by omega)]; omega, by rw [el, gN_nI (by omega)]; exact a3⟩, rfl⟩) (fun u n hu => by
          obtain ⟨m', w1, w2⟩ := hb.2.2.2.2.2.2 u n hu hi
          rw [hs, hm] at w1; cases w1; exact w2) (fun _ => ⟨m, by rw [hs]; exact hm, Nat.le_refl _⟩) (fun e => by omega)
        have os : (if i = c then t else ord i) = s := by rw [if_neg (by omega)]; exact hs
        obtain ⟨x', lab', ord', c', i1, i2, i3, i4, i5, i6, i7⟩ := ih (k + 1) y _ _ (c + 1) s l q y2 hb2 (by omega) os el eq hlq (by omega) (fun k' hk' t' hg' => by
          by_cases e : k' = k
          · subst e; rw [tu t' hg']; simp
          · have := hd k' (by omega) t' hg'
            by_cases e2 : t' = t
            · simp [e2]
            · simp only [e2, ↓reduceIte]; exact this)
        refine ⟨x', lab', ord', c', fun d w K => ?_, i2, i3, i4, i5, fun u n hu => i6 u n (by
          have : ¬ u = t := fun e => by rw [e, hl] at hu; cases hu
          simp only [this, ↓reduceIte]; exact hu), i7⟩
        obtain ⟨w', i1⟩ := i1 d (.int (nI t)) K
        refine ⟨w', ?_⟩
        rw [BX8_goOn_38 (hWlk h) (hNow h)]
        simp only [f4, f5, e13, nI_add, g1, g2, g3, e2, hx2, BX8_goOn_69 (hWlk h) (hNow h), BX8_goOn_91 (hWlk h) (hNow h), tm, Option.toList_some, Option.toList_none, List.cons_append, List.nil_append, Nat.zero_add, Nat.reduceAdd, Option.some.injEq, Value.int.injEq, exists_eq_left', true_and, and_true, true_or, or_true, false_or, g_10, ↓reduceIte, nI_1, e90, y1]
        exact i1
    · have hx2 := (good_n (G := G) (B := B) h (σ := x) (x := σ 2 (l + k)) (fun t ht => hg ⟨t, xg t ht⟩)).1
      obtain ⟨x', lab', ord', c', i1, i2⟩ := ih (k + 1) x lab ord c s l q hx hb hi hs el eq hlq (by omega) (fun k' hk' t' hg' => by
        by_cases e : k' = k
        · subst e; exact absurd ⟨t', hg'⟩ hg
        · exact hd k' (by omega) t' hg')
      refine ⟨x', lab', ord', c', fun d w K => ?_, i2⟩
      obtain ⟨w', i1⟩ := i1 d (.int (-1)) K
      refine ⟨w', ?_⟩
      rw [BX8_goOn_38 (hWlk h) (hNow h)]
      simp only [f4, f5, e13, nI_add, g1, g2, g3, e2, hx2, BX8_goOn_69 (hWlk h) (hNow h), BX8_goOn_91 (hWlk h) (hNow h), Option.toList_some, Option.toList_none, List.cons_append, List.nil_append, Nat.zero_add, Nat.reduceAdd, Option.some.injEq, Value.int.injEq, exists_eq_left', true_and, and_true, true_or, or_true, false_or, g_10, ↓reduceIte, nI_1]
      exact i1
end O39
