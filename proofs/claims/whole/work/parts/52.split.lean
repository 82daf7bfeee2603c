section O52
variable {G : gG} {d B : Nat} {σ : gM} {K : gK}
def cA : Nat → Bool := fun b => decide (b < 104)
def tA : Nat → Bool := fun b => decide (104 ≤ b ∧ b < 126)
/-- the class's objects name the class's alone, the twin's the twin's -/
def gSep (G : gG) : Prop := (∀ a, cA a = true → ∀ f, cA ((G a).2.2 f) = true) ∧ ∀ a, tA a = true → ∀ f, tA ((G a).2.2 f) = true
theorem gAll_ints {A : Nat → Bool} {as : List Value} (h : ∀ v, v ∈ as → ∃ x, v = .int x) : gAll A as := fun v hv => by
  obtain ⟨x, rfl⟩ := h v hv
  exact trivial
theorem gOp_split (hc : gSep G) {X Y : gY} {as : List Value} (ha : ∀ v, v ∈ as → ∃ x, v = .int x) (h : gOp G d B X Y as σ) :
    ∃ (r : Int32) (σ2 : gM), wRel (B + 1) σ2 ∧ (∀ b, 126 ≤ b → σ2 b = σ b) ∧ (∀ x, gAg cA x σ → ∀ K : gK, K (some (.int r)) (gMg cA σ2 x) → g_inv (gCm' G d) X (.ref 0 :: as) x K) ∧ ∀ z, gAg tA z σ → ∀ K : gK, K (some (.int r)) (gMg tA σ2 z) → g_inv (gCm' G d) Y (.ref 104 :: as) z K := by
  obtain ⟨r1, σ1, ⟨r, rfl, h1⟩, f1, -, t1⟩ := gI_1 hc.1 (gAll_r (A := cA) (x := 0) (by decide) (gAll_ints ha)) h
  obtain ⟨r2, σ2, ⟨rfl, h2⟩, f2, -, t2⟩ := gI_1 hc.2 (gAll_r (A := tA) (x := 104) (by decide) (gAll_ints ha)) h1
  have no : ∀ b, tA b = true → cA b = false := fun b hb => by
    unfold tA at hb
    unfold cA
    simp only [decide_eq_true_eq] at hb
    simp only [decide_eq_false_iff_not]
    omega
  have no2 : ∀ b, cA b = true → tA b = false := fun b hb => by
    unfold cA at hb
    unfold tA
    simp only [decide_eq_true_eq] at hb
    simp only [decide_eq_false_iff_not]
    omega
  refine ⟨r, σ2, h2, fun b hb => ?_, fun x hx K hk => t1 x hx K ?_, fun z hz K hk => t2 z (fun b hb => ?_) K hk⟩
  · rw [f2 b (by unfold tA; simp only [decide_eq_false_iff_not]; omega), f1 b (by unfold cA; simp only [decide_eq_false_iff_not]; omega)]
  · have : gMg cA σ1 x = gMg cA σ2 x := by
      funext b
      unfold gMg
      by_cases e : cA b = true
      · rw [if_pos e, if_pos e, f2 b (no2 b e)]
      · rw [if_neg e, if_neg e]
    rw [this]; exact hk
  · rw [hz b hb, f1 b (no b hb)]
end O52
