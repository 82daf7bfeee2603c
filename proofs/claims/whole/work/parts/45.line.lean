/-! blocks on a line, moved to its beginning one behind the other -/
def gSl (C : Nat → Int32) : Nat → Nat
  | 0 => 0
  | e + 1 => if C e = -1 then gSl C e else e + 1
theorem gSl_le {C : Nat → Int32} : ∀ e, gSl C e ≤ e
  | 0 => Nat.le_refl _
  | e + 1 => by
    show (if C e = -1 then gSl C e else e + 1) ≤ e + 1
    have := gSl_le (C := C) e
    split <;> omega
theorem gSl_to {C : Nat → Int32} {D : Nat} (h2 : D = 0 ∨ C (D - 1) ≠ -1) : ∀ e, D ≤ e → (∀ i, D ≤ i → i < e → C i = -1) → gSl C e = D
  | 0, h, _ => by show 0 = D; omega
  | e + 1, h, hf => by
    show (if C e = -1 then gSl C e else e + 1) = D
    by_cases e1 : D = e + 1
    · subst e1
      have : C e ≠ -1 := by
        rcases h2 with z | z
        · omega
        · exact z
      rw [if_neg this]
    · rw [if_pos (hf e (by omega) (by omega))]
      exact gSl_to h2 e (by omega) (fun i a b => hf i a (by omega))
theorem gSl_congr {C C' : Nat → Int32} : ∀ e, (∀ i, i < e → C i = C' i) → gSl C e = gSl C' e
  | 0, _ => rfl
  | e + 1, h => by
    show (if C e = -1 then gSl C e else e + 1) = (if C' e = -1 then gSl C' e else e + 1)
    rw [h e (by omega), gSl_congr e (fun i hi => h i (by omega))]
def dN (C : Nat → Int32) (e : Nat → Nat) (may : Nat → Bool) (Q : Nat) : Option Nat := (gFst (fun i => decide (C i ≠ -1) && (may (gN (C i)) && decide (gSl C (e (gN (C i))) ≠ e (gN (C i))))) Q 0).map fun i => gN (C i)
def dA (C : Nat → Int32) (N : Nat → Bool) (e n : Nat → Nat) (Q : Nat) : Prop := (∀ s, N s = true → s < 30 ∧ 1 ≤ n s ∧ e s + n s ≤ Q) ∧ (∀ s i, N s = true → i < Q → ((e s ≤ i ∧ i < e s + n s) ↔ C i = nI s)) ∧ ∀ i, i < Q → C i = -1 ∨ ∃ s, N s = true ∧ C i = nI s
def dJ (C : Nat → Int32) (N : Nat → Bool) (e n : Nat → Nat) (may : Nat → Bool) (Q D : Nat) : Prop := D ≤ Q ∧ (D = 0 ∨ C (D - 1) ≠ -1) ∧ (∀ s, N s = true → e s + n s ≤ D ∨ D ≤ e s) ∧ ∀ s, N s = true → e s < D → ¬ (may s = true ∧ gSl C (e s) ≠ e s)
def dS (N : Nat → Bool) (e : Nat → Nat) (D s : Nat) : Prop := N s = true ∧ D ≤ e s ∧ ∀ t, N t = true → D ≤ e t → e s ≤ e t
section D45
variable {C C' : Nat → Int32} {N : Nat → Bool} {e e' n : Nat → Nat} {may : Nat → Bool} {Q D s : Nat}
theorem d_in (hA : dA C N e n Q) {i t : Nat} (hi : i < Q) (ht : N t = true) (hc : C i = nI t) : e t ≤ i ∧ i < e t + n t := (hA.2.1 t i ht hi).mpr hc
theorem d_none (hA : dA C N e n Q) (hJ : dJ C N e n may Q D) (h : ∀ s, N s = true → ¬ D ≤ e s) : dN C e may Q = none := by
  unfold dN
  rw [gFst_all.mpr]
  · rfl
  · intro i hi
    rcases hA.2.2 i hi with z | ⟨t, ht, z⟩
    · simp [z]
    · have t30 := (hA.1 t ht).1
      have g : gN (C i) = t := by rw [z, gN_nI (by omega)]
      have := hJ.2.2.2 t ht (by have := h t ht; omega)
      rw [g]
      cases hm : may t with
      | false => simp
      | true =>
        have h2 : gSl C (e t) = e t := Classical.byContradiction fun q => this ⟨hm, q⟩
        simp [h2]
theorem d_free (hA : dA C N e n Q) (hJ : dJ C N e n may Q D) (hS : dS N e D s) : ∀ i, D ≤ i → i < e s → C i = -1 := by
  intro i h1 h2
  have := hA.1 s hS.1
  rcases hA.2.2 i (by omega) with z | ⟨t, ht, z⟩
  · exact z
  · exfalso
    have w := d_in hA (show i < Q by omega) ht z
    rcases hJ.2.2.1 t ht with y | y
    · omega
    · have := hS.2.2 t ht y; omega
theorem d_dis (hA : dA C N e n Q) (hS : dS N e D s) {t : Nat} (ht : N t = true) (hts : t ≠ s) (hD : D ≤ e t) : e s + n s ≤ e t := by
  have h1 := hS.2.2 t ht hD
  have h2 := hA.1 t ht
  have h3 := hA.1 s hS.1
  rcases Nat.lt_or_ge (e t) (e s + n s) with z | z
  · exfalso
    have c1 := (hA.2.1 s (e t) hS.1 (by omega)).mp ⟨h1, z⟩
    have c2 := (hA.2.1 t (e t) ht (by omega)).mp ⟨Nat.le_refl _, by omega⟩
    exact hts (nI_inj (by omega) (by omega) (c2.symm.trans c1))
  · exact z
theorem d_skip (hA : dA C N e n Q) (hJ : dJ C N e n may Q D) (hS : dS N e D s) (h : may s = false ∨ e s = D) : dJ C N e n may Q (e s + n s) := by
  have h3 := hA.1 s hS.1
  refine ⟨h3.2.2, Or.inr ?_, fun t ht => ?_, fun t ht hlt => ?_⟩
  · have := (hA.2.1 s (e s + n s - 1) hS.1 (by omega)).mp ⟨by omega, by omega⟩
    rw [this]; exact g_m1 (by omega)
  · by_cases ets : t = s
    · subst ets; exact Or.inl (Nat.le_refl _)
    · rcases hJ.2.2.1 t ht with y | y
      · exact Or.inl (by have := hS.2.1; omega)
      · exact Or.inr (d_dis hA hS ht ets y)
  · by_cases ets : t = s
    · subst ets
      rintro ⟨m1, m2⟩
      rcases h with h | h
      · rw [h] at m1; cases m1
      · exact m2 (gSl_to (D := e t) (by rw [h]; exact hJ.2.1) _ (Nat.le_refl _) (fun i a b => by omega))
    · refine hJ.2.2.2 t ht ?_
      rcases Nat.lt_or_ge (e t) D with z | z
      · exact z
      · have := d_dis hA hS ht ets z; omega
theorem d_sl (hA : dA C N e n Q) (hJ : dJ C N e n may Q D) (hS : dS N e D s) : gSl C (e s) = D := gSl_to hJ.2.1 _ hS.2.1 (d_free hA hJ hS)
theorem d_move (hA : dA C N e n Q) (hJ : dJ C N e n may Q D) (hS : dS N e D s) (hm : may s = true) (hne : e s ≠ D) : dN C e may Q = some s := by
  have h3 := hA.1 s hS.1
  have cs := (hA.2.1 s (e s) hS.1 (by omega)).mp ⟨Nat.le_refl _, by omega⟩
  have g : gN (C (e s)) = s := by rw [cs, gN_nI (by omega)]
  unfold dN
  have : gFst (fun i => decide (C i ≠ -1) && (may (gN (C i)) && decide (gSl C (e (gN (C i))) ≠ e (gN (C i))))) Q 0 = some (e s) := by
    cases hf : gFst (fun i => decide (C i ≠ -1) && (may (gN (C i)) && decide (gSl C (e (gN (C i))) ≠ e (gN (C i))))) Q 0 with
    | none =>
      have := gFst_all.mp hf (e s) (by omega)
      rw [g, hm, d_sl hA hJ hS, cs] at this
      have m1 := g_m1 (j := s) (by omega)
      have ne2 : D ≠ e s := fun z => hne z.symm
      simp [m1, ne2] at this
    | some k =>
      obtain ⟨-, h1, h2, h4⟩ := gFst_some hf
      rcases Nat.lt_trichotomy k (e s) with z | z | z
      · exfalso
        rcases hA.2.2 k (by omega) with y | ⟨t, ht, y⟩
        · simp [y] at h2
        · have w := d_in hA (show k < Q by omega) ht y
          have t30 := (hA.1 t ht).1
          have gt : gN (C k) = t := by rw [y, gN_nI (by omega)]
          rcases Nat.lt_or_ge k D with u | u
          · have := hJ.2.2.2 t ht (by omega)
            rw [gt] at h2
            simp only [Bool.and_eq_true, decide_eq_true_eq] at h2
            exact this ⟨h2.2.1, h2.2.2⟩
          · have := d_free hA hJ hS k u z
            rw [this] at y
            exact absurd y.symm (g_m1 (by omega))
      · rw [z]
      · exfalso
        have := h4 (e s) (by omega) z
        rw [g, hm, d_sl hA hJ hS, cs] at this
        have m1 := g_m1 (j := s) (by omega)
        have ne2 : D ≠ e s := fun z => hne z.symm
        simp [m1, ne2] at this
  rw [this]
  show some (gN (C (e s))) = some s
  rw [g]
theorem d_moved (hA : dA C N e n Q) (hJ : dJ C N e n may Q D) (hS : dS N e D s) (hA' : dA C' N e' n Q) (he : ∀ t, t ≠ s → e' t = e t) (hes : e' s = D) (hC : ∀ i, i < D → C' i = C i) : dJ C' N e' n may Q (D + n s) := by
  have h3 := hA.1 s hS.1
  have hD := hS.2.1
  have h3' := hA'.1 s hS.1
  rw [hes] at h3'
  have cs := (hA'.2.1 s (D + n s - 1) hS.1 (by omega)).mp (by rw [hes]; omega)
  refine ⟨by omega, Or.inr (by rw [cs]; exact g_m1 (by omega)), fun t ht => ?_, fun t ht hlt => ?_⟩
  · by_cases ets : t = s
    · subst ets; rw [hes]; exact Or.inl (Nat.le_refl _)
    · rw [he t ets]
      rcases hJ.2.2.1 t ht with y | y
      · exact Or.inl (by omega)
      · exact Or.inr (by have := d_dis hA hS ht ets y; omega)
  · by_cases ets : t = s
    · subst ets
      rw [hes]
      rintro ⟨-, m2⟩
      refine m2 (gSl_to (D := D) ?_ _ (Nat.le_refl _) (fun i a b => by omega))
      rcases hJ.2.1 with z | z
      · exact Or.inl z
      · by_cases z0 : D = 0
        · exact Or.inl z0
        · exact Or.inr (by rw [hC _ (by omega)]; exact z)
    · rw [he t ets] at hlt ⊢
      have hlD : e t < D := by
        rcases Nat.lt_or_ge (e t) D with z | z
        · exact z
        · have := d_dis hA hS ht ets z; omega
      have := hJ.2.2.2 t ht hlD
      rw [gSl_congr (C := C') (C' := C) _ (fun i hi => hC i (by omega))]
      exact this
theorem gCnt_grow {c c' : Nat → Bool} {s L : Nat} (h : ∀ t, t < L → c t = true → c' t = true) (hs : s < L) (h1 : c s = false) (h2 : c' s = true) : gCnt c L + 1 ≤ gCnt c' L := by
  rw [gCnt_rm hs h2]
  have : ∀ M, M ≤ L → gCnt c M ≤ gCnt (fun t => c' t && !(t == s)) M := by
    intro M
    induction M with
    | zero => intro _; exact Nat.le_refl _
    | succ M ih =>
      intro hM
      have := ih (by omega)
      show gCnt c M + (if c M = true then 1 else 0) ≤ gCnt _ M + (if (c' M && !(M == s)) = true then 1 else 0)
      by_cases e : c M = true
      · have e2 : (M == s) = false := by
          cases hh : M == s with
          | false => rfl
          | true =>
            have : M = s := by simpa using hh
            subst this; rw [h1] at e; cases e
        rw [e2, h M (by omega) e]
        simp [e]; omega
      · rw [if_neg e]; omega
  have := this L (Nat.le_refl _)
  omega
end D45
