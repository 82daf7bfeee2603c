/-- the numbers of a new twin -/
def g_twn : gM := g_fl (g_fl (fun _ _ => 0) 1 589 10 240) 1 599 6 (-1)
theorem gFold_fi {σ : gM} {a l : Nat} {v : Int32} : ∀ k, gFold (fun i s => g_up s a (l + i) v) k σ = g_fl σ a l k v := by
  intro k
  induction k with
  | zero => funext b j; simp [gFold, g_fl]; intro _ h1 h2; omega
  | succ k ih =>
    show g_up (gFold _ k σ) a (l + k) v = _
    rw [ih]
    funext b j
    unfold g_up g_fl
    by_cases e : b = a
    · by_cases e2 : j = l + k
      · simp [e, e2]
      · have : (l ≤ j ∧ j < l + k) ↔ (l ≤ j ∧ j < l + (k + 1)) := by omega
        simp [e, e2, this]
    · simp [e]
section O69
variable {C : gC} {Q : gK} {σ : gM}
theorem twn_1 : gw C (gOf LX10) mX10_init Q 135 [.ref 0, .int 0] [] σ = gw C (gOf LX10) mX10_init Q 162 [.ref 0, .int 0] [] (g_fl σ 1 589 10 240) := by
  have key := g_for (W := fun i (s : gM) => gw C (gOf LX10) mX10_init Q 135 [.ref 0, .int (nI i)] [] s) (R := fun s => gw C (gOf LX10) mX10_init Q 162 [.ref 0, .int 0] [] s) (F := fun i s => g_up s 1 (589 + i) 240) (L := 10) (fun i hi s => ?_) (fun s => ?_) σ
  · rw [gFold_fi] at key
    exact key
  · rw [BX10_init_135 sh_X10, if_pos (show nI i < 10 from (nI_lt hi (by decide) : nI i < nI 10))]
    have e : (589 : Int32) + nI i = nI (589 + i) := nI_add 589 i
    have e1 : nI i + 1 = nI (i + 1) := nI_add i 1
    rw [e, e1, nI_clamp (by omega)]
    exact propext ⟨fun h => h.2, fun h => ⟨vp_in_nI (by omega) (by omega), h⟩⟩
  · rw [BX10_init_135 sh_X10, if_neg (show ¬ nI 10 < 10 from nI_nlt (Nat.le_refl _) (by decide))]
theorem twn_2 : gw C (gOf LX10) mX10_init Q 162 [.ref 0, .int 0] [] σ = Q none (g_fl σ 1 599 6 (-1)) := by
  have key := g_for (W := fun i (s : gM) => gw C (gOf LX10) mX10_init Q 162 [.ref 0, .int (nI i)] [] s) (R := fun s => Q none s) (F := fun i s => g_up s 1 (599 + i) (-1)) (L := 6) (fun i hi s => ?_) (fun s => ?_) σ
  · rw [gFold_fi] at key
    exact key
  · rw [BX10_init_162 sh_X10, if_pos (show nI i < 6 from (nI_lt hi (by decide) : nI i < nI 6))]
    have e : (599 : Int32) + nI i = nI (599 + i) := nI_add 599 i
    have e1 : nI i + 1 = nI (i + 1) := nI_add i 1
    rw [e, e1, nI_clamp (by omega)]
    exact propext ⟨fun h => h.2, fun h => ⟨vp_in_nI (by omega) (by omega), h⟩⟩
  · rw [BX10_init_162 sh_X10, if_neg (show ¬ nI 6 < 6 from nI_nlt (Nat.le_refl _) (by decide))]
theorem tail_X10 (h : Q none g_twn) : gw C (gOf LX10) mX10_init Q 133 [.ref 0, .long 0] [] (fun _ _ => 0) := by
  rw [BX10_init_133 sh_X10, twn_1, twn_2]
  exact h
end O69
