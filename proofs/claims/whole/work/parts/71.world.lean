def L0 : gL := LX9 ++ gSh 104 LX10
def g_s0 : gM := gJ (α := Nat → Int32) 104 g_cls g_twn
theorem gOf_ref {L : gL} {a f : Nat} {P : Nat → Prop} (ha : P a) (h : ∀ q, L[a]? = some q → ∀ r, r ∈ q.2.2 → P r) : P ((gOf L a).2.2 f) := by
  unfold gOf
  cases e : L[a]? with
  | none => exact ha
  | some q =>
    show P (q.2.2.getD f a)
    rw [List.getD_eq_getElem?_getD]
    cases e2 : q.2.2[f]? with
    | none => exact ha
    | some r => exact h q e r (List.mem_of_getElem? e2)
theorem L0_len : L0.length = 126 := by decide +kernel
theorem sep_0 : gSep (gOf L0) := by
  constructor
  · intro a ha f
    refine gOf_ref (P := fun r => cA r = true) ha (fun q hq r hr => ?_)
    have h1 := List.all_eq_true.mp (show ((L0.take 104).all fun q => q.2.2.all fun r => cA r) = true by decide +kernel) q (List.mem_of_getElem? (i := a) (by rw [List.getElem?_take_of_lt (by unfold cA at ha; simpa using ha)]; exact hq))
    exact List.all_eq_true.mp h1 r hr
  · intro a ha f
    refine gOf_ref (P := fun r => tA r = true) ha (fun q hq r hr => ?_)
    unfold tA at ha
    simp only [decide_eq_true_eq] at ha
    have h1 := List.all_eq_true.mp (show ((L0.drop 104).all fun q => q.2.2.all fun r => tA r) = true by decide +kernel) q (List.mem_of_getElem? (i := a - 104) (by rw [List.getElem?_drop, show 104 + (a - 104) = a by omega]; exact hq))
    exact List.all_eq_true.mp h1 r hr
theorem sh10_0 : isX10 (gOf L0) 104 := by
  unfold isX10
  decide +kernel
theorem sh9_0 : isX9 (gOf L0) 0 := ⟨by decide +kernel, ⟨by decide +kernel, by unfold isX3 isX5 isX1 isX0 isX6; decide +kernel⟩, ⟨by decide +kernel, by unfold isX3 isX5 isX1 isX0 isX6; decide +kernel⟩, ⟨by decide +kernel, by unfold isX3 isX5 isX1 isX0 isX6; decide +kernel⟩, ⟨by decide +kernel, by unfold isX3 isX5 isX1 isX0 isX6; decide +kernel⟩, ⟨by decide +kernel, by unfold isX8; decide +kernel⟩, ⟨by decide +kernel, by unfold isX4; decide +kernel⟩, ⟨by decide +kernel, by unfold isX7; decide +kernel⟩, ⟨by decide +kernel, by unfold isX2; decide +kernel⟩⟩
theorem ok_0 : gOK (gOf L0) := ⟨sh9_0, sh10_0⟩
/-! the numbers at the beginning -/
theorem s0_lo {i : Nat} (h : i < 104) : g_s0 i = g_cls i := gJ_l h
theorem s0_hi {i : Nat} : g_s0 (104 + i) = g_twn i := gJ_r
theorem cls_mem {i : Nat} (h : i < 22) : g_cls (1 + i) = g_mem i := by
  unfold g_cls
  rw [gJ_r, gJ_l (by omega)]
  unfold g_m4
  rw [gJ_l (by omega), gJ_l (by omega), gJ_l h]
theorem cls_z {i : Nat} (h : 89 ≤ i) : g_cls i = fun _ => 0 := by
  obtain ⟨j, rfl⟩ : ∃ j, i = 1 + (88 + j) := ⟨i - 89, by omega⟩
  unfold g_cls
  rw [gJ_r, gJ_r]
theorem fm {i j : Nat} (h7 : i ≠ 7) (h20 : i ≠ 20) (h21 : i ≠ 21) : g_mem i j = 0 := by
  unfold g_mem
  rw [g_fl_o h21, g_fl_o h20, g_fl_o h7]
theorem fm7 {j : Nat} (h : j < 240) : g_mem 7 j = -1 := by
  unfold g_mem
  rw [g_fl_o (by decide), g_fl_o (by decide)]
  exact if_pos ⟨rfl, Nat.zero_le _, by omega⟩
theorem fm20 {j : Nat} (h : j < 10) : g_mem 20 j = 240 := by
  unfold g_mem
  rw [g_fl_o (by decide)]
  exact if_pos ⟨rfl, Nat.zero_le _, by omega⟩
theorem fm21 {j : Nat} (h : j < 6) : g_mem 21 j = -1 := if_pos ⟨rfl, Nat.zero_le _, by omega⟩
theorem ft {i j : Nat} (h : i ≠ 1 ∨ j < 589 ∨ 605 ≤ j) : g_twn i j = 0 := by
  unfold g_twn g_fl
  rw [if_neg (by omega), if_neg (by omega)]
theorem ft1 {j : Nat} (h : j < 10) : g_twn 1 (589 + j) = 240 := by
  unfold g_twn g_fl
  rw [if_neg (by omega), if_pos (by omega)]
theorem ft2 {j : Nat} (h : j < 6) : g_twn 1 (599 + j) = -1 := by
  unfold g_twn g_fl
  rw [if_pos (by omega)]
theorem mem_0 : gMem g_s0 1 = g_mem := by
  funext i j
  unfold gMem
  by_cases h : i < 22
  · rw [if_pos h, s0_lo (by omega), cls_mem h]
  · rw [if_neg h, fm (by omega) (by omega) (by omega)]
theorem gNn_0 {b : Nat} : gNn 0 b := ⟨by decide, Nat.zero_le _⟩
theorem gN_0 : gN 0 = 0 := by decide
theorem wMem_0 : wMem 0 g_mem (g_twn 1) := by
  have z2 : g_mem 2 0 = 0 := fm (by decide) (by decide) (by decide)
  have z18 : g_mem 18 0 = 0 := fm (by decide) (by decide) (by decide)
  have z10 : ∀ s, g_mem 10 s = 0 := fun s => fm (by decide) (by decide) (by decide)
  refine ⟨⟨⟨by rw [z2]; exact gNn_0, fun r hr => absurd hr (by rw [z2, gN_0]; exact Nat.not_lt_zero _)⟩, fun s hs => ⟨?_, Or.inl (z10 s), ?_, Or.inr ?_, fun h => absurd (z10 s) h⟩, fun c hc => ⟨Or.inl (fm7 hc), fun s hs h => absurd (z10 s) h⟩, ?_, fun o ho => ?_, fun r hr => Or.inl (fm21 hr)⟩, ⟨by rw [z18]; exact gNn_0, ?_, fun k hk => absurd hk (by rw [z18, gN_0]; exact Nat.not_lt_zero _), fun s hs h => absurd ((z10 s).symm.trans h) (by decide), fun k j hkj hj => absurd hj (by rw [z18, gN_0]; exact Nat.not_lt_zero _)⟩, ?_, fun i hi => ?_, ?_, fun r hr => ⟨?_, ?_, ?_⟩, fun s hs => ⟨?_, ?_, ?_, ?_, ?_, ?_, ?_, ?_, ?_⟩, fun o ho => ?_, fun r hr => ?_⟩
  · rw [fm (by decide) (by decide) (by decide)]; exact gNn_0
  · rw [fm (by decide) (by decide) (by decide)]; exact gNn_0
  · rw [fm (by decide) (by decide) (by decide)]; exact gNn_0
  · rw [fm (by decide) (by decide) (by decide)]; exact gNn_0
  · rw [fm20 ho]; exact gNn_nI (n := 240) (Nat.le_refl _) (by decide)
  · rw [ft (by omega)]; exact gNn_0
  · rw [ft (by omega), fm (by decide) (by decide) (by decide)]
  · rw [ft (by omega), fm (by decide) (by decide) (by decide)]
  · rw [ft (by omega), fm (by decide) (by decide) (by decide)]
  · rw [ft (by omega), fm (by decide) (by decide) (by decide)]
  · rw [ft (by omega), fm (by decide) (by decide) (by decide)]
  · rw [ft (by omega), fm (by decide) (by decide) (by decide)]
  · rw [ft (by omega), fm (by decide) (by decide) (by decide)]
  · rw [ft (by omega), fm (by decide) (by decide) (by decide)]
  · rw [ft (by omega), fm (by decide) (by decide) (by decide)]
  · rw [ft (by omega), fm (by decide) (by decide) (by decide)]
  · rw [ft (by omega), fm (by decide) (by decide) (by decide)]
  · rw [ft (by omega), fm (by decide) (by decide) (by decide)]
  · rw [ft (by omega), fm (by decide) (by decide) (by decide)]
  · rw [ft (by omega), fm (by decide) (by decide) (by decide)]
  · rw [ft (by omega), fm (by decide) (by decide) (by decide)]
  · rw [ft1 ho, fm20 ho]
  · rw [ft2 hr, fm21 hr]
theorem s0_z {i j : Nat} (h : 89 ≤ i) (h2 : i ≠ 105) : g_s0 i j = 0 := by
  by_cases h3 : i < 104
  · rw [s0_lo h3, cls_z h]
  · obtain ⟨k, rfl⟩ : ∃ k, i = 104 + k := ⟨i - 104, by omega⟩
    rw [s0_hi, ft (by omega)]
theorem s0_08 : g_s0 0 8 = 0 := rfl
theorem s0_mode : g_s0 126 0 = 0 := s0_z (by decide) (by decide)
theorem wRel_0 : wRel 0 g_s0 := by
  refine ⟨?_, ⟨?_, Or.inl s0_08, fun h => absurd (s0_08.symm.trans h) (by decide)⟩, ⟨⟨fun _ => ?_, fun h => absurd (s0_mode.symm.trans h) (by decide)⟩, ?_, fun i hi => ⟨?_, ?_⟩⟩, fun h hh => ⟨?_, Or.inl ?_, fun e => absurd ((s0_z (by decide) (by decide)).symm.trans e) (by decide), fun e => absurd ((s0_z (by decide) (by decide)).symm.trans e) (by decide)⟩⟩
  · rw [mem_0]
    exact wMem_0
  · rw [s0_z (by decide) (by decide), s0_08]
  · rw [s0_z (by decide) (by decide), s0_z (by decide) (by decide)]
  · rw [s0_z (by decide) (by decide)]; exact gNn_0
  · rw [s0_z (by decide) (by decide), s0_z (by decide) (by decide)]
  · rw [s0_z (by decide) (by decide)]; exact gNn_0
  · rw [s0_z (by decide) (by decide), s0_z (by decide) (by decide)]
  · exact s0_z (by decide) (by decide)
