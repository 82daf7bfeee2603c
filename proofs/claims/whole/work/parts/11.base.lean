theorem gMem_in {σ : gM} {b k j : Nat} {v : Int32} (hk : k < 22) : gMem (g_up σ (b + k) j v) b = g_up (gMem σ b) k j v := by
  funext i q
  unfold gMem g_up
  by_cases e : i < 22
  · simp only [if_pos e]
    by_cases e2 : i = k
    · subst e2; simp
    · have : ¬ b + i = b + k := by omega
      simp [e2, this]
  · have : ¬ i = k := by omega
    simp [e, this]
theorem gMem_out {σ : gM} {a b j : Nat} {v : Int32} (h : a < b ∨ b + 22 ≤ a) : gMem (g_up σ a j v) b = gMem σ b := by
  funext i q
  unfold gMem g_up
  by_cases e : i < 22
  · simp only [if_pos e]
    have : ¬ b + i = a := by omega
    simp [this]
  · simp [e]
theorem gMem_eq {σ σ' : gM} {b : Nat} (h : ∀ i, i < 22 → σ' (b + i) = σ (b + i)) : gMem σ' b = gMem σ b := by
  funext i q
  unfold gMem
  by_cases e : i < 22
  · simp only [if_pos e]; rw [h i e]
  · simp [e]
theorem wReg_c {m m' : gM} (h : wReg m) (h2 : m' 2 = m 2) (h3 : m' 3 = m 3) (h4 : m' 4 = m 4) (h5 : m' 5 = m 5) : wReg m' := by
  unfold wReg at h ⊢
  rw [h2, h3, h4, h5]; exact h
theorem wBlk_c {m m' : gM} {s : Nat} (h : wBlk m s) (h2 : m' 2 = m 2) (h3 : m' 3 = m 3) (h4 : m' 4 = m 4) (h11 : m' 11 s = m 11 s) (h12 : m' 12 s = m 12 s) (h13 : m' 13 s = m 13 s) (h14 : m' 14 s = m 14 s) (h15 : m' 15 s = m 15 s) : wBlk m' s := by
  unfold wBlk at h ⊢
  rw [h2, h3, h4, h11, h12, h13, h14, h15]; exact h
theorem wSlot_c {B B' : Nat} {m m' : gM} {s : Nat} (h : wSlot B m s) (hB : B ≤ B') (h2 : m' 2 = m 2) (h3 : m' 3 = m 3) (h4 : m' 4 = m 4) (h9 : m' 9 s = m 9 s) (h10 : m' 10 s = m 10 s) (h11 : m' 11 s = m 11 s) (h12 : m' 12 s = m 12 s) (h13 : m' 13 s = m 13 s) (h14 : m' 14 s = m 14 s) (h15 : m' 15 s = m 15 s) (h16 : m' 16 s = m 16 s) (h17 : m' 17 s = m 17 s) : wSlot B' m' s := by
  obtain ⟨a1, a2, a3, a4, a5⟩ := h
  unfold wSlot
  rw [h9, h10, h16, h17]
  exact ⟨gNn_up a1 hB, a2, gNn_up a3 hB, a4, fun z => wBlk_c (a5 z) h2 h3 h4 h11 h12 h13 h14 h15⟩
theorem wGrd_c {m m' : gM} (h : wGrd m) (h7 : m' 7 = m 7) (h10 : m' 10 = m 10) (h11 : m' 11 = m 11) (h12 : m' 12 = m 12) : wGrd m' := by
  unfold wGrd at h ⊢
  rw [h7, h10, h11, h12]; exact h
theorem wTag_c {B B' : Nat} {m m' : gM} {g g' : Nat → Int32} (h : wTag B m g) (hB : B ≤ B') (h18 : m' 18 = m 18) (h19 : m' 19 = m 19) (h10 : m' 10 = m 10) (h16 : m' 16 = m 16) (hc : g' 606 = g 606) (hs : ∀ s, s < 30 → g' (s * 11 + 8) = g (s * 11 + 8)) : wTag B' m' g' := by
  obtain ⟨a1, a2, a3, a4, a5⟩ := h
  unfold wTag
  rw [h18, h19, h10, h16, hc]
  refine ⟨a1, gNn_up a2 hB, fun k hk => ?_, a4, fun k j hk hj => ?_⟩
  · obtain ⟨b1, b2, b3, b4, b5⟩ := a3 k hk
    have := b1.2
    rw [hs _ (by omega)]
    exact ⟨b1, b2, b3, gNn_up b4 hB, b5⟩
  · have c1 := (a3 k (by omega)).1.2
    have c2 := (a3 j hj).1.2
    rw [hs _ (by omega), hs _ (by omega)]
    exact a5 k j hk hj
theorem wRest_c {B B' : Nat} {m m' : gM} (h : wRest B m) (hB : B ≤ B') (h0 : m' 0 0 = m 0 0) (h20 : m' 20 = m 20) (h21 : m' 21 = m 21) : wRest B' m' := by
  obtain ⟨a1, a2, a3⟩ := h
  unfold wRest
  rw [h0, h20, h21]
  exact ⟨gNn_up a1 hB, a2, fun r hr => (a3 r hr).imp id (fun z => gNn_up z hB)⟩
theorem wMem_up {B B' : Nat} {m : gM} {g : Nat → Int32} (h : wMem B m g) (hB : B ≤ B') : wMem B' m g := by
  obtain ⟨⟨a1, a2, a3, a4⟩, a5, a6⟩ := h
  exact ⟨⟨a1, fun s hs => wSlot_c (a2 s hs) hB rfl rfl rfl rfl rfl rfl rfl rfl rfl rfl rfl rfl, a3, wRest_c a4 hB rfl rfl rfl⟩, wTag_c a5 hB rfl rfl rfl rfl rfl (fun _ _ => rfl), a6⟩
/-- what a call of the class's memory and the twin's row leaves of the rest -/
theorem wRel_now {B B' : Nat} {σ σ' : gM} (h : wRel B σ) (hB : B ≤ B') (hm : wMem B' (gMem σ' 1) (σ' 105)) (ho : ∀ i, i < 1000 → (i = 0 ∨ 23 ≤ i) → i ≠ 105 → σ' i = σ i) : wRel B' σ' := by
  obtain ⟨-, ⟨k1, k2, k3⟩, t, q⟩ := h
  refine ⟨hm, ⟨?_, ?_, ?_⟩, ?_, ?_⟩
  · rw [ho 104 (by omega) (by omega) (by omega), ho 0 (by omega) (by omega) (by omega)]; exact k1
  · rw [ho 0 (by omega) (by omega) (by omega)]; exact k2
  · intro z
    rw [ho 0 (by omega) (by omega) (by omega)] at z
    rw [gMem_eq (σ := σ) (fun i hi => ho (23 + i) (by omega) (by omega) (by omega)), ho 108 (by omega) (by omega) (by omega)]
    exact wMem_up (k3 z) hB
  · obtain ⟨⟨t0, tg⟩, t⟩ := t
    unfold wTape wGh
    rw [ho 104 (by omega) (by omega) (by omega), ho 95 (by omega) (by omega) (by omega), ho 96 (by omega) (by omega) (by omega), ho 114 (by omega) (by omega) (by omega), ho 126 (by omega) (by omega) (by omega)]
    refine ⟨⟨t0, fun z i hi => ?_⟩, t⟩
    have hi2 := hi
    unfold wF at hi2
    rw [ho i (by omega) (by omega) (by omega), ho (200 + i) (by omega) (by omega) (by omega)]
    exact tg z i hi
  · intro x hx
    have := q x hx
    rw [ho 115 (by omega) (by omega) (by omega), ho 100 (by omega) (by omega) (by omega), ho 116 (by omega) (by omega) (by omega), ho 101 (by omega) (by omega) (by omega), ho 117 (by omega) (by omega) (by omega), ho 102 (by omega) (by omega) (by omega), ho 103 (by omega) (by omega) (by omega), ho (119 + x) (by omega) (by omega) (by omega)]
    exact this
theorem wRel_up {B B' : Nat} {σ : gM} (h : wRel B σ) (hB : B ≤ B') : wRel B' σ := wRel_now h hB (wMem_up h.1 hB) (fun _ _ _ _ => rfl)
section HS
variable {G : gG}
theorem hNow (h : gOK G) : isX3 G 1 := iX9_0 h.1
theorem hReg (h : gOK G) : isX5 G 3 := iX3_2 (hNow h)
theorem hGrd (h : gOK G) : isX1 G 7 := iX3_3 (hNow h)
theorem hBlk (h : gOK G) : isX0 G 9 := iX3_4 (hNow h)
theorem hTgo (h : gOK G) : isX6 G 19 := iX3_5 (hNow h)
theorem hKep (h : gOK G) : isX3 G 23 := iX9_1 h.1
theorem hBef (h : gOK G) : isX3 G 45 := iX9_2 h.1
theorem hTho (h : gOK G) : isX3 G 67 := iX9_3 h.1
theorem hWlk (h : gOK G) : isX8 G 89 := iX9_4 h.1
theorem hPln (h : gOK G) : isX4 G 92 := iX9_5 h.1
theorem hTap (h : gOK G) : isX7 G 95 := iX9_6 h.1
theorem hHol (h : gOK G) : isX2 G 99 := iX9_7 h.1
end HS
/-! readers -/
theorem wMem_in {B : Nat} {m : gM} {g : Nat → Int32} {j : Nat} {v : Int32} (h : wMem B m g) (hj : j < 6) (hv : v = -1 ∨ gNn v B) : wMem B (g_up m 21 j v) (upd g (599 + j) v) := by
  obtain ⟨⟨a1, a2, a3, a4, a5, a6⟩, b, c1, c2, c3, c4, c5, c6, c7⟩ := h
  refine ⟨⟨wReg_c a1 (g_up_o (by decide)) (g_up_o (by decide)) (g_up_o (by decide)) (g_up_o (by decide)), fun s hs => wSlot_c (a2 s hs) (Nat.le_refl _) (g_up_o (by decide)) (g_up_o (by decide)) (g_up_o (by decide)) rfl rfl rfl rfl rfl rfl rfl rfl rfl, wGrd_c a3 (g_up_o (by decide)) (g_up_o (by decide)) (g_up_o (by decide)) (g_up_o (by decide)), a4, a5, fun r hr => ?_⟩, wTag_c b (Nat.le_refl _) (g_up_o (by decide)) (g_up_o (by decide)) (g_up_o (by decide)) (g_up_o (by decide)) ?_ (fun s hs => ?_), ?_⟩
  · by_cases e : r = j
    · subst e; rw [g_up_3]; exact hv
    · rw [g_up_2 e]; exact a6 r hr
  · unfold upd; rw [if_neg (by omega)]
  · unfold upd; rw [if_neg (by omega)]
  · refine ⟨?_, fun i hi => ?_, ?_, fun r hr => ?_, fun s hs => ?_, fun o ho => ?_, fun r hr => ?_⟩
    · unfold upd; rw [if_neg (by omega)]; exact c1
    · unfold upd; rw [if_neg (by omega)]; exact c2 i hi
    · unfold upd; rw [if_neg (by omega)]; exact c3
    · unfold upd; rw [if_neg (by omega), if_neg (by omega), if_neg (by omega)]; exact c4 r hr
    · unfold upd; simp only [show ∀ q, q < 11 → ¬ s * 11 + q = 599 + j from fun q hq => by omega, show (0:Nat) < 11 by decide, show (1:Nat) < 11 by decide, show (2:Nat) < 11 by decide, show (3:Nat) < 11 by decide, show (4:Nat) < 11 by decide, show (5:Nat) < 11 by decide, show (6:Nat) < 11 by decide, show (7:Nat) < 11 by decide, show (9:Nat) < 11 by decide, if_false]; exact c5 s hs
    · unfold upd; rw [if_neg (by omega)]; exact c6 o ho
    · by_cases e : r = j
      · subst e; simp [upd, g_up_3]
      · rw [g_up_2 e]; unfold upd; rw [if_neg (by omega)]; exact c7 r hr
