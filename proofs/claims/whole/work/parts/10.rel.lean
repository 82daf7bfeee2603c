/-! numbers, reads behind writes -/
abbrev gN (x : Int32) : Nat := x.toNatClampNeg
def gNn (x : Int32) (b : Nat) : Prop := x = nI (gN x) ∧ gN x ≤ b
theorem g_lit (n : Nat) : (@OfNat.ofNat Int32 n Int32.instOfNat) = nI (@OfNat.ofNat Nat n (instOfNatNat n)) := rfl
theorem g_rng {x : Int32} {a b : Nat} (ha : a < 2 ^ 31) (hb : b < 2 ^ 31) (h1 : ¬ x < nI a) (h2 : ¬ nI b < x) : ∃ n, a ≤ n ∧ n ≤ b ∧ x = nI n := by
  rw [Int32.lt_iff_toInt_lt] at h1 h2
  rw [nI_toInt hb] at h2
  rw [nI_toInt ha] at h1
  refine ⟨x.toInt.toNat, by omega, by omega, ?_⟩
  apply Int32.toInt_inj.mp
  rw [nI_toInt (by omega)]
  omega
theorem gNn_nI {n b : Nat} (h : n ≤ b) (hb : b < 2 ^ 31) : gNn (nI n) b := ⟨by rw [gN, nI_clamp (by omega)], by rw [gN, nI_clamp (by omega)]; exact h⟩
theorem gN_nI {n : Nat} (h : n < 2 ^ 31) : gN (nI n) = n := nI_clamp h
theorem gNn_up {x : Int32} {a b : Nat} (h : gNn x a) (hab : a ≤ b) : gNn x b := ⟨h.1, Nat.le_trans h.2 hab⟩
theorem g_up_1 {σ : gM} {a i b j : Nat} {v : Int32} (h : b ≠ a) : g_up σ a i v b j = σ b j := by simp [g_up, h]
theorem g_up_2 {σ : gM} {a i j : Nat} {v : Int32} (h : j ≠ i) : g_up σ a i v a j = σ a j := by simp [g_up, h]
theorem g_up_3 {σ : gM} {a i : Nat} {v : Int32} : g_up σ a i v a i = v := by simp [g_up]
/-- how a call ends: with r, in σ' -/
def gR (C : gC) (Y : gY) (as : List Value) (σ : gM) (r : Option Value) (σ' : gM) : Prop := ∀ K : gK, K r σ' → g_inv C Y as σ K
/-! the class's memory at a base, the twin's row of numbers -/
def gMem (σ : gM) (b : Nat) : gM := fun i j => if i < 22 then σ (b + i) j else 0
/-- places: 0 epoch; 1 cells; 2 regions: 3 low, 4 size, 5 way; 7 what lies in each cell; 9 generation, 10 life, 11 low, 12 size, 13 region, 14 owner, 15 pins, 16 tag, 17 doomed by; 18 tags in order: 19 slots; 20 quotas; 21 readers -/
def wReg (m : gM) : Prop := gNn (m 2 0) 6 ∧ ∀ r, r < gN (m 2 0) → gNn (m 3 r) 240 ∧ gNn (m 4 r) 120 ∧ 8 ≤ gN (m 4 r) ∧ (m 5 r = 0 ∨ m 5 r = 1) ∧ gN (m 3 r) + gN (m 4 r) ≤ 240 ∧ (r = 0 → gN (m 3 r) = 0) ∧ (r + 1 < gN (m 2 0) → gN (m 3 (r + 1)) = gN (m 3 r) + gN (m 4 r))
/-- a block of a slot that holds one -/
def wBlk (m : gM) (s : Nat) : Prop := gNn (m 13 s) 5 ∧ gN (m 13 s) < gN (m 2 0) ∧ gNn (m 12 s) 40 ∧ 1 ≤ gN (m 12 s) ∧ gNn (m 11 s) 240 ∧ gN (m 3 (gN (m 13 s))) ≤ gN (m 11 s) ∧ gN (m 11 s) + gN (m 12 s) ≤ gN (m 3 (gN (m 13 s))) + gN (m 4 (gN (m 13 s))) ∧ gNn (m 14 s) 9 ∧ gNn (m 15 s) 9
def wSlot (B : Nat) (m : gM) (s : Nat) : Prop := gNn (m 9 s) B ∧ (m 10 s = 0 ∨ m 10 s = 1 ∨ m 10 s = 2) ∧ gNn (m 17 s) B ∧ (m 16 s = -1 ∨ gNn (m 16 s) 499) ∧ (m 10 s ≠ 0 → wBlk m s)
def wGrd (m : gM) : Prop := ∀ c, c < 240 → (m 7 c = -1 ∨ ∃ s, s < 30 ∧ m 10 s ≠ 0 ∧ m 7 c = nI s) ∧ ∀ s, s < 30 → m 10 s ≠ 0 → ((gN (m 11 s) ≤ c ∧ c < gN (m 11 s) + gN (m 12 s)) ↔ m 7 c = nI s)
def wTag (B : Nat) (m : gM) (g : Nat → Int32) : Prop := gNn (m 18 0) 30 ∧ gNn (g 606) B ∧ (∀ k, k < gN (m 18 0) → gNn (m 19 k) 29 ∧ m 10 (gN (m 19 k)) = 1 ∧ m 16 (gN (m 19 k)) ≠ -1 ∧ gNn (g (gN (m 19 k) * 11 + 8)) B ∧ gN (g (gN (m 19 k) * 11 + 8)) < gN (g 606)) ∧
  (∀ s, s < 30 → m 10 s = 1 → m 16 s ≠ -1 → ∃ k, k < gN (m 18 0) ∧ m 19 k = nI s) ∧
  (∀ k j, k < j → j < gN (m 18 0) → gN (g (gN (m 19 k) * 11 + 8)) < gN (g (gN (m 19 j) * 11 + 8)) ∧ m 16 (gN (m 19 k)) ≠ m 16 (gN (m 19 j)))
def wRest (B : Nat) (m : gM) : Prop := gNn (m 0 0) B ∧ (∀ o, o < 10 → gNn (m 20 o) 240) ∧ ∀ r, r < 6 → m 21 r = -1 ∨ gNn (m 21 r) B
def wEq (m : gM) (g : Nat → Int32) : Prop := g 605 = m 0 0 ∧ (∀ i, i < 240 → g (330 + i) = m 1 i) ∧ g 570 = m 2 0 ∧ (∀ r, r < 6 → g (571 + r) = m 3 r ∧ g (577 + r) = m 4 r ∧ g (583 + r) = m 5 r) ∧
  (∀ s, s < 30 → g (s * 11 + 0) = m 10 s ∧ g (s * 11 + 1) = m 9 s ∧ g (s * 11 + 2) = m 11 s ∧ g (s * 11 + 3) = m 12 s ∧ g (s * 11 + 4) = m 13 s ∧ g (s * 11 + 5) = m 14 s ∧ g (s * 11 + 6) = m 15 s ∧ g (s * 11 + 7) = m 16 s ∧ g (s * 11 + 9) = m 17 s) ∧
  (∀ o, o < 10 → g (589 + o) = m 20 o) ∧ ∀ r, r < 6 → g (599 + r) = m 21 r
def wWf (B : Nat) (m : gM) : Prop := wReg m ∧ (∀ s, s < 30 → wSlot B m s) ∧ wGrd m ∧ wRest B m
/-- the class's memory and the twin's row say the same -/
def wMem (B : Nat) (m : gM) (g : Nat → Int32) : Prop := wWf B m ∧ wTag B m g ∧ wEq m g
/-- ghosts: 126 0 is 1 while a script's lines are done; then 200 + i is what object i was before them -/
def wF (i : Nat) : Prop := (45 ≤ i ∧ i < 67) ∨ (95 ≤ i ∧ i < 99) ∨ i = 104 ∨ i = 107 ∨ i = 114 ∨ i = 125
def wGh (σ : gM) : Prop := σ 126 0 = 1 → ∀ i, wF i → σ i = σ (200 + i)
def wTape (σ : gM) : Prop := ((σ 126 0 = 0 → σ 104 11 = σ 95 0) ∧ wGh σ) ∧ gNn (σ 95 0) 120 ∧ ∀ i, i < 120 → σ 114 i = σ 96 i ∧ gNn (σ 96 i) 255
def wHold (σ : gM) : Prop := ∀ h, h < 6 → σ 115 h = σ 100 h ∧ (σ 100 h = 0 ∨ σ 100 h = 1 ∨ σ 100 h = 2) ∧ (σ 100 h = 1 → σ 116 h = σ 101 h) ∧ (σ 100 h = 2 → σ 117 h = σ 102 h ∧ gNn (σ 102 h) 60 ∧ ∀ i, i < gN (σ 102 h) → σ (119 + h) i = σ 103 (h * 60 + i))
def wKept (B : Nat) (σ : gM) : Prop := σ 104 4 = σ 0 8 ∧ (σ 0 8 = 0 ∨ σ 0 8 = 1) ∧ (σ 0 8 = 1 → wMem B (gMem σ 23) (σ 108))
/-- the class and its twin, side by side -/
def wRel (B : Nat) (σ : gM) : Prop := wMem B (gMem σ 1) (σ 105) ∧ wKept B σ ∧ wTape σ ∧ wHold σ
/-- the graph: the class at 0, its twin at 104 -/
def gOK (G : gG) : Prop := isX9 G 0 ∧ isX10 G 104
