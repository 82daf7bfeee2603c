def g_ca (σ : gM) (s t n : Nat) : gM := fun c j => if c = t ∧ j < n then σ s j else σ c j
theorem g_ca_o {σ : gM} {s t n c : Nat} (h : c ≠ t) : g_ca σ s t n c = σ c := by
  funext j; simp [g_ca, h]
theorem g_ca_s {σ : gM} {s t n j : Nat} (h : j < n) : g_ca σ s t n t j = σ s j := by simp [g_ca, h]
theorem g_ca_cp {σ : gM} {s t n : Nat} : g_cp σ s t 0 0 n = g_ca σ s t n := by
  funext c j; simp [g_cp, g_ca]
/-- two memories hold the same, as far as they are used -/
def gIR (m' m : gM) : Prop := (m' 0 0 = m 0 0 ∧ m' 2 0 = m 2 0 ∧ m' 18 0 = m 18 0) ∧ (∀ j, j < 240 → m' 1 j = m 1 j ∧ m' 7 j = m 7 j) ∧ (∀ j, j < 6 → m' 3 j = m 3 j ∧ m' 4 j = m 4 j ∧ m' 5 j = m 5 j ∧ m' 21 j = m 21 j) ∧
  (∀ j, j < 30 → m' 9 j = m 9 j ∧ m' 10 j = m 10 j ∧ m' 11 j = m 11 j ∧ m' 12 j = m 12 j ∧ m' 13 j = m 13 j ∧ m' 14 j = m 14 j ∧ m' 15 j = m 15 j ∧ m' 16 j = m 16 j ∧ m' 17 j = m 17 j ∧ m' 19 j = m 19 j) ∧ ∀ j, j < 10 → m' 20 j = m 20 j
theorem gIR_blk {m' m : gM} (h : gIR m' m) {s : Nat} (hs : s < 30) (hr : gN (m 2 0) ≤ 6) (w : wBlk m s) : wBlk m' s := by
  obtain ⟨⟨h0, h2, h18⟩, h240, h6, h30, h10⟩ := h
  obtain ⟨a9, a10, a11, a12, a13, a14, a15, a16, a17, a19⟩ := h30 s hs
  unfold wBlk at w ⊢
  obtain ⟨w1, w2, w3⟩ := w
  rw [a11, a12, a13, a14, a15, h2, (h6 _ (by omega)).1, (h6 _ (by omega)).2.1]
  exact ⟨w1, w2, w3⟩
theorem wMem_ir {B : Nat} {m m' : gM} {g g' : Nat → Int32} (h : gIR m' m) (hg : ∀ i, i < 607 → g' i = g i) (w : wMem B m g) : wMem B m' g' := by
  have hh := h
  obtain ⟨⟨h0, h2, h18⟩, h240, h6, h30, h10⟩ := h
  obtain ⟨⟨⟨r1, r2⟩, sl, gr, re1, re2, re3⟩, ⟨t1, t2, t3, t4, t5⟩, c1, c2, c3, c4, c5, c6, c7⟩ := w
  have hr6 := r1.2
  have hn30 := t1.2
  refine ⟨⟨⟨by rw [h2]; exact r1, fun r hr => ?_⟩, fun s hs => ?_, fun c hc => ?_, by rw [h0]; exact re1, fun o ho => by rw [h10 o ho]; exact re2 o ho, fun r hr => by rw [(h6 r hr).2.2.2]; exact re3 r hr⟩, ⟨by rw [h18]; exact t1, by rw [hg 606 (by decide)]; exact t2, fun k hk => ?_, fun s hs z1 z2 => ?_, fun k j hkj hj => ?_⟩, ?_⟩
  · rw [h2] at hr ⊢
    rw [(h6 r (by omega)).1, (h6 r (by omega)).2.1, (h6 r (by omega)).2.2.1]
    obtain ⟨q1, q2, q3, q4, q5, q6, q7⟩ := r2 r hr
    exact ⟨q1, q2, q3, q4, q5, q6, fun z => by rw [(h6 (r + 1) (by omega)).1]; exact q7 z⟩
  · obtain ⟨a9, a10, a11, a12, a13, a14, a15, a16, a17, a19⟩ := h30 s hs
    obtain ⟨q1, q2, q3, q4, q5⟩ := sl s hs
    unfold wSlot
    rw [a9, a10, a16, a17]
    exact ⟨q1, q2, q3, q4, fun z => gIR_blk hh hs hr6 (q5 z)⟩
  · obtain ⟨q1, q2⟩ := gr c hc
    rw [(h240 c hc).2]
    refine ⟨q1.imp id (fun ⟨s, hs, z1, z2⟩ => ⟨s, hs, by rw [(h30 s hs).2.1]; exact z1, z2⟩), fun s hs z => ?_⟩
    obtain ⟨a9, a10, a11, a12, -⟩ := h30 s hs
    rw [a10] at z
    rw [a11, a12]
    exact q2 s hs z
  · rw [h18] at hk
    have hk30 : k < 30 := by omega
    obtain ⟨q1, q2, q3, q4, q5⟩ := t3 k hk
    have q12 := q1.2
    rw [(h30 k hk30).2.2.2.2.2.2.2.2.2, (h30 _ (show gN (m 19 k) < 30 by omega)).2.1, (h30 _ (show gN (m 19 k) < 30 by omega)).2.2.2.2.2.2.2.1, hg _ (by omega), hg 606 (by decide)]
    exact ⟨q1, q2, q3, q4, q5⟩
  · rw [(h30 s hs).2.1] at z1
    rw [(h30 s hs).2.2.2.2.2.2.2.1] at z2
    obtain ⟨k, hk, e⟩ := t4 s hs z1 z2
    exact ⟨k, by rw [h18]; exact hk, by rw [(h30 k (by omega)).2.2.2.2.2.2.2.2.2]; exact e⟩
  · rw [h18] at hj
    have q1 := (t3 k (by omega)).1.2
    have q2 := (t3 j hj).1.2
    rw [(h30 k (by omega)).2.2.2.2.2.2.2.2.2, (h30 j (by omega)).2.2.2.2.2.2.2.2.2, (h30 _ (show gN (m 19 k) < 30 by omega)).2.2.2.2.2.2.2.1, (h30 _ (show gN (m 19 j) < 30 by omega)).2.2.2.2.2.2.2.1, hg _ (by omega), hg _ (by omega)]
    exact t5 k j hkj hj
  · refine ⟨by rw [hg _ (by decide), h0]; exact c1, fun i hi => by rw [hg _ (by omega), (h240 i hi).1]; exact c2 i hi, by rw [hg _ (by decide), h2]; exact c3, fun r hr => ?_, fun s hs => ?_, fun o ho => by rw [hg _ (by omega), h10 o ho]; exact c6 o ho, fun r hr => by rw [hg _ (by omega), (h6 r hr).2.2.2]; exact c7 r hr⟩
    · rw [hg _ (by omega), hg _ (by omega), hg _ (by omega), (h6 r hr).1, (h6 r hr).2.1, (h6 r hr).2.2.1]
      exact c4 r hr
    · obtain ⟨a9, a10, a11, a12, a13, a14, a15, a16, a17, a19⟩ := h30 s hs
      rw [hg _ (by omega), hg _ (by omega), hg _ (by omega), hg _ (by omega), hg _ (by omega), hg _ (by omega), hg _ (by omega), hg _ (by omega), hg _ (by omega), a9, a10, a11, a12, a13, a14, a15, a16, a17]
      exact c5 s hs
section O19
variable {G : gG} {d B : Nat} {σ : gM} {K : gK}
theorem copyAll_eq {s t n : Nat} (h0 : (G s).1 = 11) (m0 : (G s).2.1 = n) (h1 : (G t).1 = 11) (m1 : (G t).2.1 = n) (hn : n < 2 ^ 30) : g_inv (gCm' G (d + 1)) mX9_copyAll [.ref s, .ref t] σ K = K none (g_ca σ s t n) := by
  rw [EX9_copyAll h0 m0 h1 m1]
  have e : (if Int32.ofNat n < Int32.ofNat n then Int32.ofNat n else Int32.ofNat n) = nI n := by split <;> rfl
  have e2 : (nI n).toNatClampNeg = n := nI_clamp (by omega)
  have e3 : ¬ nI n < 0 := nI_pos (by omega)
  have e4 : (0 : Int32).toNatClampNeg = 0 := by decide
  simp only [e, e2, e3, e4, Nat.zero_add, Nat.le_refl, show ¬ (0 : Int32) < 0 by decide, not_false_eq_true, true_and, g_ca_cp]
def gcm_0 (σ : gM) (a b : Nat) : gM := g_up σ a 0 (σ b 0)
def gcm_1 (σ : gM) (a b : Nat) : gM := g_ca (gcm_0 σ a b) (b + 1) (a + 1) 240
def gcm_2 (σ : gM) (a b : Nat) : gM := g_up (gcm_1 σ a b) (a + 2) 0 (gcm_1 σ a b (b + 2) 0)
def gcm_3 (σ : gM) (a b : Nat) : gM := g_ca (gcm_2 σ a b) (b + 3) (a + 3) 6
def gcm_4 (σ : gM) (a b : Nat) : gM := g_ca (gcm_3 σ a b) (b + 4) (a + 4) 6
def gcm_5 (σ : gM) (a b : Nat) : gM := g_ca (gcm_4 σ a b) (b + 5) (a + 5) 6
def gcm_6 (σ : gM) (a b : Nat) : gM := g_ca (gcm_5 σ a b) (b + 7) (a + 7) 240
def gcm_7 (σ : gM) (a b : Nat) : gM := g_ca (gcm_6 σ a b) (b + 9) (a + 9) 30
def gcm_8 (σ : gM) (a b : Nat) : gM := g_ca (gcm_7 σ a b) (b + 10) (a + 10) 30
def gcm_9 (σ : gM) (a b : Nat) : gM := g_ca (gcm_8 σ a b) (b + 11) (a + 11) 30
def gcm_10 (σ : gM) (a b : Nat) : gM := g_ca (gcm_9 σ a b) (b + 12) (a + 12) 30
def gcm_11 (σ : gM) (a b : Nat) : gM := g_ca (gcm_10 σ a b) (b + 13) (a + 13) 30
def gcm_12 (σ : gM) (a b : Nat) : gM := g_ca (gcm_11 σ a b) (b + 14) (a + 14) 30
def gcm_13 (σ : gM) (a b : Nat) : gM := g_ca (gcm_12 σ a b) (b + 15) (a + 15) 30
def gcm_14 (σ : gM) (a b : Nat) : gM := g_ca (gcm_13 σ a b) (b + 16) (a + 16) 30
def gcm_15 (σ : gM) (a b : Nat) : gM := g_ca (gcm_14 σ a b) (b + 17) (a + 17) 30
def gcm_16 (σ : gM) (a b : Nat) : gM := g_up (gcm_15 σ a b) (a + 18) 0 (gcm_15 σ a b (b + 18) 0)
def gcm_17 (σ : gM) (a b : Nat) : gM := g_ca (gcm_16 σ a b) (b + 19) (a + 19) 30
def gcm_18 (σ : gM) (a b : Nat) : gM := g_ca (gcm_17 σ a b) (b + 20) (a + 20) 10
def gcm_19 (σ : gM) (a b : Nat) : gM := g_ca (gcm_18 σ a b) (b + 21) (a + 21) 6

set_option maxHeartbeats 4000000 in
theorem copyFrom_eq {a b : Nat} (ha : isX3 G a) (hb : isX3 G b) : g_inv (gCm' G (d + 3)) mX3_copyFrom [.ref a, .ref b] σ K = K none (gcm_19 σ a b) := by
  have a5 := iX3_2 ha
  have b5 := iX3_2 hb
  have a1 := iX3_3 ha
  have b1 := iX3_3 hb
  have a0 := iX3_4 ha
  have b0 := iX3_4 hb
  have a6 := iX3_5 ha
  have b6 := iX3_5 hb
  rw [EX3_copyFrom ha hb]
  simp only [BX3_copyFrom_8 ha hb, BX3_copyFrom_19 ha hb, BX3_copyFrom_30 ha hb, BX3_copyFrom_41 ha hb, BX3_copyFrom_52 ha hb, BX3_copyFrom_63 ha hb, BX3_copyFrom_74 ha hb, BX3_copyFrom_85 ha hb,
    EX5_copyFrom, BX5_copyFrom_8, BX5_copyFrom_19, BX5_copyFrom_30, BX5_copyFrom_41, EX1_copyFrom, BX1_copyFrom_11, EX0_copyFrom, BX0_copyFrom_11, BX0_copyFrom_22, BX0_copyFrom_33, BX0_copyFrom_44, BX0_copyFrom_55, BX0_copyFrom_66, BX0_copyFrom_77, BX0_copyFrom_88, BX0_copyFrom_99, EX6_copyFrom, BX6_copyFrom_8, BX6_copyFrom_19, a5, b5, a1, b1, a0, b0, a6, b6,
    Option.toList_none, List.nil_append,
    copyAll_eq (aX3_1 hb) (nX3_1 hb) (aX3_1 ha) (nX3_1 ha) (by decide), copyAll_eq (aX3_6 hb) (nX3_6 hb) (aX3_6 ha) (nX3_6 ha) (by decide), copyAll_eq (aX3_7 hb) (nX3_7 hb) (aX3_7 ha) (nX3_7 ha) (by decide),
    copyAll_eq (aX5_1 b5) (nX5_1 b5) (aX5_1 a5) (nX5_1 a5) (by decide), copyAll_eq (aX5_2 b5) (nX5_2 b5) (aX5_2 a5) (nX5_2 a5) (by decide), copyAll_eq (aX5_3 b5) (nX5_3 b5) (aX5_3 a5) (nX5_3 a5) (by decide),
    copyAll_eq (aX1_0 b1) (nX1_0 b1) (aX1_0 a1) (nX1_0 a1) (by decide), copyAll_eq (aX6_1 b6) (nX6_1 b6) (aX6_1 a6) (nX6_1 a6) (by decide),
    copyAll_eq (aX0_0 b0) (nX0_0 b0) (aX0_0 a0) (nX0_0 a0) (by decide), copyAll_eq (aX0_1 b0) (nX0_1 b0) (aX0_1 a0) (nX0_1 a0) (by decide), copyAll_eq (aX0_2 b0) (nX0_2 b0) (aX0_2 a0) (nX0_2 a0) (by decide), copyAll_eq (aX0_3 b0) (nX0_3 b0) (aX0_3 a0) (nX0_3 a0) (by decide), copyAll_eq (aX0_4 b0) (nX0_4 b0) (aX0_4 a0) (nX0_4 a0) (by decide), copyAll_eq (aX0_5 b0) (nX0_5 b0) (aX0_5 a0) (nX0_5 a0) (by decide), copyAll_eq (aX0_6 b0) (nX0_6 b0) (aX0_6 a0) (nX0_6 a0) (by decide), copyAll_eq (aX0_7 b0) (nX0_7 b0) (aX0_7 a0) (nX0_7 a0) (by decide), copyAll_eq (aX0_8 b0) (nX0_8 b0) (aX0_8 a0) (nX0_8 a0) (by decide)]
  rfl
end O19
