section O57
variable {G : gG} {d B M : Nat} {b : Nat → Int32} {σ : gM} {K : gK}
theorem tr_inv {A : Nat → Bool} (hcl : ∀ a, A a = true → ∀ f, A ((G a).2.2 f) = true) {Y : gY} {as : List Value} (ha : gAll A as) {r : Option Value} {σ1 z : gM} (e : ∀ K : gK, g_inv (gCm' G d) Y as σ K = K r σ1) (hz : gAg A z σ) (hk : K r (gMg A σ1 z)) : g_inv (gCm' G d) Y as z K := by
  obtain ⟨r', s', ⟨rfl, rfl⟩, -, -, t⟩ := gI_1 hcl ha (Q := fun r' s => r' = r ∧ s = σ1) (by rw [e]; exact ⟨rfl, rfl⟩)
  exact t z hz K hk
theorem gMg_up {A : Nat → Bool} {s x : gM} {a k : Nat} {v : Int32} (ha : A a = true) : g_up (gMg A s x) a k v = gMg A (g_up s a k v) x := by
  funext c j
  unfold gMg g_up
  by_cases e : A c = true
  · simp only [e, ↓reduceIte]
  · have : c ≠ a := fun z => e (by rw [z]; exact ha)
    simp only [e, this, false_and, ↓reduceIte, Bool.false_eq_true]
theorem gAg_up {A : Nat → Bool} {s x : gM} {a k : Nat} {v : Int32} (h : gAg A x s) : gAg A (g_up x a k v) (g_up s a k v) := fun c hc => by
  funext j
  unfold g_up
  rw [h c hc]
theorem gMg_c {A : Nat → Bool} {s x : gM} {c : Nat} (h : A c = true) : gMg A s x c = s c := by unfold gMg; rw [if_pos h]
/-- one call, in both: what each does where it alone is -/
def gSp (G : gG) (d B : Nat) (X Y : gY) (as : List Value) (σ : gM) : Prop := ∃ (r : Int32) (σ2 : gM), wRel B σ2 ∧ (∀ b, 126 ≤ b → σ2 b = σ b) ∧ (∀ x, gAg cA x σ → ∀ K : gK, K (some (.int r)) (gMg cA σ2 x) → g_inv (gCm' G d) X (.ref 0 :: as) x K) ∧ ∀ z, gAg tA z σ → ∀ K : gK, K (some (.int r)) (gMg tA σ2 z) → g_inv (gCm' G d) Y (.ref 104 :: as) z K
/-- the relation, from parts -/
theorem wRel_ex {B' : Nat} {σ' : gM} (h : wRel B σ) (hB : B ≤ B') (hm : wMem B' (gMem σ' 1) (σ' 105)) (ho : ∀ i, (i = 0 ∨ (23 ≤ i ∧ i < 45) ∨ i = 96 ∨ (100 ≤ i ∧ i < 104) ∨ i = 108 ∨ (114 ≤ i ∧ i < 125)) → σ' i = σ i) (h4 : σ' 104 4 = σ 104 4) (h0 : (σ' 126 0 = 0 → σ' 104 11 = σ' 95 0) ∧ wGh σ') (h95 : gNn (σ' 95 0) 120) : wRel B' σ' := by
  obtain ⟨-, ⟨k1, k2, k3⟩, ⟨-, -, t3⟩, q⟩ := h
  have e0 : σ' 0 = σ 0 := ho 0 (Or.inl rfl)
  refine ⟨hm, ⟨by rw [h4, e0]; exact k1, by rw [e0]; exact k2, fun z => ?_⟩, ⟨h0, h95, fun i hi => ?_⟩, fun x hx => ?_⟩
  · rw [e0] at z
    rw [gMem_fl (σ := σ) (fun i h1 h2 => ho i (by omega)), ho 108 (by omega)]
    exact wMem_up (k3 z) hB
  · rw [ho 114 (by omega), ho 96 (by omega)]; exact t3 i hi
  · have := q x hx
    rw [ho 115 (by omega), ho 100 (by omega), ho 116 (by omega), ho 101 (by omega), ho 117 (by omega), ho 102 (by omega), ho 103 (by omega), ho (119 + x) (by omega)]
    exact this
/-- ghosts anew -/
def gSy (s : gM) : gM := fun c => if 200 ≤ c ∧ c < 400 then s (c - 200) else s c
theorem gSy_o {s : gM} {c : Nat} (h : c < 200) : gSy s c = s c := by unfold gSy; rw [if_neg (by omega)]
theorem gSy_g {s : gM} {c : Nat} (h : c < 200) : gSy s (200 + c) = s c := by unfold gSy; rw [if_pos (by omega), show 200 + c - 200 = c by omega]
theorem gSy_gh {s : gM} : wGh (gSy s) := fun _ i hi => by
  have : i < 200 := by unfold wF at hi; omega
  rw [gSy_o this, gSy_g this]
/-- what stays outside, as it is elsewhere -/
def gEx (s τ : gM) : gM := fun c => if c < 126 then s c else τ c
theorem gEx_o {s τ : gM} {c : Nat} (h : c < 126) : gEx s τ c = s c := by unfold gEx; rw [if_pos h]
theorem gMg_ex {s τ x : gM} : gMg cA (gEx s τ) x = gMg cA s x := by
  funext c
  unfold gMg
  by_cases e : cA c = true
  · rw [if_pos e, if_pos e, gEx_o]
    unfold cA at e; simp only [decide_eq_true_eq] at e; omega
  · rw [if_neg e, if_neg e]
theorem gMg_ext {s τ x : gM} : gMg tA (gEx s τ) x = gMg tA s x := by
  funext c
  unfold gMg
  by_cases e : tA c = true
  · rw [if_pos e, if_pos e, gEx_o]
    unfold tA at e; simp only [decide_eq_true_eq] at e; omega
  · rw [if_neg e, if_neg e]
theorem wMem_607 {m : gM} {g g' : Nat → Int32} (h : ∀ i, i < 607 → g' i = g i) (w : wMem B m g) : wMem B m g' := wMem_ir ⟨⟨rfl, rfl, rfl⟩, fun _ _ => ⟨rfl, rfl⟩, fun _ _ => ⟨rfl, rfl, rfl, rfl⟩, fun _ _ => ⟨rfl, rfl, rfl, rfl, rfl, rfl, rfl, rfl, rfl, rfl⟩, fun _ _ => rfl⟩ h w
/-- a number of a line is below 1000 -/
theorem pDe_v : ∀ (f p n k : Nat), n + 1 ≤ k → k * 10 ^ f ≤ 1000 → ∃ n', (pDe M b f p (nI n)).2 = nI n' ∧ n' + 1 ≤ k * 10 ^ f
  | 0, p, n, k, h, _ => ⟨n, rfl, by simpa using h⟩
  | f + 1, p, n, k, h, hk => by
    have e1 : k * 10 ^ (f + 1) = (k * 10) * 10 ^ f := by rw [Nat.pow_succ, Nat.mul_comm (10 ^ f) 10, Nat.mul_assoc]
    have un : pDe M b (f + 1) p (nI n) = if pDg M b p = true then pDe M b f (p + 1) (10 * nI n + pB M b p - 48) else (p, nI n) := rfl
    rw [un]
    have h1 : 1 ≤ 10 ^ f := Nat.one_le_pow _ _ (by decide)
    have h2 : k * 10 ≤ k * 10 * 10 ^ f := Nat.le_mul_of_pos_right _ h1
    by_cases e : pDg M b p = true
    · rw [if_pos e]
      have hd : ¬ pB M b p < 48 ∧ ¬ 57 < pB M b p := by
        unfold pDg at e
        simpa using e
      obtain ⟨x, x1, x2, x3⟩ := g_rng (a := 48) (b := 57) (by decide) (by decide) hd.1 hd.2
      have e2 : 10 * nI n + pB M b p - 48 = nI (10 * n + (x - 48)) := by
        rw [x3, show (10 : Int32) = nI 10 from rfl, pk_mul, nI_add, show (48 : Int32) = nI 48 from rfl, pk_sub (by omega)]
        congr 1; omega
      rw [e2, e1]
      exact pDe_v f (p + 1) (10 * n + (x - 48)) (k * 10) (by omega) (by omega)
    · rw [if_neg e]
      exact ⟨n, rfl, by omega⟩
theorem pV_lt (q : Nat) : ∃ n, n < 1000 ∧ pV M b q = nI n := by
  obtain ⟨n, h1, h2⟩ := pDe_v (M := M) (b := b) 3 (q + 1) 0 1 (by decide) (by decide)
  exact ⟨n, by omega, h1⟩
theorem gcm_19_c {x : gM} {a c : Nat} : gMem (gcm_19 x a c) a = gMem (gcm_19 x a c) a := rfl
theorem sc_loop (h : gOK G) (hc : gSep G) (hM : M ≤ 120) : ∀ (f i p sp B : Nat) (σ : gM), i + f = 60 → B + f ≤ 900000 → wRel B σ → σ 126 0 = 1 → pForm M b f p = none → p ≤ M → sp < M → (i = 0 → sp = p) → (0 < i → sp + 1 = p) → σ 95 3 = nI (i + pNn M b f p) → pRec M b σ f i p → σ 95 0 = 0 → uOk M b σ sp → wMem B (gMem σ 45) (σ 107) →
    ∃ (r : Int32) (σ' : gM), (∀ x, gAg cA x σ → ∀ K : gK, K (some (.int r)) (gMg cA σ' x) → gw (gCm' G (d + 6)) G mX9_script K 45 [.ref 0, .int 1, .int (nI i)] [] x) ∧ (∀ z, gAg tA z σ → ∀ K : gK, K (some (.int r)) (gMg tA σ' z) → gw (gCm' G (d + 6)) G mX10_script K 41 [.ref 104, .int (nI i), .int 1] [] z) ∧ ∀ τ : gM, τ 126 0 = 0 → wRel (B + f) (gEx σ' τ) := by
  intro f
  induction f with
  | zero => intro i p sp B σ _ _ _ _ hF; cases hF
  | succ f ih =>
    intro i p sp B σ hi hB hR hmo hF hp hsp hs0 hs1 h953 hrec h950 hu hsv
    cases hL : pLF M b p with
    | some e => rw [pForm_f hL] at hF; cases hF
    | none =>
    have le := pL_le hL
    obtain ⟨w, hw⟩ : ∃ w, wan (pB M b p) = some w := by
      unfold pLF at hL
      cases hw : wan (pB M b p) with
      | none => rw [hw] at hL; cases hL
      | some w => exact ⟨w, rfl⟩
    have pw := pWn_e hw
    have w3 := wan_3 hw
    obtain ⟨⟨rc1, rc2⟩, rc3⟩ := hrec
    have hN : 1 ≤ pNn M b (f + 1) p := by
      show 1 ≤ (if pL M b p = M then 1 else pNn M b f (pL M b p + 1) + 1)
      split <;> omega
    have hN60 : ∀ f p, pNn M b f p ≤ f := fun f => by
      induction f with
      | zero => intro p; exact Nat.le_refl _
      | succ f ih =>
        intro p
        show (if pL M b p = M then 1 else pNn M b f (pL M b p + 1) + 1) ≤ f + 1
        have := ih (pL M b p + 1)
        split <;> omega
    have hN2 := hN60 (f + 1) p
    -- the twin reads the line
    have hu0 : uOk M b (g_up σ 104 16 (nI p)) p := uOk_u hu (uFr_g (Or.inl rfl)) (by rw [g_up_2 (by decide)]; exact hu.2.2.1) g_up_3
    obtain ⟨s, σ1, l1, l2, l3, -⟩ := line_y h hM hu0 hp
    obtain ⟨rfl, l4, l5, l6⟩ := l3 hL
    have fr1 : ∀ c, c ≠ 104 → c ≠ 125 → σ1 c = σ c := fun c h1 h2 => by rw [l2.1 c h1 h2, g_up_o h1]
    have fr2 : ∀ k, k ≠ 16 → k ≠ 17 → σ1 104 k = σ 104 k := fun k h1 h2 => by rw [l2.2 k h1 h2, g_up_2 h1]
    have hR1 : wRel B (gSy σ1) := by
      refine wRel_ex hR (Nat.le_refl _) ?_ (fun c hc => ?_) ?_ ⟨fun z => ?_, gSy_gh⟩ ?_
      · rw [gMem_eq (σ := σ) (σ' := gSy σ1) (b := 1) (fun c hc => by rw [gSy_o (by omega), fr1 _ (by omega) (by omega)]), gSy_o (by decide), fr1 105 (by decide) (by decide)]
        exact hR.1
      · rw [gSy_o (by omega), fr1 c (by omega) (by omega)]
      · rw [gSy_o (by decide), fr2 4 (by decide) (by decide)]
      · rw [gSy_o (by decide), fr1 126 (by decide) (by decide), hmo] at z
        exact absurd z (by decide)
      · rw [gSy_o (by decide), fr1 95 (by decide) (by decide), h950]
        exact gNn_nI (n := 0) (by decide) (by decide)
    have hop := op_line (d := d) h hc (by omega) hR1 (i := i) (w := w) (L := pB M b p) (by omega) (by rw [gSy_o (by decide), fr1 97 (by decide) (by decide)]; exact rc1) hw (fun k hk => by
      rw [gSy_o (by decide), gSy_o (by decide), fr1 98 (by decide) (by decide), l6 k (by rw [pw]; exact hk), rc2 k (by rw [pw]; exact hk)]) (fun k hk => by
      rw [gSy_o (by decide), fr1 98 (by decide) (by decide), rc2 k (by rw [pw]; exact hk)]
      exact pV_lt _)
    obtain ⟨r, σ2, hR2, hg2, c2, t2⟩ := hop
    -- what the line leaves as it was
    have mo2 : σ2 126 0 = 1 := by rw [hg2 126 (Nat.le_refl _), gSy_o (by decide), fr1 126 (by decide) (by decide)]; exact hmo
    have gh2 : ∀ c, wF c → σ2 c = σ1 c := fun c hc => by
      have := hR2.2.2.1.1.2 mo2 c hc
      have lt : c < 200 := by unfold wF at hc; omega
      rw [this, hg2 _ (by omega), gSy_g lt]
    have q97 : σ2 97 = σ 97 := by rw [gh2 97 (by unfold wF; omega), fr1 97 (by decide) (by decide)]
    have q98 : σ2 98 = σ 98 := by rw [gh2 98 (by unfold wF; omega), fr1 98 (by decide) (by decide)]
    have q95 : σ2 95 = σ 95 := by rw [gh2 95 (by unfold wF; omega), fr1 95 (by decide) (by decide)]
    have q107 : σ2 107 = σ 107 := by rw [gh2 107 (by unfold wF; omega), fr1 107 (by decide) (by decide)]
    have q45 : gMem σ2 45 = gMem σ 45 := gMem_eq (fun c hc => by rw [gh2 _ (by unfold wF; omega), fr1 _ (by omega) (by omega)])
    have q104 : σ2 104 = σ1 104 := gh2 104 (by unfold wF; omega)
    have hu2 : uOk M b σ2 (pL M b p) := by
      refine ⟨?_, fun j hj => ?_, ?_, ?_⟩
      · rw [q104, fr2 11 (by decide) (by decide)]; exact hu.1
      · rw [gh2 114 (by unfold wF; omega), fr1 114 (by decide) (by decide)]; exact hu.2.1 j hj
      · rw [q104]; exact l4
      · rw [q104]; exact l5
    have g0 : nI i < nI (i + pNn M b (f + 1) p) := nI_lt (by omega) (by omega)
    -- one round of the class
    have clr : ∀ x, gAg cA x σ → ∀ K : gK, gw (gCm' G (d + 6)) G mX9_script K 61 [.ref 0, .int 1, .int (nI i)] [.int r] (gMg cA σ2 x) → gw (gCm' G (d + 6)) G mX9_script K 45 [.ref 0, .int 1, .int (nI i)] [] x := fun x hx K hk => by
      have e3 : x 95 3 = nI (i + pNn M b (f + 1) p) := by rw [hx 95 (by decide)]; exact h953
      rw [BX9_script_45 h.1]
      simp only [e3, g0, Option.toList_some, Option.toList_none, List.cons_append, List.nil_append, Nat.zero_add, Nat.reduceAdd, Option.some.injEq, Value.int.injEq, exists_eq_left', true_and, and_true, true_or, or_true, false_or, g_10, ↓reduceIte]
      refine c2 x (fun c hc => ?_) _ ?_
      · have : c < 104 := by unfold cA at hc; simpa using hc
        rw [hx c hc, gSy_o (by omega), fr1 c (by omega) (by omega)]
      · exact hk
    -- one round of the twin
    have twr : ∀ z, gAg tA z σ → ∀ K : gK, gw (gCm' G (d + 6)) G mX10_script K 82 [.ref 104, .int (nI i), .int 1] [.int r] (gMg tA σ2 z) → gw (gCm' G (d + 6)) G mX10_script K 41 [.ref 104, .int (nI i), .int 1] [] z := fun z hz K hk => by
      have z4 : z 104 = σ 104 := hz 104 (by decide)
      have e1 : z 104 16 = nI sp := by rw [z4]; exact hu.2.2.2
      have e2 : z 104 11 = nI M := by rw [z4]; exact hu.1
      have g1 : nI sp < nI M := nI_lt hsp (by omega)
      have step : gw (gCm' G (d + 6)) G mX10_script K 41 [.ref 104, .int (nI i), .int 1] [] z = gw (gCm' G (d + 6)) G mX10_script K 74 [.ref 104, .int (nI i), .int 1] [] (g_up z 104 16 (nI p)) := by
        rw [BX10_script_41 h.2]
        by_cases c0 : i = 0
        · have : ¬ (0 : Int32) < nI i := by rw [c0]; decide
          have e3 : nI sp + 0 = nI p := by rw [Int32.add_zero, hs0 c0]
          simp +decide only [e1, e2, g1, this, BX10_script_70 h.2, e3, Option.toList_some, Option.toList_none, List.cons_append, List.nil_append, Nat.zero_add, Nat.reduceAdd, Option.some.injEq, Value.int.injEq, exists_eq_left', true_and, and_true, true_or, or_true, false_or, g_10, ↓reduceIte]
        · have : (0 : Int32) < nI i := nI_lt (a := 0) (by omega) (by omega)
          have e3 : nI sp + 1 = nI p := by rw [nI_1, hs1 (by omega)]
          simp +decide only [e1, e2, g1, this, BX10_script_70 h.2, e3, Option.toList_some, Option.toList_none, List.cons_append, List.nil_append, Nat.zero_add, Nat.reduceAdd, Option.some.injEq, Value.int.injEq, exists_eq_left', true_and, and_true, true_or, or_true, false_or, g_10, ↓reduceIte]
      rw [step, BX10_script_74 h.2]
      refine tr_inv hc.2 (gAll_r (A := tA) (by decide) (fun v hv => absurd hv List.not_mem_nil)) (l1 (d + 1)) (gAg_up hz) ?_
      show gw (gCm' G (d + 6)) G mX10_script K 79 [.ref 104, .int (nI i), .int 1] [.int (pB M b p), .ref 104] _
      rw [BX10_script_79 h.2]
      refine t2 _ (fun c hc => ?_) _ ?_
      · have : c < 126 := by unfold tA at hc; simp only [decide_eq_true_eq] at hc; omega
        rw [gSy_o (by omega)]
        exact gMg_ag c hc
      · rw [gMg_mg, gMg_w (x := g_up z 104 16 (nI p)) (y := z) (fun c hc => g_up_o (fun e => by rw [e] at hc; cases hc))]
        exact hk
    have B1 : B + 1 ≤ B + (f + 1) := by omega
    have m45 : wMem (B + 1) (gMem σ2 45) (σ2 107) := by rw [q45, q107]; exact wMem_up hsv (by omega)
    by_cases cr : r < 0
    · -- refused: all as before
      have e1 : isX3 G 1 := hNow h
      have e2 := hBef h
      obtain ⟨y, hy⟩ : ∃ y, y = gcm_19 σ2 1 45 := ⟨_, rfl⟩
      have y0 : ∀ c, (c < 1 ∨ 23 ≤ c) → y c = σ2 c := fun c hc => by rw [hy]; exact gcm_fr (by omega)
      have yM : gIR (gMem y 1) (gMem σ2 45) := by rw [hy]; exact gcm_ir (by decide)
      obtain ⟨u, hu'⟩ : ∃ u, u = g_ca (g_up σ2 104 11 0) 107 105 607 := ⟨_, rfl⟩
      have u0 : ∀ c, c ≠ 104 → c ≠ 105 → u c = σ2 c := fun c h1 h2 => by rw [hu', g_ca_o h2, g_up_o h1]
      refine ⟨-2000 - nI i, fun c => if c < 104 then y c else u c, fun x hx K hk => clr x hx K ?_, fun z hz K hk => twr z hz K ?_, fun τ hτ => ?_⟩
      · rw [BX9_script_61 h.1]
        simp only [cr, Option.toList_some, Option.toList_none, List.cons_append, List.nil_append, Nat.zero_add, Nat.reduceAdd, Option.some.injEq, Value.int.injEq, exists_eq_left', true_and, and_true, true_or, or_true, false_or, g_10, ↓reduceIte]
        refine tr_inv (d := d + 6) (r := none) (σ1 := y) hc.1 (gAll_r (A := cA) (by decide) (gAll_r (by decide) (fun v hv => absurd hv List.not_mem_nil))) (fun K => by rw [hy]; exact copyFrom_eq e1 e2) gMg_ag ?_
        simp only [BX9_script_75 h.1, Option.toList_some, Option.toList_none, List.cons_append, List.nil_append, Nat.zero_add, Nat.reduceAdd, Option.some.injEq, Value.int.injEq, exists_eq_left', true_and, and_true, true_or, or_true, false_or, g_10, ↓reduceIte]
        rw [gMg_mg]
        have : gMg cA (fun c => if c < 104 then y c else u c) x = gMg cA y x := by
          funext c
          unfold gMg
          by_cases e : cA c = true
          · have : c < 104 := by unfold cA at e; simpa using e
            rw [if_pos e, if_pos e]; exact if_pos this
          · rw [if_neg e, if_neg e]
        rw [this] at hk
        exact hk
      · rw [BX10_script_82 h.2]
        simp +decide only [cr, nI_1, BX10_script_41 h.2, BX10_script_97 h.2, BX10_script_102 h.2, Option.toList_some, Option.toList_none, List.cons_append, List.nil_append, Nat.zero_add, Nat.reduceAdd, Option.some.injEq, Value.int.injEq, exists_eq_left', true_and, and_true, true_or, or_true, false_or, g_10, ↓reduceIte]
        rw [gMg_up (by decide)]
        refine tr_inv (d := d + 6) (r := none) (σ1 := u) hc.2 (gAll_r (A := tA) (by decide) (gAll_r (by decide) (fun v hv => absurd hv List.not_mem_nil))) (fun K => by rw [hu']; exact take_eq (n := 0) (aX10_2 h.2) (nX10_2 h.2) (aX10_0 h.2) (nX10_0 h.2) (by decide)) gMg_ag ?_
        have e5 : nI (i + 1) - 1 = nI i := by rw [g_pred (by omega)]; rfl
        simp only [BX10_script_117 h.2, e5, Option.toList_some, Option.toList_none, List.cons_append, List.nil_append, Nat.zero_add, Nat.reduceAdd, Option.some.injEq, Value.int.injEq, exists_eq_left', true_and, and_true, true_or, or_true, false_or, g_10, ↓reduceIte]
        rw [gMg_mg]
        have : gMg tA (fun c => if c < 104 then y c else u c) z = gMg tA u z := by
          funext c
          unfold gMg
          by_cases e : tA c = true
          · have : ¬ c < 104 := by unfold tA at e; simp only [decide_eq_true_eq] at e; omega
            rw [if_pos e, if_pos e]; exact if_neg this
          · rw [if_neg e, if_neg e]
        rw [this] at hk
        exact hk
      · have v0 : ∀ c, c < 104 → gEx (fun c => if c < 104 then y c else u c) τ c = y c := fun c hc => by
          rw [gEx_o (by omega)]; exact if_pos hc
        have v1 : ∀ c, 104 ≤ c → c < 126 → gEx (fun c => if c < 104 then y c else u c) τ c = u c := fun c hc h2 => by
          rw [gEx_o h2]; exact if_neg (by omega)
        have vt : gEx (fun c => if c < 104 then y c else u c) τ 126 0 = 0 := hτ
        refine wRel_ex hR2 B1 ?_ (fun c hc => ?_) ?_ ⟨fun _ => ?_, fun z => ?_⟩ ?_
        · rw [gMem_eq (σ := y) (b := 1) (fun c hc => v0 _ (by omega)), v1 105 (by decide) (by decide)]
          exact wMem_up (wMem_ir yM (fun j hj => by rw [hu', g_ca_s hj, g_up_o (by decide)]) m45) B1
        · by_cases c4 : c < 104
          · rw [v0 c c4, y0 c (by omega)]
          · rw [v1 c (by omega) (by omega), u0 c (by omega) (by omega)]
        · rw [v1 104 (by decide) (by decide), hu', g_ca_o (by decide), g_up_2 (by decide)]
        · rw [v1 104 (by decide) (by decide), v0 95 (by decide), hu', g_ca_o (by decide), g_up_3, y0 95 (by decide), q95, h950]
        · rw [vt] at z; exact absurd z (by decide)
        · rw [v0 95 (by decide), y0 95 (by decide), q95, h950]
          exact gNn_nI (n := 0) (by decide) (by decide)
    by_cases cL : pL M b p = M
    · -- the last line
      have hN1 : pNn M b (f + 1) p = 1 := by
        show (if _ then 1 else _) = 1
        rw [if_pos cL]
      rw [hN1] at h953
      have nl : ¬ nI (i + 1) < nI (i + 1) := nI_nlt (Nat.le_refl _) (by omega)
      have nM : ¬ nI M < nI M := nI_nlt (Nat.le_refl _) (by omega)
      refine ⟨nI (i + 1), g_up σ2 104 11 0, fun x hx K hk => clr x hx K ?_, fun z hz K hk => twr z hz K ?_, fun τ hτ => ?_⟩
      · have e3 : (gMg cA σ2 x) 95 3 = nI (i + 1) := by rw [gMg_c (by decide), q95]; exact h953
        rw [BX9_script_61 h.1]
        simp only [cr, nI_1, BX9_script_45 h.1, e3, nl, Option.toList_some, Option.toList_none, List.cons_append, List.nil_append, Nat.zero_add, Nat.reduceAdd, Option.some.injEq, Value.int.injEq, exists_eq_left', true_and, and_true, true_or, or_true, false_or, g_10, ↓reduceIte]
        have : gMg cA (g_up σ2 104 11 0) x = gMg cA σ2 x := by
          funext c
          unfold gMg
          by_cases e : cA c = true
          · rw [if_pos e, if_pos e, g_up_o (fun z => by rw [z] at e; cases e)]
          · rw [if_neg e, if_neg e]
        rw [this] at hk
        exact hk
      · have e1 : (gMg tA σ2 z) 104 16 = nI M := by rw [gMg_c (by decide), ← cL]; exact hu2.2.2.2
        have e2 : (gMg tA σ2 z) 104 11 = nI M := by rw [gMg_c (by decide)]; exact hu2.1
        rw [BX10_script_82 h.2]
        simp +decide only [cr, nI_1, BX10_script_41 h.2, e1, e2, nM, BX10_script_97 h.2, BX10_script_102 h.2, Option.toList_some, Option.toList_none, List.cons_append, List.nil_append, Nat.zero_add, Nat.reduceAdd, Option.some.injEq, Value.int.injEq, exists_eq_left', true_and, and_true, true_or, or_true, false_or, g_10, ↓reduceIte]
        rw [gMg_up (by decide)]
        exact hk
      · refine wRel_ex hR2 B1 ?_ (fun c hc => ?_) ?_ ⟨fun _ => ?_, fun z => ?_⟩ ?_
        · rw [gMem_eq (σ := σ2) (b := 1) (fun c hc => by rw [gEx_o (by omega), g_up_o (by omega)]), gEx_o (by decide), g_up_o (by decide)]
          exact wMem_up hR2.1 B1
        · rw [gEx_o (by omega), g_up_o (by omega)]
        · rw [gEx_o (by decide), g_up_2 (by decide)]
        · rw [gEx_o (by decide), gEx_o (by decide), g_up_3, g_up_o (by decide), q95, h950]
        · have : gEx (g_up σ2 104 11 0) τ 126 0 = 0 := hτ
          rw [this] at z; exact absurd z (by decide)
        · rw [gEx_o (by decide), g_up_o (by decide), q95, h950]
          exact gNn_nI (n := 0) (by decide) (by decide)
    · -- and on
      rw [pForm_n hL, if_neg cL] at hF
      by_cases c3 : pB M b (pL M b p) = 59
      case neg => rw [if_neg c3] at hF; cases hF
      rw [if_pos c3] at hF
      have hN1 : pNn M b (f + 1) p = pNn M b f (pL M b p + 1) + 1 := by
        show (if _ then 1 else _) = _
        rw [if_neg cL]
      obtain ⟨r', σ', i1, i2, i3⟩ := ih (i + 1) (pL M b p + 1) (pL M b p) (B + 1) σ2 (by omega) (by omega) hR2 mo2 hF (by omega) (by omega) (by omega) (fun _ => rfl) (by rw [q95, h953, hN1]; congr 1; omega) (pRec_c (fun t _ => by rw [q97]) (fun t _ => by rw [q98]) (rc3 cL)) (by rw [q95]; exact h950) hu2 m45
      refine ⟨r', σ', fun x hx K hk => clr x hx K ?_, fun z hz K hk => twr z hz K ?_, fun τ hτ => wRel_up (i3 τ hτ) (by omega)⟩
      · rw [BX9_script_61 h.1]
        simp only [cr, nI_1, Option.toList_some, Option.toList_none, List.cons_append, List.nil_append, Nat.zero_add, Nat.reduceAdd, Option.some.injEq, Value.int.injEq, exists_eq_left', true_and, and_true, true_or, or_true, false_or, g_10, ↓reduceIte]
        refine i1 _ gMg_ag K ?_
        rw [gMg_mg]; exact hk
      · rw [BX10_script_82 h.2]
        simp only [cr, nI_1, Option.toList_some, Option.toList_none, List.cons_append, List.nil_append, Nat.zero_add, Nat.reduceAdd, Option.some.injEq, Value.int.injEq, exists_eq_left', true_and, and_true, true_or, or_true, false_or, g_10, ↓reduceIte]
        refine i2 _ gMg_ag K ?_
        rw [gMg_mg]; exact hk
end O57
