section O58
variable {G : gG} {d B : Nat} {σ : gM} {K : gK}
theorem gSp_of (hc : gSep G) {B' : Nat} {X Y : gY} {as : List Value} (ha : ∀ v, v ∈ as → ∃ x, v = .int x) (hB : B + 1 ≤ B') (h : gOp G d B X Y as σ) : gSp G d B' X Y as σ := by
  obtain ⟨r, σ2, s1, s2, s3, s4⟩ := gOp_split hc ha h
  exact ⟨r, σ2, wRel_up s1 hB, s2, s3, s4⟩
theorem sp_script (h : gOK G) (hc : gSep G) (hB : B ≤ 800000) (hR : wRel B σ) (hm : σ 126 0 = 0) : gSp G (d + 7) (B + 100) mX9_script mX10_script [] σ := by
  obtain ⟨⟨t1, -⟩, t2, t3⟩ := hR.2.2.1
  have t1 := t1 hm
  obtain ⟨M, hM⟩ : ∃ M, M = gN (σ 95 0) := ⟨_, rfl⟩
  have eM : σ 95 0 = nI M := by rw [hM]; exact t2.1
  have hM2 : M ≤ 120 := by rw [hM]; exact t2.2
  obtain ⟨y, a1, a2, a3, a4⟩ := hf_eq (b := σ 96) h hM2 eM rfl
  obtain ⟨u, b1, b2, b3, b4⟩ := if_eq (b := σ 96) (z := σ) h hM2 (by rw [t1]; exact eM) (fun i hi => (t3 i hi).1)
  have no : ∀ {A : Nat → Bool}, gAll A [] := fun v hv => absurd hv List.not_mem_nil
  have frC : ∀ c, c ≠ 95 → c ≠ 97 → c ≠ 98 → y c = σ c := a2.1
  have frT : ∀ c, c ≠ 104 → c ≠ 125 → u c = σ c := b2.1
  cases hF : pForm M (σ 96) 60 0 with
  | some e =>
    rw [hF] at a1 b1
    have y2 := a3 e hF
    have u2 := b4 e hF
    have v0 : ∀ c, c < 104 → (fun c => if c < 104 then g_up y 95 0 0 c else if c < 126 then g_up u 104 11 0 c else σ c : gM) c = g_up y 95 0 0 c := fun c hc => if_pos hc
    have v1 : ∀ c, 104 ≤ c → c < 126 → (fun c => if c < 104 then g_up y 95 0 0 c else if c < 126 then g_up u 104 11 0 c else σ c : gM) c = g_up u 104 11 0 c := fun c h1 h2 => by
      show (if c < 104 then _ else if c < 126 then _ else _) = _
      rw [if_neg (by omega), if_pos h2]
    have v2 : ∀ c, 126 ≤ c → (fun c => if c < 104 then g_up y 95 0 0 c else if c < 126 then g_up u 104 11 0 c else σ c : gM) c = σ c := fun c h1 => by
      show (if c < 104 then _ else if c < 126 then _ else _) = _
      rw [if_neg (by omega), if_neg (by omega)]
    obtain ⟨σ2, hs2⟩ : ∃ s : gM, s = fun c => if c < 104 then g_up y 95 0 0 c else if c < 126 then g_up u 104 11 0 c else σ c := ⟨_, rfl⟩
    rw [← hs2] at v0 v1 v2
    have mc : ∀ x, gMg cA (g_up y 95 0 0) x = gMg cA σ2 x := fun x => by
      funext c
      unfold gMg
      by_cases e : cA c = true
      · have : c < 104 := by unfold cA at e; simpa using e
        rw [if_pos e, if_pos e, v0 c this]
      · rw [if_neg e, if_neg e]
    have mt : ∀ x, gMg tA (g_up u 104 11 0) x = gMg tA σ2 x := fun x => by
      funext c
      unfold gMg
      by_cases e : tA c = true
      · have : 104 ≤ c ∧ c < 126 := by unfold tA at e; simpa using e
        rw [if_pos e, if_pos e, v1 c this.1 this.2]
      · rw [if_neg e, if_neg e]
    refine ⟨-1000 - nI e, σ2, ?_, v2, fun x hx K hk => ?_, fun z hz K hk => ?_⟩
    · refine wRel_ex hR (by omega) ?_ (fun c hc => ?_) ?_ ⟨fun _ => ?_, fun z => ?_⟩ ?_
      · rw [gMem_eq (σ := σ) (b := 1) (fun c hc => by rw [v0 _ (by omega), g_up_o (by omega), frC _ (by omega) (by omega) (by omega)]), v1 105 (by decide) (by decide), g_up_o (by decide), frT 105 (by decide) (by decide)]
        exact wMem_up hR.1 (by omega)
      · by_cases c4 : c < 104
        · rw [v0 c c4, g_up_o (by omega), frC c (by omega) (by omega) (by omega)]
        · rw [v1 c (by omega) (by omega), g_up_o (by omega), frT c (by omega) (by omega)]
      · rw [v1 104 (by decide) (by decide), g_up_2 (by decide)]; exact b2.2 4 (by decide) (by decide)
      · rw [v1 104 (by decide) (by decide), v0 95 (by decide), g_up_3, g_up_3]
      · rw [v2 126 (by decide), hm] at z; exact absurd z (by decide)
      · rw [v0 95 (by decide), g_up_3]; exact gNn_nI (n := 0) (by decide) (by decide)
    · rw [EX9_script h.1]
      refine tr_inv (d := d + 6) hc.1 (gAll_r (A := cA) (by decide) no) (a1 (d + 2)) hx ?_
      have q2 : (gMg cA σ2 x) 95 2 = nI e := by rw [gMg_c (by decide), v0 95 (by decide), g_up_2 (by decide)]; exact y2
      simp +decide only [BX9_script_7 h.1, BX9_script_16 h.1, Option.toList_some, Option.toList_none, List.cons_append, List.nil_append, Nat.zero_add, Nat.reduceAdd, Option.some.injEq, Value.int.injEq, exists_eq_left', true_and, and_true, true_or, or_true, false_or, g_10, ↓reduceIte]
      rw [gMg_up (by decide), mc, q2]
      exact hk
    · rw [EX10_script h.2]
      refine tr_inv (d := d + 6) hc.2 (gAll_r (A := tA) (by decide) no) (b1 d) hz ?_
      have q2 : (gMg tA σ2 z) 104 17 = nI e := by rw [gMg_c (by decide), v1 104 (by decide) (by decide), g_up_2 (by decide)]; exact u2
      simp +decide only [BX10_script_4 h.2, BX10_script_12 h.2, Option.toList_some, Option.toList_none, List.cons_append, List.nil_append, Nat.zero_add, Nat.reduceAdd, Option.some.injEq, Value.int.injEq, exists_eq_left', true_and, and_true, true_or, or_true, false_or, g_10, ↓reduceIte]
      rw [gMg_up (by decide), mt, q2]
      exact hk
  | none =>
    rw [hF] at a1 b1
    obtain ⟨y3, yr⟩ := a4 hF
    have u7 := b3 hF
    have e1 : isX3 G 1 := hNow h
    have e2 := hBef h
    have hL0 : pLF M (σ 96) 0 = none := by
      cases hL : pLF M (σ 96) 0 with
      | none => rfl
      | some e => rw [pForm_f hL] at hF; cases hF
    have hM1 := (pL_le hL0).2.2
    obtain ⟨y2, hy2⟩ : ∃ y2, y2 = gcm_19 (g_up y 95 0 0) 45 1 := ⟨_, rfl⟩
    have f2 : ∀ c, (c < 45 ∨ 67 ≤ c) → y2 c = g_up y 95 0 0 c := fun c hc => by rw [hy2]; exact gcm_fr (by omega)
    have ir : gIR (gMem y2 45) (gMem (g_up y 95 0 0) 1) := by rw [hy2]; exact gcm_ir (by decide)
    obtain ⟨u3, hu3⟩ : ∃ u3, u3 = g_up (g_ca u 105 107 607) 104 16 0 := ⟨_, rfl⟩
    have k3 : ∀ c, c ≠ 104 → c ≠ 107 → u3 c = u c := fun c h1 h2 => by rw [hu3, g_up_o h1, g_ca_o h2]
    have k4 : ∀ k, k ≠ 16 → u3 104 k = u 104 k := fun k hk => by rw [hu3, g_up_2 hk, g_ca_o (by decide)]
    obtain ⟨σv, hv⟩ : ∃ s : gM, s = gSy (fun c => if c < 104 then y2 c else if c < 126 then u3 c else fun _ => 1) := ⟨_, rfl⟩
    have v0 : ∀ c, c < 104 → σv c = y2 c := fun c hc => by rw [hv, gSy_o (by omega)]; exact if_pos hc
    have v1 : ∀ c, 104 ≤ c → c < 126 → σv c = u3 c := fun c h1 h2 => by
      rw [hv, gSy_o (by omega)]
      show (if c < 104 then _ else if c < 126 then _ else _) = _
      rw [if_neg (by omega), if_pos h2]
    have vm : σv 126 0 = 1 := by rw [hv, gSy_o (by decide)]; rfl
    have v45 : gMem σv 45 = gMem y2 45 := gMem_eq (fun c hc => v0 _ (by omega))
    have y1M : gMem (g_up y 95 0 0) 1 = gMem σ 1 := gMem_eq (fun c hc => by rw [g_up_o (by omega), frC _ (by omega) (by omega) (by omega)])
    have vC : ∀ c, c < 45 ∨ (67 ≤ c ∧ c < 104) → c ≠ 95 → c ≠ 97 → c ≠ 98 → σv c = σ c := fun c hc h1 h2 h3 => by
      rw [v0 c (by omega), f2 c (by omega), g_up_o h1, frC c h1 h2 h3]
    have vT : ∀ c, 104 ≤ c → c < 126 → c ≠ 104 → c ≠ 107 → c ≠ 125 → σv c = σ c := fun c h1 h2 h3 h4 h5 => by
      rw [v1 c h1 h2, k3 c h3 h4, frT c h3 h5]
    have q95 : σv 95 = g_up y 95 0 0 95 := by rw [v0 95 (by decide), f2 95 (by decide)]
    have hRv : wRel B σv := by
      refine wRel_ex hR (Nat.le_refl _) ?_ (fun c hc => ?_) ?_ ⟨fun z => ?_, ?_⟩ ?_
      · rw [gMem_eq (σ := σ) (b := 1) (fun c hc => vC _ (by omega) (by omega) (by omega) (by omega)), vT 105 (by decide) (by decide) (by decide) (by decide) (by decide)]
        exact hR.1
      · by_cases c4 : c < 104
        · exact vC c (by omega) (by omega) (by omega) (by omega)
        · exact vT c (by omega) (by omega) (by omega) (by omega) (by omega)
      · rw [v1 104 (by decide) (by decide), k4 4 (by decide)]; exact b2.2 4 (by decide) (by decide)
      · rw [vm] at z; exact absurd z (by decide)
      · rw [hv]; exact gSy_gh
      · rw [q95, g_up_3]; exact gNn_nI (n := 0) (by decide) (by decide)
    have g95 : σv 95 0 = 0 := by rw [q95, g_up_3]
    have g953 : σv 95 3 = nI (0 + pNn M (σ 96) 60 0) := by rw [q95, g_up_2 (by decide), y3, Nat.zero_add]
    have grec : pRec M (σ 96) σv 60 0 0 := pRec_c (fun t _ => by rw [v0 97 (by decide), f2 97 (by decide), g_up_o (by decide)]) (fun t _ => by rw [v0 98 (by decide), f2 98 (by decide), g_up_o (by decide)]) yr
    have gu : uOk M (σ 96) σv 0 := by
      refine ⟨?_, fun j hj => ?_, ?_, ?_⟩
      · rw [v1 104 (by decide) (by decide), k4 11 (by decide), b2.2 11 (by decide) (by decide), t1]; exact eM
      · rw [vT 114 (by decide) (by decide) (by decide) (by decide) (by decide)]; exact (t3 j hj).1
      · rw [v1 104 (by decide) (by decide), k4 17 (by decide)]; exact u7
      · rw [v1 104 (by decide) (by decide), hu3, g_up_3]; rfl
    have gsv : wMem B (gMem σv 45) (σv 107) := by
      rw [v45]
      refine wMem_ir (m := gMem σ 1) (g := σ 105) (by rw [← y1M]; exact ir) (fun j hj => ?_) hR.1
      rw [v1 107 (by decide) (by decide), hu3, g_up_o (by decide), g_ca_s hj, frT 105 (by decide) (by decide)]
    obtain ⟨r, σ', i1, i2, i3⟩ := sc_loop (d := d) (b := σ 96) h hc hM2 60 0 0 0 B σv rfl (by omega) hRv vm hF (Nat.zero_le _) hM1 (fun _ => rfl) (fun hh => absurd hh (by decide)) g953 grec g95 gu gsv
    refine ⟨r, gEx σ' σ, wRel_up (i3 σ hm) (by omega), fun c hc => ?_, fun x hx K hk => ?_, fun z hz K hk => ?_⟩
    · unfold gEx; rw [if_neg (by omega)]
    · rw [gMg_ex] at hk
      rw [EX9_script h.1]
      refine tr_inv (d := d + 6) hc.1 (gAll_r (A := cA) (by decide) no) (a1 (d + 2)) hx ?_
      simp +decide only [BX9_script_7 h.1, BX9_script_16 h.1, Option.toList_some, Option.toList_none, List.cons_append, List.nil_append, Nat.zero_add, Nat.reduceAdd, Option.some.injEq, Value.int.injEq, exists_eq_left', true_and, and_true, true_or, or_true, false_or, g_10, ↓reduceIte]
      rw [gMg_up (by decide)]
      refine tr_inv (d := d + 6) (r := none) (σ1 := y2) hc.1 (gAll_r (A := cA) (by decide) (gAll_r (by decide) no)) (fun K => by rw [hy2]; exact copyFrom_eq e2 e1) gMg_ag ?_
      simp only [BX9_script_43 h.1, Option.toList_some, Option.toList_none, List.cons_append, List.nil_append, Nat.zero_add, Nat.reduceAdd, Option.some.injEq, Value.int.injEq, exists_eq_left', true_and, and_true, true_or, or_true, false_or, g_10, ↓reduceIte]
      rw [gMg_mg]
      refine i1 _ (fun c hc => ?_) K ?_
      · have : c < 104 := by unfold cA at hc; simpa using hc
        rw [gMg_c hc, v0 c this]
      · rw [gMg_mg]; exact hk
    · rw [gMg_ext] at hk
      rw [EX10_script h.2]
      refine tr_inv (d := d + 6) hc.2 (gAll_r (A := tA) (by decide) no) (b1 d) hz ?_
      simp +decide only [BX10_script_4 h.2, Option.toList_some, Option.toList_none, List.cons_append, List.nil_append, Nat.zero_add, Nat.reduceAdd, Option.some.injEq, Value.int.injEq, exists_eq_left', true_and, and_true, true_or, or_true, false_or, g_10, ↓reduceIte]
      refine tr_inv (d := d + 6) (r := none) (σ1 := g_ca u 105 107 607) hc.2 (gAll_r (A := tA) (by decide) (gAll_r (by decide) no)) (fun K => take_eq (n := 0) (aX10_0 h.2) (nX10_0 h.2) (aX10_2 h.2) (nX10_2 h.2) (by decide)) gMg_ag ?_
      simp only [BX10_script_32 h.2, Option.toList_some, Option.toList_none, List.cons_append, List.nil_append, Nat.zero_add, Nat.reduceAdd, Option.some.injEq, Value.int.injEq, exists_eq_left', true_and, and_true, true_or, or_true, false_or, g_10, ↓reduceIte]
      rw [gMg_mg, gMg_up (by decide), ← hu3]
      refine i2 _ (fun c hc => ?_) K ?_
      · have : 104 ≤ c ∧ c < 126 := by unfold tA at hc; simpa using hc
        rw [gMg_c hc, v1 c this.1 this.2]
      · rw [gMg_mg]; exact hk
end O58
