section O51
/-! one run, one end; what lies outside is neither read nor written -/
def gA (A : Nat → Bool) (v : Value) : Prop := match v with
  | .ref a => A a = true
  | _ => True
def gAll (A : Nat → Bool) (vs : List Value) : Prop := ∀ v, v ∈ vs → gA A v
def gMg (A : Nat → Bool) (s x : gM) : gM := fun b => if A b = true then s b else x b
def gAg (A : Nat → Bool) (x s : gM) : Prop := ∀ b, A b = true → x b = s b
def gOne (A : Nat → Bool) (Q : gK) (σ : gM) (f : gK → gM → Prop) : Prop := ∃ (r : Option Value) (σ1 : gM), Q r σ1 ∧ (∀ b, A b = false → σ1 b = σ b) ∧ gAll A r.toList ∧ ∀ τ, gAg A τ σ → ∀ K : gK, K r (gMg A σ1 τ) → f K τ
variable {A : Nat → Bool}
theorem gAll_i {x : Int32} {st : List Value} (h : gAll A st) : gAll A (.int x :: st) := fun v hv => by
  rcases List.mem_cons.mp hv with rfl | hv
  · exact trivial
  · exact h v hv
theorem gAll_r {x : Nat} {st : List Value} (hx : A x = true) (h : gAll A st) : gAll A (.ref x :: st) := fun v hv => by
  rcases List.mem_cons.mp hv with rfl | hv
  · exact hx
  · exact h v hv
theorem gAll_c {w : Value} {st : List Value} (hx : gA A w) (h : gAll A st) : gAll A (w :: st) := fun v hv => by
  rcases List.mem_cons.mp hv with rfl | hv
  · exact hx
  · exact h v hv
theorem gAll_t {w : Value} {st : List Value} (h : gAll A (w :: st)) : gAll A st := fun v hv => h v (List.mem_cons_of_mem _ hv)
theorem gAll_h {w : Value} {st : List Value} (h : gAll A (w :: st)) : gA A w := h w List.mem_cons_self
theorem gAll_s {x : Int32} {k : Nat} {ls : List Value} (h : gAll A ls) : gAll A (ls.set k (.int x)) := fun v hv => by
  rcases List.mem_or_eq_of_mem_set hv with hv | rfl
  · exact h v hv
  · exact trivial
theorem gAll_a {as bs : List Value} (h : gAll A as) (h2 : gAll A bs) : gAll A (as ++ bs) := fun v hv => by
  rcases List.mem_append.mp hv with hv | hv
  · exact h v hv
  · exact h2 v hv
theorem gMg_self {s x : gM} (h : gAg A x s) : gMg A s x = x := by
  funext b
  unfold gMg
  by_cases e : A b = true
  · rw [if_pos e]; exact (h b e).symm
  · rw [if_neg e]
theorem gMg_ag {s x : gM} : gAg A (gMg A s x) s := fun b h => by unfold gMg; rw [if_pos h]
theorem gMg_mg {s t x : gM} : gMg A s (gMg A t x) = gMg A s x := by
  funext b
  unfold gMg
  by_cases e : A b = true <;> simp [e]
theorem gMg_w {s x y : gM} (h : ∀ b, A b = false → x b = y b) : gMg A s x = gMg A s y := by
  funext b
  unfold gMg
  by_cases e : A b = true
  · rw [if_pos e, if_pos e]
  · rw [if_neg e, if_neg e]; exact h b (by simpa using e)
theorem gNe {a b : Nat} (ha : A a = true) (hb : A b = false) : b ≠ a := fun e => by rw [e, ha] at hb; cases hb
theorem g_j_1 {pc : Nat} {o : Int} {f : Nat → Prop} (h : g_j pc o f) : ∃ t, f t ∧ ∀ f' : Nat → Prop, f' t → g_j pc o f' := ⟨_, h.2, fun _ h' => ⟨h.1, h'⟩⟩
theorem g_sw_1 {pc : Nat} {x : Int32} {d : Int} {f : Nat → Prop} : ∀ (os : List Int) (lo : Int), g_sw pc x d f lo os → ∃ t, f t ∧ ∀ f' : Nat → Prop, f' t → g_sw pc x d f' lo os
  | [], _, h => g_j_1 h
  | o :: os, lo, h => by
    unfold g_sw at h ⊢
    by_cases e : x = Int32.ofInt lo
    · rw [if_pos e] at h
      obtain ⟨t, h1, h2⟩ := g_j_1 h
      exact ⟨t, h1, fun f' h' => by rw [if_pos e]; exact h2 f' h'⟩
    · rw [if_neg e] at h
      obtain ⟨t, h1, h2⟩ := g_sw_1 os (lo + 1) h
      exact ⟨t, h1, fun f' h' => by rw [if_neg e]; exact h2 f' h'⟩
variable {fl : Nat → Nat → Option (Nat × Nat × Nat)} {cl : Nat → Nat → Option (Nat × gY × Nat)} {cn : Nat → Nat → Option Int32} {C : gC} {G : gG} {M : gY} {Q : gK}
def gIP (A : Nat → Bool) (fl : Nat → Nat → Option (Nat × Nat × Nat)) (cl : Nat → Nat → Option (Nat × gY × Nat)) (cn : Nat → Nat → Option Int32) (C : gC) (G : gG) (M : gY) (Q : gK) : gP := fun pc ls st σ => gAll A ls → gAll A st → gOne A Q σ fun K τ => wp fl cl cn C G M K pc ls st τ
theorem g_b_1 {c : Prop} [Decidable c] {σ : gM} {pc : Nat} {o : Int} {ls st : List Value} (hl : gAll A ls) (hs : gAll A st) (h : g_b pc o c (fun t => gIP A fl cl cn C G M Q t ls st σ) (gIP A fl cl cn C G M Q (pc + 3) ls st σ)) : gOne A Q σ fun K τ => g_b pc o c (fun t => wp fl cl cn C G M K t ls st τ) (wp fl cl cn C G M K (pc + 3) ls st τ) := by
  obtain ⟨h0, h⟩ := h
  by_cases e : c
  · rw [if_pos e] at h
    obtain ⟨r, σ1, h1, h2, h3, h4⟩ := h hl hs
    exact ⟨r, σ1, h1, h2, h3, fun τ ha K hk => ⟨h0, by rw [if_pos e]; exact h4 τ ha K hk⟩⟩
  · rw [if_neg e] at h
    obtain ⟨r, σ1, h1, h2, h3, h4⟩ := h hl hs
    exact ⟨r, σ1, h1, h2, h3, fun τ ha K hk => ⟨h0, by rw [if_neg e]; exact h4 τ ha K hk⟩⟩
/-- behind a write to a row that lies inside -/
theorem gOne_w {σ σ' : gM} {a : Nat} {f : gK → gM → Prop} {w : gM → gM} (ha : A a = true) (ho : ∀ b, b ≠ a → σ' b = σ b) (hw : ∀ τ, gAg A τ σ → gAg A (w τ) σ') (hw2 : ∀ τ b, b ≠ a → w τ b = τ b) (h : gOne A Q σ' f) : gOne A Q σ fun K τ => f K (w τ) := by
  obtain ⟨r, σ1, h1, h2, h3, h4⟩ := h
  refine ⟨r, σ1, h1, fun b hb => by rw [h2 b hb, ho b (gNe ha hb)], h3, fun τ hag K hk => h4 (w τ) (hw τ hag) K ?_⟩
  rw [gMg_w (x := w τ) (y := τ) (fun b hb => hw2 τ b (gNe ha hb))]
  exact hk
theorem g_inv_1 (hC : ∀ Y as σ q, gAll A as → C Y as σ q → gOne A q σ fun K τ => C Y as τ K) {Y : gY} {as ls st : List Value} {σ : gM} {pc : Nat} (hl : gAll A ls) (hs : gAll A st) (ha : gAll A as) (h : g_inv C Y as σ fun r σ' => gIP A fl cl cn C G M Q pc ls (r.toList ++ st) σ') : gOne A Q σ fun K τ => g_inv C Y as τ fun r σ' => wp fl cl cn C G M K pc ls (r.toList ++ st) σ' := by
  obtain ⟨q, h1, h2⟩ := h
  obtain ⟨r, σ1, i1, i2, i3, i4⟩ := hC Y as σ q ha h1
  obtain ⟨r2, σ2, j1, j2, j3, j4⟩ := h2 r σ1 i1 hl (gAll_a i3 hs)
  refine ⟨r2, σ2, j1, fun b hb => by rw [j2 b hb, i2 b hb], j3, fun τ hag K hk => ⟨fun r' s' => r' = r ∧ s' = gMg A σ1 τ, i4 τ hag _ ⟨rfl, rfl⟩, ?_⟩⟩
  rintro r' s' ⟨rfl, rfl⟩
  refine j4 (gMg A σ1 τ) gMg_ag K ?_
  rw [gMg_mg]; exact hk
theorem gDo_1 (hC : ∀ Y as σ q, gAll A as → C Y as σ q → gOne A q σ fun K τ => C Y as τ K) (hcl : ∀ a, A a = true → ∀ f, A ((G a).2.2 f) = true) {pc : Nat} {ls st : List Value} {σ : gM} {i : Jvm.ClassFile.Instr} (hl : gAll A ls) (hs : gAll A st) (h : gDo fl cl cn C G M Q (gIP A fl cl cn C G M Q) pc ls st σ i) : gOne A Q σ fun K τ => gDo fl cl cn C G M K (wp fl cl cn C G M K) pc ls st τ i := by
  have up : ∀ {a : Nat} {k : Nat} {v : Int32}, A a = true → ∀ {f : gK → gM → Prop}, gOne A Q (g_up σ a k v) f → gOne A Q σ fun K τ => f K (g_up τ a k v) := fun {a k v} ha {f} hf => gOne_w (w := fun τ => g_up τ a k v) ha (fun b hb => g_up_o hb) (fun τ hag b hb => by
    by_cases e : b = a
    · subst e; funext j; unfold g_up; split
      · rfl
      · rw [hag b hb]
    · rw [g_up_o e, g_up_o e]; exact hag b hb) (fun τ b hb => g_up_o hb) hf
  cases i with
  | iload_n k =>
    obtain ⟨x, e, h⟩ := g_ldi_e h
    obtain ⟨r, σ1, h1, h2, h3, h4⟩ := h hl (gAll_i hs)
    exact ⟨r, σ1, h1, h2, h3, fun τ ha K hk => by show g_ldi ls _ _; unfold g_ldi; rw [e]; exact h4 τ ha K hk⟩
  | iload k =>
    obtain ⟨x, e, h⟩ := g_ldi_e h
    obtain ⟨r, σ1, h1, h2, h3, h4⟩ := h hl (gAll_i hs)
    exact ⟨r, σ1, h1, h2, h3, fun τ ha K hk => by show g_ldi ls _ _; unfold g_ldi; rw [e]; exact h4 τ ha K hk⟩
  | aload_n k =>
    obtain ⟨x, e, h⟩ := g_ldr_e h
    obtain ⟨r, σ1, h1, h2, h3, h4⟩ := h hl (gAll_r (hl _ (List.mem_of_getElem? e)) hs)
    exact ⟨r, σ1, h1, h2, h3, fun τ ha K hk => by show g_ldr ls _ _; unfold g_ldr; rw [e]; exact h4 τ ha K hk⟩
  | iconst n => exact h hl (gAll_i hs)
  | bipush n => exact h hl (gAll_i hs)
  | sipush n => exact h hl (gAll_i hs)
  | ldc k =>
    obtain ⟨v, e, h⟩ := h
    obtain ⟨r, σ1, h1, h2, h3, h4⟩ := h hl (gAll_i hs)
    exact ⟨r, σ1, h1, h2, h3, fun τ ha K hk => ⟨v, e, h4 τ ha K hk⟩⟩
  | istore_n k =>
    obtain ⟨x, s, rfl, h0, h⟩ := g_1_e h
    obtain ⟨r, σ1, h1, h2, h3, h4⟩ := h (gAll_s hl) (gAll_t hs)
    exact ⟨r, σ1, h1, h2, h3, fun τ ha K hk => ⟨h0, h4 τ ha K hk⟩⟩
  | istore k =>
    obtain ⟨x, s, rfl, h0, h⟩ := g_1_e h
    obtain ⟨r, σ1, h1, h2, h3, h4⟩ := h (gAll_s hl) (gAll_t hs)
    exact ⟨r, σ1, h1, h2, h3, fun τ ha K hk => ⟨h0, h4 τ ha K hk⟩⟩
  | iinc k n =>
    obtain ⟨x, e, h⟩ := g_ldi_e h
    obtain ⟨r, σ1, h1, h2, h3, h4⟩ := h (gAll_s hl) hs
    exact ⟨r, σ1, h1, h2, h3, fun τ ha K hk => by show g_ldi ls _ _; unfold g_ldi; rw [e]; exact h4 τ ha K hk⟩
  | iadd => obtain ⟨x, y, s, rfl, h⟩ := g_2_e h; exact h hl (gAll_i (gAll_t (gAll_t hs)))
  | isub => obtain ⟨x, y, s, rfl, h⟩ := g_2_e h; exact h hl (gAll_i (gAll_t (gAll_t hs)))
  | imul => obtain ⟨x, y, s, rfl, h⟩ := g_2_e h; exact h hl (gAll_i (gAll_t (gAll_t hs)))
  | iand => obtain ⟨x, y, s, rfl, h⟩ := g_2_e h; exact h hl (gAll_i (gAll_t (gAll_t hs)))
  | ior => obtain ⟨x, y, s, rfl, h⟩ := g_2_e h; exact h hl (gAll_i (gAll_t (gAll_t hs)))
  | ixor => obtain ⟨x, y, s, rfl, h⟩ := g_2_e h; exact h hl (gAll_i (gAll_t (gAll_t hs)))
  | ishl => obtain ⟨x, y, s, rfl, h⟩ := g_2_e h; exact h hl (gAll_i (gAll_t (gAll_t hs)))
  | ishr => obtain ⟨x, y, s, rfl, h⟩ := g_2_e h; exact h hl (gAll_i (gAll_t (gAll_t hs)))
  | idiv =>
    obtain ⟨x, y, s, rfl, h0, h⟩ := g_2_e h
    obtain ⟨r, σ1, h1, h2, h3, h4⟩ := h hl (gAll_i (gAll_t (gAll_t hs)))
    exact ⟨r, σ1, h1, h2, h3, fun τ ha K hk => ⟨h0, h4 τ ha K hk⟩⟩
  | irem =>
    obtain ⟨x, y, s, rfl, h0, h⟩ := g_2_e h
    obtain ⟨r, σ1, h1, h2, h3, h4⟩ := h hl (gAll_i (gAll_t (gAll_t hs)))
    exact ⟨r, σ1, h1, h2, h3, fun τ ha K hk => ⟨h0, h4 τ ha K hk⟩⟩
  | ineg => obtain ⟨x, s, rfl, h⟩ := g_1_e h; exact h hl (gAll_i (gAll_t hs))
  | dup => obtain ⟨v, s, rfl, h⟩ := g_a_e h; exact h hl (gAll_c (gAll_h hs) hs)
  | dup_x1 =>
    obtain ⟨v, s, rfl, h⟩ := g_a_e h
    obtain ⟨w, s, rfl, h⟩ := g_a_e h
    exact h hl (gAll_c (gAll_h hs) (gAll_c (gAll_h (gAll_t hs)) (gAll_c (gAll_h hs) (gAll_t (gAll_t hs)))))
  | dup_x2 =>
    obtain ⟨v, s, rfl, h⟩ := g_a_e h
    obtain ⟨w, s, rfl, h⟩ := g_a_e h
    obtain ⟨x, s, rfl, h⟩ := g_a_e h
    exact h hl (gAll_c (gAll_h hs) (gAll_c (gAll_h (gAll_t hs)) (gAll_c (gAll_h (gAll_t (gAll_t hs))) (gAll_c (gAll_h hs) (gAll_t (gAll_t (gAll_t hs)))))))
  | dup2 =>
    obtain ⟨v, s, rfl, h⟩ := g_a_e h
    obtain ⟨w, s, rfl, h⟩ := g_a_e h
    exact h hl (gAll_c (gAll_h hs) (gAll_c (gAll_h (gAll_t hs)) hs))
  | pop => obtain ⟨v, s, rfl, h⟩ := g_a_e h; exact h hl (gAll_t hs)
  | goto o =>
    obtain ⟨h0, h⟩ := h
    obtain ⟨r, σ1, h1, h2, h3, h4⟩ := h hl hs
    exact ⟨r, σ1, h1, h2, h3, fun τ ha K hk => ⟨h0, h4 τ ha K hk⟩⟩
  | ifCond c o => cases c <;> (obtain ⟨x, s, rfl, h⟩ := g_1_e h; exact g_b_1 hl (gAll_t hs) h)
  | if_icmp c o => cases c <;> (obtain ⟨x, y, s, rfl, h⟩ := g_2_e h; exact g_b_1 hl (gAll_t (gAll_t hs)) h)
  | tableswitch d lo hi offs =>
    obtain ⟨x, s, rfl, h0, h⟩ := g_1_e h
    obtain ⟨t, h, hf⟩ := g_sw_1 _ _ h
    obtain ⟨r, σ1, h1, h2, h3, h4⟩ := h hl (gAll_t hs)
    exact ⟨r, σ1, h1, h2, h3, fun τ ha K hk => ⟨h0, hf _ (h4 τ ha K hk)⟩⟩
  | getfield k =>
    obtain ⟨a, s, rfl, hq⟩ := g_r_e h
    have h := hq
    have hA := gAll_h hs
    rcases hz : fl M.2.2.2.2 k with _ | ⟨ci, f, ty⟩
    · simp only [hz] at h
    · by_cases e2 : ty = 2
      · subst e2
        simp only [hz] at h
        obtain ⟨r, σ1, h1, h2, h3, h4⟩ := h.2 hl (gAll_r (hcl a hA f) (gAll_t hs))
        refine ⟨r, σ1, h1, h2, h3, fun τ ha K hk => ?_⟩
        simp only [gDo, g_r, hz]
        exact ⟨h.1, h4 τ ha K hk⟩
      · have h' : (G a).1 = ci ∧ gIP A fl cl cn C G M Q (pc + 3) ls (.int (σ a f) :: s) σ := by
          rcases ty with _ | _ | _ | t
          · simp only [hz] at h; exact h
          · simp only [hz] at h; exact h
          · exact absurd rfl e2
          · simp only [hz] at h; exact h
        obtain ⟨r, σ1, h1, h2, h3, h4⟩ := h'.2 hl (gAll_i (gAll_t hs))
        refine ⟨r, σ1, h1, h2, h3, fun τ ha K hk => ?_⟩
        have := h4 τ ha K hk
        rw [← ha a hA] at this
        rcases ty with _ | _ | _ | t
        · simp only [gDo, g_r, hz]; exact ⟨h'.1, this⟩
        · simp only [gDo, g_r, hz]; exact ⟨h'.1, this⟩
        · exact absurd rfl e2
        · simp only [gDo, g_r, hz]; exact ⟨h'.1, this⟩
  | putfield k =>
    obtain ⟨a, v, s, rfl, hq⟩ := g_ri_e h
    have h := hq
    have hA := gAll_h (gAll_t hs)
    rcases hz : fl M.2.2.2.2 k with _ | ⟨ci, f, ty⟩
    · simp only [hz] at h
    · rcases ty with _ | _ | t
      · simp only [hz] at h
        obtain ⟨r, σ1, h1, h2, h3, h4⟩ := up hA (h.2 hl (gAll_t (gAll_t hs)))
        refine ⟨r, σ1, h1, h2, h3, fun τ ha K hk => ?_⟩
        simp only [gDo, g_ri, hz]
        exact ⟨h.1, h4 τ ha K hk⟩
      · simp only [hz] at h
        obtain ⟨r, σ1, h1, h2, h3, h4⟩ := up hA (h.2.2 hl (gAll_t (gAll_t hs)))
        refine ⟨r, σ1, h1, h2, h3, fun τ ha K hk => ?_⟩
        simp only [gDo, g_ri, hz]
        exact ⟨h.1, h.2.1, h4 τ ha K hk⟩
      · simp only [hz] at h
  | iaload =>
    obtain ⟨a, x, s, rfl, hq⟩ := g_ri_e h
    have h := hq
    have hA := gAll_h (gAll_t hs)
    by_cases e : (G a).1 = 13
    · rw [if_pos e] at h
      obtain ⟨r, σ1, h1, h2, h3, h4⟩ := h.2 hl (gAll_i (gAll_t (gAll_t hs)))
      refine ⟨r, σ1, h1, h2, h3, fun τ ha K hk => ?_⟩
      show (if (G a).1 = 13 then _ else _)
      rw [if_pos e]
      exact ⟨h.1, h4 τ ha K hk⟩
    · rw [if_neg e] at h
      obtain ⟨r, σ1, h1, h2, h3, h4⟩ := h.2.2 hl (gAll_i (gAll_t (gAll_t hs)))
      refine ⟨r, σ1, h1, h2, h3, fun τ ha K hk => ?_⟩
      have := h4 τ ha K hk
      rw [← ha a hA] at this
      show (if (G a).1 = 13 then _ else _)
      rw [if_neg e]
      exact ⟨h.1, h.2.1, this⟩
  | iastore =>
    obtain ⟨a, x, v, s, rfl, hq⟩ := g_rii_e h
    have h := hq
    have hA := gAll_h (gAll_t (gAll_t hs))
    obtain ⟨r, σ1, h1, h2, h3, h4⟩ := up hA (h.2.2 hl (gAll_t (gAll_t (gAll_t hs))))
    exact ⟨r, σ1, h1, h2, h3, fun τ ha K hk => ⟨h.1, h.2.1, h4 τ ha K hk⟩⟩
  | aaload =>
    obtain ⟨a, x, s, rfl, hq⟩ := g_ri_e h
    have h := hq
    have hA := gAll_h (gAll_t hs)
    obtain ⟨r, σ1, h1, h2, h3, h4⟩ := h.2.2 hl (gAll_r (hcl a hA _) (gAll_t (gAll_t hs)))
    exact ⟨r, σ1, h1, h2, h3, fun τ ha K hk => ⟨h.1, h.2.1, h4 τ ha K hk⟩⟩
  | arraylength =>
    obtain ⟨a, s, rfl, hq⟩ := g_r_e h
    have h := hq
    obtain ⟨r, σ1, h1, h2, h3, h4⟩ := h.2 hl (gAll_i (gAll_t hs))
    exact ⟨r, σ1, h1, h2, h3, fun τ ha K hk => ⟨h.1, h4 τ ha K hk⟩⟩
  | invokevirtual k =>
    obtain ⟨kd, Y, np, e1, e2, hn, e3, e4, h⟩ := h
    obtain ⟨r, σ1, h1, h2, h3, h4⟩ := g_inv_1 hC hl (fun v hv => hs v (List.mem_of_mem_drop hv)) (fun v hv => hs v (List.mem_of_mem_take (List.mem_reverse.mp hv))) h
    exact ⟨r, σ1, h1, h2, h3, fun τ ha K hk => ⟨kd, Y, np, e1, e2, hn, e3, e4, h4 τ ha K hk⟩⟩
  | invokestatic k =>
    obtain ⟨kd, Y, np, e1, h⟩ := h
    by_cases k3 : kd = 3
    · rw [if_pos k3] at h
      obtain ⟨h0, h⟩ := h
      obtain ⟨x, y, s, rfl, h⟩ := g_2_e h
      obtain ⟨r, σ1, h1, h2, h3, h4⟩ := h hl (gAll_i (gAll_t (gAll_t hs)))
      exact ⟨r, σ1, h1, h2, h3, fun τ ha K hk => ⟨kd, Y, np, e1, by rw [if_pos k3]; exact ⟨h0, h4 τ ha K hk⟩⟩⟩
    · rw [if_neg k3] at h
      by_cases k4 : kd = 4
      · rw [if_pos k4] at h
        obtain ⟨h0, h⟩ := h
        obtain ⟨x, y, s, rfl, h⟩ := g_2_e h
        obtain ⟨r, σ1, h1, h2, h3, h4⟩ := h hl (gAll_i (gAll_t (gAll_t hs)))
        exact ⟨r, σ1, h1, h2, h3, fun τ ha K hk => ⟨kd, Y, np, e1, by rw [if_neg k3, if_pos k4]; exact ⟨h0, h4 τ ha K hk⟩⟩⟩
      · rw [if_neg k4] at h
        by_cases k5 : kd = 5
        · rw [if_pos k5] at h
          obtain ⟨a, sp, b, dp, n, s, rfl, c1, c2, c3, c4, c5, c6, c7, c8, h⟩ := g_5_e h
          have hAa := gAll_h (gAll_t (gAll_t (gAll_t (gAll_t hs))))
          have hAb := gAll_h (gAll_t (gAll_t hs))
          obtain ⟨r, σ1, h1, h2, h3, h4⟩ := gOne_w (Q := Q) (w := fun τ => g_cp τ a b sp.toNatClampNeg dp.toNatClampNeg n.toNatClampNeg) hAb (fun b hb => g_cp_o hb) (fun τ hag c hc => by
            by_cases e : c = b
            · subst e; funext j; unfold g_cp; rw [hag a hAa, hag c hc]
            · rw [g_cp_o e, g_cp_o e]; exact hag c hc) (fun τ b hb => g_cp_o hb) (h hl (gAll_t (gAll_t (gAll_t (gAll_t (gAll_t hs))))))
          exact ⟨r, σ1, h1, h2, h3, fun τ ha K hk => ⟨kd, Y, np, e1, by rw [if_neg k3, if_neg k4, if_pos k5]; exact ⟨c1, c2, c3, c4, c5, c6, c7, c8, h4 τ ha K hk⟩⟩⟩
        · rw [if_neg k5] at h
          obtain ⟨h0, hn, e3, h⟩ := h
          obtain ⟨r, σ1, h1, h2, h3, h4⟩ := g_inv_1 hC hl (fun v hv => hs v (List.mem_of_mem_drop hv)) (fun v hv => hs v (List.mem_of_mem_take (List.mem_reverse.mp hv))) h
          exact ⟨r, σ1, h1, h2, h3, fun τ ha K hk => ⟨kd, Y, np, e1, by rw [if_neg k3, if_neg k4, if_neg k5]; exact ⟨h0, hn, e3, h4 τ ha K hk⟩⟩⟩
  | ireturn =>
    obtain ⟨x, s, rfl, h0, h1, h⟩ := g_1_e h
    exact ⟨some (.int x), σ, h, fun _ _ => rfl, fun v hv => by rcases List.mem_singleton.mp hv with rfl; exact trivial, fun τ ha K hk => ⟨h0, h1, by rw [gMg_self ha] at hk; exact hk⟩⟩
  | return_ =>
    obtain ⟨h0, h1, h⟩ := h
    exact ⟨none, σ, h, fun _ _ => rfl, fun v hv => absurd hv List.not_mem_nil, fun τ ha K hk => ⟨h0, h1, by rw [gMg_self ha] at hk; exact hk⟩⟩
  | _ => exact h.elim
theorem wp_1 (hC : ∀ Y as σ q, gAll A as → C Y as σ q → gOne A q σ fun K τ => C Y as τ K) (hcl : ∀ a, A a = true → ∀ f, A ((G a).2.2 f) = true) {pc : Nat} {ls st : List Value} {σ : gM} (hl : gAll A ls) (hs : gAll A st) (h : wp fl cl cn C G M Q pc ls st σ) : gOne A Q σ fun K τ => wp fl cl cn C G M K pc ls st τ := by
  refine wp_le (P := gIP A fl cl cn C G M Q) (fun pc ls st σ h hl hs => ?_) h hl hs
  obtain ⟨i, n, h1, h2, h3⟩ := h
  obtain ⟨r, σ1, j1, j2, j3, j4⟩ := gDo_1 hC hcl hl hs h3
  exact ⟨r, σ1, j1, j2, j3, fun τ ha K hk => wp_in ⟨i, n, h1, h2, j4 τ ha K hk⟩⟩
theorem gCm_1 (hcl : ∀ a, A a = true → ∀ f, A ((G a).2.2 f) = true) : ∀ (d : Nat) (Y : gY) (as : List Value) (σ : gM) (q : gK), gAll A as → gCm fl cl cn G d Y as σ q → gOne A q σ fun K τ => gCm fl cl cn G d Y as τ K
  | 0, _, _, _, _, _, h => h.elim
  | d + 1, Y, as, σ, q, ha, h => by
    obtain ⟨r, σ1, j1, j2, j3, j4⟩ := wp_1 (gCm_1 hcl d) hcl (gAll_a ha (fun v hv => by rw [List.eq_of_mem_replicate hv]; exact trivial)) (fun v hv => absurd hv List.not_mem_nil) h.2
    exact ⟨r, σ1, j1, j2, j3, fun τ hag K hk => ⟨h.1, j4 τ hag K hk⟩⟩
theorem gI_1 (hcl : ∀ a, A a = true → ∀ f, A ((G a).2.2 f) = true) {d : Nat} {Y : gY} {as : List Value} {σ : gM} (ha : gAll A as) (h : g_inv (gCm fl cl cn G d) Y as σ Q) : gOne A Q σ fun K τ => g_inv (gCm fl cl cn G d) Y as τ K := by
  obtain ⟨q, h1, h2⟩ := h
  obtain ⟨r, σ1, j1, j2, j3, j4⟩ := gCm_1 hcl d Y as σ q ha h1
  exact ⟨r, σ1, h2 _ _ j1, j2, j3, fun τ hag K hk => ⟨K, j4 τ hag K hk, fun _ _ h => h⟩⟩
/-- more depth does no harm -/
theorem g_inv_d {C' : gC} (hC : ∀ Y as σ q, C Y as σ q → C' Y as σ q) {Y : gY} {as : List Value} {σ : gM} {K : gK} (h : g_inv C Y as σ K) : g_inv C' Y as σ K := by
  obtain ⟨q, h1, h2⟩ := h
  exact ⟨q, hC _ _ _ _ h1, h2⟩
theorem gDo_d {C' : gC} {P : gP} (hC : ∀ Y as σ q, C Y as σ q → C' Y as σ q) {pc : Nat} {ls st : List Value} {σ : gM} {i : Jvm.ClassFile.Instr} (h : gDo fl cl cn C G M Q P pc ls st σ i) : gDo fl cl cn C' G M Q P pc ls st σ i := by
  cases i with
  | invokevirtual k =>
    obtain ⟨kd, Y, np, e1, e2, hn, e3, e4, h⟩ := h
    exact ⟨kd, Y, np, e1, e2, hn, e3, e4, g_inv_d hC h⟩
  | invokestatic k =>
    obtain ⟨kd, Y, np, e1, h⟩ := h
    refine ⟨kd, Y, np, e1, ?_⟩
    by_cases k3 : kd = 3
    · rw [if_pos k3] at h ⊢; exact h
    · rw [if_neg k3] at h ⊢
      by_cases k4 : kd = 4
      · rw [if_pos k4] at h ⊢; exact h
      · rw [if_neg k4] at h ⊢
        by_cases k5 : kd = 5
        · rw [if_pos k5] at h ⊢; exact h
        · rw [if_neg k5] at h ⊢
          obtain ⟨h0, hn, e3, h⟩ := h
          exact ⟨h0, hn, e3, g_inv_d hC h⟩
  | ifCond c o => cases c <;> exact h
  | if_icmp c o => cases c <;> exact h
  | _ => exact h
theorem gCm_d : ∀ (d : Nat) (Y : gY) (as : List Value) (σ : gM) (q : gK), gCm fl cl cn G d Y as σ q → gCm fl cl cn G (d + 1) Y as σ q
  | 0, _, _, _, _, h => h.elim
  | d + 1, Y, as, σ, q, h => ⟨h.1, wp_le (P := wp fl cl cn (gCm fl cl cn G (d + 1)) G Y q) (fun pc ls st σ h => by
      obtain ⟨i, n, h1, h2, h3⟩ := h
      exact wp_in ⟨i, n, h1, h2, gDo_d (gCm_d d) h3⟩) h.2⟩
end O51
