/-! A SMALL MACHINE OF WHOLE NUMBERS over a fixed graph of objects: what its runs say holds of the real one (g_body below). -/
/-- the graph: kind (0..10: objects, by their number in vwCl; 11: a row of ints; 12: a row of rows; 13: the script), length, where its references go -/
abbrev gG : Type := Nat → Nat × Nat × (Nat → Nat)
/-- the numbers that the objects and rows hold -/
abbrev gM : Type := Nat → Nat → Int32
/-- a method: name, code, locals, what it returns, whose pool -/
abbrev gY : Type := MethodName × ByteArray × Nat × Option FieldType × Nat
abbrev gK : Type := Option Value → gM → Prop
abbrev gC : Type := gY → List Value → gM → gK → Prop
abbrev gP : Type := Nat → List Value → List Value → gM → Prop
def g_up (σ : gM) (a i : Nat) (v : Int32) : gM := fun b j => if b = a ∧ j = i then v else σ b j
def g_cp (σ : gM) (a b sp dp n : Nat) : gM := fun c j => if c = b ∧ dp ≤ j ∧ j < dp + n then σ a (sp + (j - dp)) else σ c j
def g_ldi (ls : List Value) (k : Nat) (f : Int32 → Prop) : Prop := match ls[k]? with
  | some (.int x) => f x
  | _ => False
def g_ldr (ls : List Value) (k : Nat) (f : Nat → Prop) : Prop := match ls[k]? with
  | some (.ref x) => f x
  | _ => False
def g_a (st : List Value) (f : Value → List Value → Prop) : Prop := match st with
  | v :: st => f v st
  | _ => False
def g_1 (st : List Value) (f : Int32 → List Value → Prop) : Prop := match st with
  | .int x :: st => f x st
  | _ => False
def g_2 (st : List Value) (f : Int32 → Int32 → List Value → Prop) : Prop := match st with
  | .int y :: .int x :: st => f x y st
  | _ => False
def g_r (st : List Value) (f : Nat → List Value → Prop) : Prop := match st with
  | .ref a :: st => f a st
  | _ => False
def g_ri (st : List Value) (f : Nat → Int32 → List Value → Prop) : Prop := match st with
  | .int i :: .ref a :: st => f a i st
  | _ => False
def g_rii (st : List Value) (f : Nat → Int32 → Int32 → List Value → Prop) : Prop := match st with
  | .int x :: .int i :: .ref a :: st => f a i x st
  | _ => False
def g_5 (st : List Value) (f : Nat → Int32 → Nat → Int32 → Int32 → List Value → Prop) : Prop := match st with
  | .int n :: .int dp :: .ref b :: .int sp :: .ref a :: st => f a sp b dp n st
  | _ => False
def g_j (pc : Nat) (off : Int) (f : Nat → Prop) : Prop := 0 ≤ (pc : Int) + off ∧ f ((pc : Int) + off).toNat
def g_b (pc : Nat) (off : Int) (c : Prop) [Decidable c] (f : Nat → Prop) (B : Prop) : Prop := 0 ≤ (pc : Int) + off ∧ if c then f ((pc : Int) + off).toNat else B
def g_sw (pc : Nat) (x : Int32) (d : Int) (f : Nat → Prop) : Int → List Int → Prop
  | _, [] => g_j pc d f
  | lo, o :: os => if x = Int32.ofInt lo then g_j pc o f else g_sw pc x d f (lo + 1) os
def g_pop (n : Nat) (st : List Value) (f : List Value → List Value → Prop) : Prop := n ≤ st.length ∧ f (st.take n).reverse (st.drop n)
def g_inv (C : gC) (Y : gY) (as : List Value) (σ : gM) (K : gK) : Prop := ∃ q : gK, C Y as σ q ∧ ∀ r σ', q r σ' → K r σ'
def g_rt (r : Option FieldType) (x : Int32) : Prop := match r with
  | some .int => True
  | some .boolean => x = 0 ∨ x = 1
  | _ => False
def gDo (fl : Nat → Nat → Option (Nat × Nat × Nat)) (cl : Nat → Nat → Option (Nat × gY × Nat)) (cn : Nat → Nat → Option Int32) (C : gC) (G : gG) (M : gY) (Q : gK) (P : gP) (pc : Nat) (ls st : List Value) (σ : gM) (i : Jvm.ClassFile.Instr) : Prop :=
  match i with
  | .iload_n k => g_ldi ls k.val fun x => P (pc + 1) ls (.int x :: st) σ
  | .iload k => g_ldi ls k fun x => P (pc + 2) ls (.int x :: st) σ
  | .aload_n k => g_ldr ls k.val fun x => P (pc + 1) ls (.ref x :: st) σ
  | .iconst n => P (pc + 1) ls (.int (Int32.ofInt n) :: st) σ
  | .bipush n => P (pc + 2) ls (.int (Int8.ofInt n).toInt32 :: st) σ
  | .sipush n => P (pc + 3) ls (.int (Int16.ofInt n).toInt32 :: st) σ
  | .ldc k => ∃ v, cn M.2.2.2.2 k = some v ∧ P (pc + 2) ls (.int v :: st) σ
  | .istore_n k => g_1 st fun x st => k.val < ls.length ∧ P (pc + 1) (ls.set k.val (.int x)) st σ
  | .istore k => g_1 st fun x st => k < ls.length ∧ P (pc + 2) (ls.set k (.int x)) st σ
  | .iinc k n => g_ldi ls k fun x => P (pc + 3) (ls.set k (.int (x + Int32.ofInt n))) st σ
  | .iadd => g_2 st fun x y st => P (pc + 1) ls (.int (x + y) :: st) σ
  | .isub => g_2 st fun x y st => P (pc + 1) ls (.int (x - y) :: st) σ
  | .imul => g_2 st fun x y st => P (pc + 1) ls (.int (x * y) :: st) σ
  | .iand => g_2 st fun x y st => P (pc + 1) ls (.int (x &&& y) :: st) σ
  | .ior => g_2 st fun x y st => P (pc + 1) ls (.int (x ||| y) :: st) σ
  | .ixor => g_2 st fun x y st => P (pc + 1) ls (.int (x ^^^ y) :: st) σ
  | .ishl => g_2 st fun x y st => P (pc + 1) ls (.int (x <<< (y &&& 31)) :: st) σ
  | .ishr => g_2 st fun x y st => P (pc + 1) ls (.int (x >>> (y &&& 31)) :: st) σ
  | .idiv => g_2 st fun x y st => ¬ y = 0 ∧ P (pc + 1) ls (.int (x / y) :: st) σ
  | .irem => g_2 st fun x y st => ¬ y = 0 ∧ P (pc + 1) ls (.int (x - x / y * y) :: st) σ
  | .ineg => g_1 st fun x st => P (pc + 1) ls (.int (-x) :: st) σ
  | .dup => g_a st fun v st => P (pc + 1) ls (v :: v :: st) σ
  | .dup_x1 => g_a st fun v st => g_a st fun w st => P (pc + 1) ls (v :: w :: v :: st) σ
  | .dup_x2 => g_a st fun v st => g_a st fun w st => g_a st fun x st => P (pc + 1) ls (v :: w :: x :: v :: st) σ
  | .dup2 => g_a st fun v st => g_a st fun w st => P (pc + 1) ls (v :: w :: v :: w :: st) σ
  | .pop => g_a st fun _ st => P (pc + 1) ls st σ
  | .goto o => g_j pc o fun t => P t ls st σ
  | .ifCond .eq o => g_1 st fun x st => g_b pc o (x = 0) (fun t => P t ls st σ) (P (pc + 3) ls st σ)
  | .ifCond .ne o => g_1 st fun x st => g_b pc o (¬ x = 0) (fun t => P t ls st σ) (P (pc + 3) ls st σ)
  | .ifCond .lt o => g_1 st fun x st => g_b pc o (x < 0) (fun t => P t ls st σ) (P (pc + 3) ls st σ)
  | .ifCond .ge o => g_1 st fun x st => g_b pc o (0 ≤ x) (fun t => P t ls st σ) (P (pc + 3) ls st σ)
  | .ifCond .gt o => g_1 st fun x st => g_b pc o (0 < x) (fun t => P t ls st σ) (P (pc + 3) ls st σ)
  | .ifCond .le o => g_1 st fun x st => g_b pc o (x ≤ 0) (fun t => P t ls st σ) (P (pc + 3) ls st σ)
  | .if_icmp .eq o => g_2 st fun x y st => g_b pc o (x = y) (fun t => P t ls st σ) (P (pc + 3) ls st σ)
  | .if_icmp .ne o => g_2 st fun x y st => g_b pc o (¬ x = y) (fun t => P t ls st σ) (P (pc + 3) ls st σ)
  | .if_icmp .lt o => g_2 st fun x y st => g_b pc o (x < y) (fun t => P t ls st σ) (P (pc + 3) ls st σ)
  | .if_icmp .ge o => g_2 st fun x y st => g_b pc o (y ≤ x) (fun t => P t ls st σ) (P (pc + 3) ls st σ)
  | .if_icmp .gt o => g_2 st fun x y st => g_b pc o (y < x) (fun t => P t ls st σ) (P (pc + 3) ls st σ)
  | .if_icmp .le o => g_2 st fun x y st => g_b pc o (x ≤ y) (fun t => P t ls st σ) (P (pc + 3) ls st σ)
  | .tableswitch d lo hi offs => g_1 st fun x st => (0 ≤ lo ∧ hi + 1 = lo + (offs.toList.length : Int) ∧ hi < 2000000000) ∧ g_sw pc x d (fun t => P t ls st σ) lo offs.toList
  | .getfield k => g_r st fun a st => match fl M.2.2.2.2 k with
    | some (ci, f, 2) => (G a).1 = ci ∧ P (pc + 3) ls (.ref ((G a).2.2 f) :: st) σ
    | some (ci, f, _) => (G a).1 = ci ∧ P (pc + 3) ls (.int (σ a f) :: st) σ
    | none => False
  | .putfield k => g_ri st fun a v st => match fl M.2.2.2.2 k with
    | some (ci, f, 0) => (G a).1 = ci ∧ P (pc + 3) ls st (g_up σ a f v)
    | some (ci, f, 1) => (G a).1 = ci ∧ (v = 0 ∨ v = 1) ∧ P (pc + 3) ls st (g_up σ a f v)
    | _ => False
  | .iaload => g_ri st fun a i st => if (G a).1 = 13 then vp_in i (G a).2.1 ∧ P (pc + 1) ls (.int (Int32.ofNat ((G a).2.2 i.toNatClampNeg)) :: st) σ else (G a).1 = 11 ∧ vp_in i (G a).2.1 ∧ P (pc + 1) ls (.int (σ a i.toNatClampNeg) :: st) σ
  | .iastore => g_rii st fun a i x st => (G a).1 = 11 ∧ vp_in i (G a).2.1 ∧ P (pc + 1) ls st (g_up σ a i.toNatClampNeg x)
  | .aaload => g_ri st fun a i st => (G a).1 = 12 ∧ vp_in i (G a).2.1 ∧ P (pc + 1) ls (.ref ((G a).2.2 i.toNatClampNeg) :: st) σ
  | .arraylength => g_r st fun a st => ((G a).1 = 11 ∨ (G a).1 = 13) ∧ P (pc + 1) ls (.int (Int32.ofNat (G a).2.1) :: st) σ
  | .invokevirtual k => ∃ kd Y np, cl M.2.2.2.2 k = some (kd, Y, np) ∧ kd = 0 ∧ g_pop (np + 1) st fun as st => (∃ b bs, as = .ref b :: bs ∧ (G b).1 = Y.2.2.2.2) ∧ st.length ≤ 8 ∧ g_inv C Y as σ fun r σ' => P (pc + 3) ls (r.toList ++ st) σ'
  | .invokestatic k => ∃ kd Y np, cl M.2.2.2.2 k = some (kd, Y, np) ∧
      if kd = 3 then st.length ≤ 10 ∧ g_2 st fun x y st => P (pc + 3) ls (.int (if y < x then y else x) :: st) σ
      else if kd = 4 then st.length ≤ 10 ∧ g_2 st fun x y st => P (pc + 3) ls (.int (if x < y then y else x) :: st) σ
      else if kd = 5 then g_5 st fun a sp b dp n st => st.length ≤ 8 ∧ (G a).1 = 11 ∧ (G b).1 = 11 ∧ ¬ sp < 0 ∧ ¬ dp < 0 ∧ ¬ n < 0 ∧ sp.toNatClampNeg + n.toNatClampNeg ≤ (G a).2.1 ∧ dp.toNatClampNeg + n.toNatClampNeg ≤ (G b).2.1 ∧ P (pc + 3) ls st (g_cp σ a b sp.toNatClampNeg dp.toNatClampNeg n.toNatClampNeg)
      else (kd = 1 ∨ kd = 2) ∧ g_pop np st fun as st => st.length ≤ 8 ∧ g_inv C Y as σ fun r σ' => P (pc + 3) ls (r.toList ++ st) σ'
  | .ireturn => g_1 st fun x st => st = [] ∧ g_rt M.2.2.2.1 x ∧ Q (some (.int x)) σ
  | .return_ => st = [] ∧ M.2.2.2.1 = none ∧ Q none σ
  | _ => False
def gLen (i : Jvm.ClassFile.Instr) (n : Nat) : Prop :=
  match i with
  | .tableswitch .. => True
  | .iload _ | .istore _ | .bipush _ | .ldc _ => n = 2
  | .sipush _ | .iinc _ _ | .goto _ | .ifCond _ _ | .if_icmp _ _ | .getfield _ | .putfield _ | .invokevirtual _ | .invokestatic _ => n = 3
  | _ => n = 1
section GM
variable {fl : Nat → Nat → Option (Nat × Nat × Nat)} {cl : Nat → Nat → Option (Nat × gY × Nat)} {cn : Nat → Nat → Option Int32} {C : gC} {G : gG} {M : gY} {Q : gK}
def gStep (fl : Nat → Nat → Option (Nat × Nat × Nat)) (cl : Nat → Nat → Option (Nat × gY × Nat)) (cn : Nat → Nat → Option Int32) (C : gC) (G : gG) (M : gY) (Q : gK) (P : gP) (pc : Nat) (ls st : List Value) (σ : gM) : Prop :=
  ∃ i n, decode M.2.1 pc = .ok (i, n) ∧ gLen i n ∧ gDo fl cl cn C G M Q P pc ls st σ i
/-- from here the method comes to an end with Q: the least such thing -/
def wp (fl : Nat → Nat → Option (Nat × Nat × Nat)) (cl : Nat → Nat → Option (Nat × gY × Nat)) (cn : Nat → Nat → Option Int32) (C : gC) (G : gG) (M : gY) (Q : gK) (pc : Nat) (ls st : List Value) (σ : gM) : Prop :=
  ∀ P : gP, (∀ pc ls st σ, gStep fl cl cn C G M Q P pc ls st σ → P pc ls st σ) → P pc ls st σ
theorem g_ldi_m {ls : List Value} {k : Nat} {f f' : Int32 → Prop} (hf : ∀ x, f x → f' x) (h : g_ldi ls k f) : g_ldi ls k f' := by
  unfold g_ldi at h ⊢
  split
  · next x hx => rw [hx] at h; exact hf _ h
  · next hx =>
    split at h
    · next x hx2 => exact absurd hx2 (hx x)
    · exact h
theorem g_ldr_m {ls : List Value} {k : Nat} {f f' : Nat → Prop} (hf : ∀ x, f x → f' x) (h : g_ldr ls k f) : g_ldr ls k f' := by
  unfold g_ldr at h ⊢
  split
  · next x hx => rw [hx] at h; exact hf _ h
  · next hx =>
    split at h
    · next x hx2 => exact absurd hx2 (hx x)
    · exact h
theorem g_ldi_e {ls : List Value} {k : Nat} {f : Int32 → Prop} (h : g_ldi ls k f) : ∃ x, ls[k]? = some (.int x) ∧ f x := by
  unfold g_ldi at h
  split at h
  · next x hx => exact ⟨x, hx, h⟩
  · exact h.elim
theorem g_ldr_e {ls : List Value} {k : Nat} {f : Nat → Prop} (h : g_ldr ls k f) : ∃ x, ls[k]? = some (.ref x) ∧ f x := by
  unfold g_ldr at h
  split at h
  · next x hx => exact ⟨x, hx, h⟩
  · exact h.elim
theorem g_a_e {st : List Value} {f : Value → List Value → Prop} (h : g_a st f) : ∃ v s, st = v :: s ∧ f v s := by
  unfold g_a at h
  split at h
  · exact ⟨_, _, rfl, h⟩
  · exact h.elim
theorem g_1_e {st : List Value} {f : Int32 → List Value → Prop} (h : g_1 st f) : ∃ x s, st = .int x :: s ∧ f x s := by
  unfold g_1 at h
  split at h
  · exact ⟨_, _, rfl, h⟩
  · exact h.elim
theorem g_2_e {st : List Value} {f : Int32 → Int32 → List Value → Prop} (h : g_2 st f) : ∃ x y s, st = .int y :: .int x :: s ∧ f x y s := by
  unfold g_2 at h
  split at h
  · exact ⟨_, _, _, rfl, h⟩
  · exact h.elim
theorem g_r_e {st : List Value} {f : Nat → List Value → Prop} (h : g_r st f) : ∃ a s, st = .ref a :: s ∧ f a s := by
  unfold g_r at h
  split at h
  · exact ⟨_, _, rfl, h⟩
  · exact h.elim
theorem g_ri_e {st : List Value} {f : Nat → Int32 → List Value → Prop} (h : g_ri st f) : ∃ a i s, st = .int i :: .ref a :: s ∧ f a i s := by
  unfold g_ri at h
  split at h
  · exact ⟨_, _, _, rfl, h⟩
  · exact h.elim
theorem g_rii_e {st : List Value} {f : Nat → Int32 → Int32 → List Value → Prop} (h : g_rii st f) : ∃ a i x s, st = .int x :: .int i :: .ref a :: s ∧ f a i x s := by
  unfold g_rii at h
  split at h
  · exact ⟨_, _, _, _, rfl, h⟩
  · exact h.elim
theorem g_5_e {st : List Value} {f : Nat → Int32 → Nat → Int32 → Int32 → List Value → Prop} (h : g_5 st f) : ∃ a sp b dp n s, st = .int n :: .int dp :: .ref b :: .int sp :: .ref a :: s ∧ f a sp b dp n s := by
  unfold g_5 at h
  split at h
  · exact ⟨_, _, _, _, _, _, rfl, h⟩
  · exact h.elim
theorem g_a_m {st : List Value} {f f' : Value → List Value → Prop} (hf : ∀ v s, f v s → f' v s) (h : g_a st f) : g_a st f' := by
  obtain ⟨v, s, rfl, h⟩ := g_a_e h
  exact hf _ _ h
theorem g_1_m {st : List Value} {f f' : Int32 → List Value → Prop} (hf : ∀ x s, f x s → f' x s) (h : g_1 st f) : g_1 st f' := by
  obtain ⟨x, s, rfl, h⟩ := g_1_e h
  exact hf _ _ h
theorem g_2_m {st : List Value} {f f' : Int32 → Int32 → List Value → Prop} (hf : ∀ x y s, f x y s → f' x y s) (h : g_2 st f) : g_2 st f' := by
  obtain ⟨x, y, s, rfl, h⟩ := g_2_e h
  exact hf _ _ _ h
theorem g_r_m {st : List Value} {f f' : Nat → List Value → Prop} (hf : ∀ a s, f a s → f' a s) (h : g_r st f) : g_r st f' := by
  obtain ⟨a, s, rfl, h⟩ := g_r_e h
  exact hf _ _ h
theorem g_ri_m {st : List Value} {f f' : Nat → Int32 → List Value → Prop} (hf : ∀ a i s, f a i s → f' a i s) (h : g_ri st f) : g_ri st f' := by
  obtain ⟨a, i, s, rfl, h⟩ := g_ri_e h
  exact hf _ _ _ h
theorem g_rii_m {st : List Value} {f f' : Nat → Int32 → Int32 → List Value → Prop} (hf : ∀ a i x s, f a i x s → f' a i x s) (h : g_rii st f) : g_rii st f' := by
  obtain ⟨a, i, x, s, rfl, h⟩ := g_rii_e h
  exact hf _ _ _ _ h
theorem g_5_m {st : List Value} {f f' : Nat → Int32 → Nat → Int32 → Int32 → List Value → Prop} (hf : ∀ a sp b dp n s, f a sp b dp n s → f' a sp b dp n s) (h : g_5 st f) : g_5 st f' := by
  obtain ⟨a, sp, b, dp, n, s, rfl, h⟩ := g_5_e h
  exact hf _ _ _ _ _ _ h
theorem g_j_m {pc : Nat} {o : Int} {f f' : Nat → Prop} (hf : ∀ t, f t → f' t) (h : g_j pc o f) : g_j pc o f' := ⟨h.1, hf _ h.2⟩
theorem g_sw_m {pc : Nat} {x : Int32} {d : Int} {f f' : Nat → Prop} (hf : ∀ t, f t → f' t) : ∀ (os : List Int) (lo : Int), g_sw pc x d f lo os → g_sw pc x d f' lo os
  | [], _, h => g_j_m hf h
  | o :: os, lo, h => by
    unfold g_sw at h ⊢
    split
    · next e => rw [if_pos e] at h; exact g_j_m hf h
    · next e => rw [if_neg e] at h; exact g_sw_m hf os (lo + 1) h
theorem g_b_m {c : Prop} [Decidable c] {pc : Nat} {o : Int} {f f' : Nat → Prop} {B B' : Prop} (hf : ∀ t, f t → f' t) (hB : B → B') (h : g_b pc o c f B) : g_b pc o c f' B' := by
  refine ⟨h.1, ?_⟩
  have h2 := h.2
  split
  · next e => rw [if_pos e] at h2; exact hf _ h2
  · next e => rw [if_neg e] at h2; exact hB h2
theorem g_b_t {c : Prop} [Decidable c] {pc : Nat} {o : Int} {f : Nat → Prop} {B : Prop} (h : g_b pc o c f B) (q : c) : f ((pc : Int) + o).toNat := by
  have h2 := h.2
  rwa [if_pos q] at h2
theorem g_b_f {c : Prop} [Decidable c] {pc : Nat} {o : Int} {f : Nat → Prop} {B : Prop} (h : g_b pc o c f B) (q : ¬ c) : B := by
  have h2 := h.2
  rwa [if_neg q] at h2
theorem g_inv_m {Y : gY} {as : List Value} {σ : gM} {K K' : gK} (hK : ∀ r s, K r s → K' r s) (h : g_inv C Y as σ K) : g_inv C Y as σ K' := by
  obtain ⟨q, h1, h2⟩ := h
  exact ⟨q, h1, fun r s h => hK _ _ (h2 r s h)⟩
theorem gDo_m {P P' : gP} (hP : ∀ pc ls st σ, P pc ls st σ → P' pc ls st σ) {pc : Nat} {ls st : List Value} {σ : gM} {i : Jvm.ClassFile.Instr} (h : gDo fl cl cn C G M Q P pc ls st σ i) : gDo fl cl cn C G M Q P' pc ls st σ i := by
  have hP1 : ∀ {pc : Nat} {ls st : List Value} {σ : gM}, P pc ls st σ → P' pc ls st σ := fun h => hP _ _ _ _ h
  cases i with
  | iload_n k => exact g_ldi_m (fun _ h => hP1 h) h
  | iload k => exact g_ldi_m (fun _ h => hP1 h) h
  | aload_n k => exact g_ldr_m (fun _ h => hP1 h) h
  | iconst n => exact hP1 h
  | bipush n => exact hP1 h
  | sipush n => exact hP1 h
  | ldc k => obtain ⟨v, h1, h2⟩ := h; exact ⟨v, h1, hP1 h2⟩
  | istore_n k => exact g_1_m (fun _ _ h => ⟨h.1, hP1 h.2⟩) h
  | istore k => exact g_1_m (fun _ _ h => ⟨h.1, hP1 h.2⟩) h
  | iinc k n => exact g_ldi_m (fun _ h => hP1 h) h
  | iadd => exact g_2_m (fun _ _ _ h => hP1 h) h
  | isub => exact g_2_m (fun _ _ _ h => hP1 h) h
  | imul => exact g_2_m (fun _ _ _ h => hP1 h) h
  | iand => exact g_2_m (fun _ _ _ h => hP1 h) h
  | ior => exact g_2_m (fun _ _ _ h => hP1 h) h
  | ixor => exact g_2_m (fun _ _ _ h => hP1 h) h
  | ishl => exact g_2_m (fun _ _ _ h => hP1 h) h
  | ishr => exact g_2_m (fun _ _ _ h => hP1 h) h
  | idiv => exact g_2_m (fun _ _ _ h => ⟨h.1, hP1 h.2⟩) h
  | irem => exact g_2_m (fun _ _ _ h => ⟨h.1, hP1 h.2⟩) h
  | ineg => exact g_1_m (fun _ _ h => hP1 h) h
  | dup => exact g_a_m (fun _ _ h => hP1 h) h
  | dup_x1 => exact g_a_m (fun _ _ h => g_a_m (fun _ _ h => hP1 h) h) h
  | dup_x2 => exact g_a_m (fun _ _ h => g_a_m (fun _ _ h => g_a_m (fun _ _ h => hP1 h) h) h) h
  | dup2 => exact g_a_m (fun _ _ h => g_a_m (fun _ _ h => hP1 h) h) h
  | pop => exact g_a_m (fun _ _ h => hP1 h) h
  | goto o => exact g_j_m (fun _ h => hP1 h) h
  | ifCond c o => cases c <;> exact g_1_m (fun _ _ h => g_b_m (fun _ h => hP1 h) (fun h => hP1 h) h) h
  | if_icmp c o => cases c <;> exact g_2_m (fun _ _ _ h => g_b_m (fun _ h => hP1 h) (fun h => hP1 h) h) h
  | tableswitch d lo hi offs => exact g_1_m (fun _ _ h => ⟨h.1, g_sw_m (fun _ h => hP1 h) _ _ h.2⟩) h
  | getfield k =>
    refine g_r_m (fun a s h => ?_) h
    generalize fl M.2.2.2.2 k = z at h ⊢
    match z, h with
    | some (ci, f, 0), h => exact ⟨h.1, hP1 h.2⟩
    | some (ci, f, 1), h => exact ⟨h.1, hP1 h.2⟩
    | some (ci, f, 2), h => exact ⟨h.1, hP1 h.2⟩
    | some (ci, f, k + 3), h => exact ⟨h.1, hP1 h.2⟩
  | putfield k =>
    refine g_ri_m (fun a v s h => ?_) h
    generalize fl M.2.2.2.2 k = z at h ⊢
    match z, h with
    | some (ci, f, 0), h => exact ⟨h.1, hP1 h.2⟩
    | some (ci, f, 1), h => exact ⟨h.1, h.2.1, hP1 h.2.2⟩
  | iaload =>
    refine g_ri_m (fun a v s h => ?_) h
    split
    · next e => rw [if_pos e] at h; exact ⟨h.1, hP1 h.2⟩
    · next e => rw [if_neg e] at h; exact ⟨h.1, h.2.1, hP1 h.2.2⟩
  | iastore => exact g_rii_m (fun _ _ _ _ h => ⟨h.1, h.2.1, hP1 h.2.2⟩) h
  | aaload => exact g_ri_m (fun _ _ _ h => ⟨h.1, h.2.1, hP1 h.2.2⟩) h
  | arraylength => exact g_r_m (fun _ _ h => ⟨h.1, hP1 h.2⟩) h
  | invokevirtual k =>
    obtain ⟨kd, Y, np, h1, h2, h3⟩ := h
    exact ⟨kd, Y, np, h1, h2, h3.1, h3.2.1, h3.2.2.1, g_inv_m (fun _ _ h => hP1 h) h3.2.2.2⟩
  | invokestatic k =>
    obtain ⟨kd, Y, np, h1, h2⟩ := h
    refine ⟨kd, Y, np, h1, ?_⟩
    split
    · next e => rw [if_pos e] at h2; exact ⟨h2.1, g_2_m (fun _ _ _ h => hP1 h) h2.2⟩
    · next e =>
      rw [if_neg e] at h2
      split
      · next e => rw [if_pos e] at h2; exact ⟨h2.1, g_2_m (fun _ _ _ h => hP1 h) h2.2⟩
      · next e =>
        rw [if_neg e] at h2
        split
        · next e => rw [if_pos e] at h2; exact g_5_m (fun _ _ _ _ _ _ h => ⟨h.1, h.2.1, h.2.2.1, h.2.2.2.1, h.2.2.2.2.1, h.2.2.2.2.2.1, h.2.2.2.2.2.2.1, h.2.2.2.2.2.2.2.1, hP1 h.2.2.2.2.2.2.2.2⟩) h2
        · next e => rw [if_neg e] at h2; exact ⟨h2.1, h2.2.1, h2.2.2.1, g_inv_m (fun _ _ h => hP1 h) h2.2.2.2⟩
  | ireturn => exact h
  | return_ => exact h
  | _ => exact h.elim
theorem gStep_m {P P' : gP} (hP : ∀ pc ls st σ, P pc ls st σ → P' pc ls st σ) {pc : Nat} {ls st : List Value} {σ : gM} (h : gStep fl cl cn C G M Q P pc ls st σ) : gStep fl cl cn C G M Q P' pc ls st σ := by
  obtain ⟨i, n, h1, h2, h3⟩ := h
  exact ⟨i, n, h1, h2, gDo_m hP h3⟩
theorem wp_le {P : gP} (hP : ∀ pc ls st σ, gStep fl cl cn C G M Q P pc ls st σ → P pc ls st σ) {pc : Nat} {ls st : List Value} {σ : gM} (h : wp fl cl cn C G M Q pc ls st σ) : P pc ls st σ := h P hP
theorem wp_in {pc : Nat} {ls st : List Value} {σ : gM} (h : gStep fl cl cn C G M Q (wp fl cl cn C G M Q) pc ls st σ) : wp fl cl cn C G M Q pc ls st σ := fun P hP => hP _ _ _ _ (gStep_m (fun _ _ _ _ h => h P hP) h)
theorem wp_out {pc : Nat} {ls st : List Value} {σ : gM} (h : wp fl cl cn C G M Q pc ls st σ) : gStep fl cl cn C G M Q (wp fl cl cn C G M Q) pc ls st σ := wp_le (P := gStep fl cl cn C G M Q (wp fl cl cn C G M Q)) (fun _ _ _ _ h => gStep_m (fun _ _ _ _ h => wp_in h) h) h
theorem wp_eq {pc : Nat} {ls st : List Value} {σ : gM} {i : Jvm.ClassFile.Instr} {n : Nat} (hd : decode M.2.1 pc = .ok (i, n)) (hn : gLen i n) : wp fl cl cn C G M Q pc ls st σ = gDo fl cl cn C G M Q (wp fl cl cn C G M Q) pc ls st σ i := by
  refine propext ⟨fun h => ?_, fun h => wp_in ⟨i, n, hd, hn, h⟩⟩
  obtain ⟨i', n', h1, -, h3⟩ := wp_out h
  rw [hd] at h1
  cases h1
  exact h3
/-- more for the end of calls and the end: the same -/
theorem wp_mono {Q' : gK} (hQ : ∀ r s, Q r s → Q' r s) {pc : Nat} {ls st : List Value} {σ : gM} (h : wp fl cl cn C G M Q pc ls st σ) : wp fl cl cn C G M Q' pc ls st σ := by
  refine wp_le (P := wp fl cl cn C G M Q') (fun pc ls st σ h => wp_in ?_) h
  obtain ⟨i, n, h1, h2, h3⟩ := h
  refine ⟨i, n, h1, h2, ?_⟩
  cases i with
  | ireturn => exact g_1_m (fun _ _ h => ⟨h.1, h.2.1, hQ _ _ h.2.2⟩) h3
  | return_ => exact ⟨h3.1, h3.2.1, hQ _ _ h3.2.2⟩
  | ifCond c o => cases c <;> exact h3
  | if_icmp c o => cases c <;> exact h3
  | _ => exact h3
end GM
/-- the methods, by the depth of their calls -/
def gCm (fl : Nat → Nat → Option (Nat × Nat × Nat)) (cl : Nat → Nat → Option (Nat × gY × Nat)) (cn : Nat → Nat → Option Int32) (G : gG) : Nat → gC
  | 0 => fun _ _ _ _ => False
  | d + 1 => fun Y as σ q => as.length ≤ Y.2.2.1 ∧ wp fl cl cn (gCm fl cl cn G d) G Y q 0 (as ++ List.replicate (Y.2.2.1 - as.length) (.long 0)) [] σ
