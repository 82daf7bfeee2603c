/-! the small machine's runs, an equation an instruction -/
def gw (C : gC) (G : gG) (M : gY) (Q : gK) (pc : Nat) (ls st : List Value) (σ : gM) : Prop := wp gFl gCl gCn C G M Q pc ls st σ
abbrev gCm' (G : gG) (d : Nat) : gC := gCm gFl gCl gCn G d
section GR
variable {C : gC} {G : gG} {M : gY} {Q : gK} {pc : Nat} {ls st : List Value} {σ : gM} {x y : Int32} {a b : Nat}
theorem gw_eq {i : Jvm.ClassFile.Instr} {n : Nat} (hd : decode M.2.1 pc = .ok (i, n)) (hn : gLen i n) : gw C G M Q pc ls st σ = gDo gFl gCl gCn C G M Q (gw C G M Q) pc ls st σ i := wp_eq hd hn
theorem e_iload_n {k : Fin 4} (h : decode M.2.1 pc = .ok (.iload_n k, 1)) (hl : ls[k.val]? = some (.int x)) : gw C G M Q pc ls st σ = gw C G M Q (pc + 1) ls (.int x :: st) σ := by
  rw [gw_eq h rfl]
  show g_ldi ls k.val _ = _
  unfold g_ldi
  rw [hl]
theorem e_iload {k : Nat} (h : decode M.2.1 pc = .ok (.iload k, 2)) (hl : ls[k]? = some (.int x)) : gw C G M Q pc ls st σ = gw C G M Q (pc + 2) ls (.int x :: st) σ := by
  rw [gw_eq h rfl]
  show g_ldi ls k _ = _
  unfold g_ldi
  rw [hl]
theorem e_aload_n {k : Fin 4} (h : decode M.2.1 pc = .ok (.aload_n k, 1)) (hl : ls[k.val]? = some (.ref a)) : gw C G M Q pc ls st σ = gw C G M Q (pc + 1) ls (.ref a :: st) σ := by
  rw [gw_eq h rfl]
  show g_ldr ls k.val _ = _
  unfold g_ldr
  rw [hl]
theorem e_iconst {n : Int} (h : decode M.2.1 pc = .ok (.iconst n, 1)) (hv : Int32.ofInt n = x) : gw C G M Q pc ls st σ = gw C G M Q (pc + 1) ls (.int x :: st) σ := by
  rw [gw_eq h rfl]
  subst hv; rfl
theorem e_bipush {n : Int} (h : decode M.2.1 pc = .ok (.bipush n, 2)) (hv : (Int8.ofInt n).toInt32 = x) : gw C G M Q pc ls st σ = gw C G M Q (pc + 2) ls (.int x :: st) σ := by
  rw [gw_eq h rfl]
  subst hv; rfl
theorem e_sipush {n : Int} (h : decode M.2.1 pc = .ok (.sipush n, 3)) (hv : (Int16.ofInt n).toInt32 = x) : gw C G M Q pc ls st σ = gw C G M Q (pc + 3) ls (.int x :: st) σ := by
  rw [gw_eq h rfl]
  subst hv; rfl
theorem e_ldc {k : Nat} (h : decode M.2.1 pc = .ok (.ldc k, 2)) (hv : gCn M.2.2.2.2 k = some x) : gw C G M Q pc ls st σ = gw C G M Q (pc + 2) ls (.int x :: st) σ := by
  rw [gw_eq h rfl]
  refine propext ⟨fun ⟨v, h1, h2⟩ => ?_, fun h => ⟨x, hv, h⟩⟩
  rw [hv] at h1; cases h1; exact h2
theorem g_and {p q : Prop} (hp : p) : (p ∧ q) = q := propext ⟨fun h => h.2, fun h => ⟨hp, h⟩⟩
theorem e_istore_n {k : Fin 4} (h : decode M.2.1 pc = .ok (.istore_n k, 1)) (hl : k.val < ls.length) : gw C G M Q pc ls (.int x :: st) σ = gw C G M Q (pc + 1) (ls.set k.val (.int x)) st σ := by
  rw [gw_eq h rfl]
  exact g_and hl
theorem e_istore {k : Nat} (h : decode M.2.1 pc = .ok (.istore k, 2)) (hl : k < ls.length) : gw C G M Q pc ls (.int x :: st) σ = gw C G M Q (pc + 2) (ls.set k (.int x)) st σ := by
  rw [gw_eq h rfl]
  exact g_and hl
theorem e_iinc {k : Nat} {n : Int} (h : decode M.2.1 pc = .ok (.iinc k n, 3)) (hl : ls[k]? = some (.int x)) (hv : Int32.ofInt n = y) : gw C G M Q pc ls st σ = gw C G M Q (pc + 3) (ls.set k (.int (x + y))) st σ := by
  rw [gw_eq h rfl]
  subst hv
  show g_ldi ls k _ = _
  unfold g_ldi
  rw [hl]
theorem e_iadd (h : decode M.2.1 pc = .ok (.iadd, 1)) : gw C G M Q pc ls (.int y :: .int x :: st) σ = gw C G M Q (pc + 1) ls (.int (x + y) :: st) σ := by rw [gw_eq h rfl]; rfl
theorem e_isub (h : decode M.2.1 pc = .ok (.isub, 1)) : gw C G M Q pc ls (.int y :: .int x :: st) σ = gw C G M Q (pc + 1) ls (.int (x - y) :: st) σ := by rw [gw_eq h rfl]; rfl
theorem e_imul (h : decode M.2.1 pc = .ok (.imul, 1)) : gw C G M Q pc ls (.int y :: .int x :: st) σ = gw C G M Q (pc + 1) ls (.int (x * y) :: st) σ := by rw [gw_eq h rfl]; rfl
theorem e_iand (h : decode M.2.1 pc = .ok (.iand, 1)) : gw C G M Q pc ls (.int y :: .int x :: st) σ = gw C G M Q (pc + 1) ls (.int (x &&& y) :: st) σ := by rw [gw_eq h rfl]; rfl
theorem e_ior (h : decode M.2.1 pc = .ok (.ior, 1)) : gw C G M Q pc ls (.int y :: .int x :: st) σ = gw C G M Q (pc + 1) ls (.int (x ||| y) :: st) σ := by rw [gw_eq h rfl]; rfl
theorem e_ixor (h : decode M.2.1 pc = .ok (.ixor, 1)) : gw C G M Q pc ls (.int y :: .int x :: st) σ = gw C G M Q (pc + 1) ls (.int (x ^^^ y) :: st) σ := by rw [gw_eq h rfl]; rfl
theorem e_ishl (h : decode M.2.1 pc = .ok (.ishl, 1)) : gw C G M Q pc ls (.int y :: .int x :: st) σ = gw C G M Q (pc + 1) ls (.int (x <<< (y &&& 31)) :: st) σ := by rw [gw_eq h rfl]; rfl
theorem e_ishr (h : decode M.2.1 pc = .ok (.ishr, 1)) : gw C G M Q pc ls (.int y :: .int x :: st) σ = gw C G M Q (pc + 1) ls (.int (x >>> (y &&& 31)) :: st) σ := by rw [gw_eq h rfl]; rfl
theorem e_idiv (h : decode M.2.1 pc = .ok (.idiv, 1)) (hy : ¬ y = 0) : gw C G M Q pc ls (.int y :: .int x :: st) σ = gw C G M Q (pc + 1) ls (.int (x / y) :: st) σ := by rw [gw_eq h rfl]; exact g_and hy
theorem e_irem (h : decode M.2.1 pc = .ok (.irem, 1)) (hy : ¬ y = 0) : gw C G M Q pc ls (.int y :: .int x :: st) σ = gw C G M Q (pc + 1) ls (.int (x - x / y * y) :: st) σ := by rw [gw_eq h rfl]; exact g_and hy
theorem e_ineg (h : decode M.2.1 pc = .ok (.ineg, 1)) : gw C G M Q pc ls (.int x :: st) σ = gw C G M Q (pc + 1) ls (.int (-x) :: st) σ := by rw [gw_eq h rfl]; rfl
theorem e_dup {v : Value} (h : decode M.2.1 pc = .ok (.dup, 1)) : gw C G M Q pc ls (v :: st) σ = gw C G M Q (pc + 1) ls (v :: v :: st) σ := by rw [gw_eq h rfl]; rfl
theorem e_dup_x1 {v w : Value} (h : decode M.2.1 pc = .ok (.dup_x1, 1)) : gw C G M Q pc ls (v :: w :: st) σ = gw C G M Q (pc + 1) ls (v :: w :: v :: st) σ := by rw [gw_eq h rfl]; rfl
theorem e_dup_x2 {v w u : Value} (h : decode M.2.1 pc = .ok (.dup_x2, 1)) : gw C G M Q pc ls (v :: w :: u :: st) σ = gw C G M Q (pc + 1) ls (v :: w :: u :: v :: st) σ := by rw [gw_eq h rfl]; rfl
theorem e_dup2 {v w : Value} (h : decode M.2.1 pc = .ok (.dup2, 1)) : gw C G M Q pc ls (v :: w :: st) σ = gw C G M Q (pc + 1) ls (v :: w :: v :: w :: st) σ := by rw [gw_eq h rfl]; rfl
theorem e_pop {v : Value} (h : decode M.2.1 pc = .ok (.pop, 1)) : gw C G M Q pc ls (v :: st) σ = gw C G M Q (pc + 1) ls st σ := by rw [gw_eq h rfl]; rfl
theorem g_jump {o : Int} {t : Nat} {f : Nat → Prop} (ht : (pc : Int) + o = (t : Int)) : g_j pc o f = f t := by
  unfold g_j
  rw [ht, Int.toNat_natCast]
  exact g_and (Int.natCast_nonneg t)
theorem g_br {o : Int} {t : Nat} {f : Nat → Prop} {c : Prop} [Decidable c] {B : Prop} (ht : (pc : Int) + o = (t : Int)) : g_b pc o c f B = if c then f t else B := by
  unfold g_b
  rw [ht, Int.toNat_natCast]
  exact g_and (Int.natCast_nonneg t)
theorem e_goto {o : Int} {t : Nat} (h : decode M.2.1 pc = .ok (.goto o, 3)) (ht : (pc : Int) + o = (t : Int)) : gw C G M Q pc ls st σ = gw C G M Q t ls st σ := by rw [gw_eq h rfl]; show g_j pc o (fun t => gw C G M Q t ls st σ) = _; exact g_jump ht
theorem e_if_eq {o : Int} {t : Nat} (h : decode M.2.1 pc = .ok (.ifCond .eq o, 3)) (ht : (pc : Int) + o = (t : Int)) : gw C G M Q pc ls (.int x :: st) σ = if x = 0 then gw C G M Q t ls st σ else gw C G M Q (pc + 3) ls st σ := by rw [gw_eq h rfl]; show g_b pc o (x = 0) (fun t => gw C G M Q t ls st σ) (gw C G M Q (pc + 3) ls st σ) = _; exact g_br ht
theorem e_if_ne {o : Int} {t : Nat} (h : decode M.2.1 pc = .ok (.ifCond .ne o, 3)) (ht : (pc : Int) + o = (t : Int)) : gw C G M Q pc ls (.int x :: st) σ = if x = 0 then gw C G M Q (pc + 3) ls st σ else gw C G M Q t ls st σ := by
  rw [gw_eq h rfl]; show g_b pc o (¬ x = 0) (fun t => gw C G M Q t ls st σ) (gw C G M Q (pc + 3) ls st σ) = _; refine (g_br ht).trans ?_
  by_cases e : x = 0 <;> simp [e]
theorem e_if_lt {o : Int} {t : Nat} (h : decode M.2.1 pc = .ok (.ifCond .lt o, 3)) (ht : (pc : Int) + o = (t : Int)) : gw C G M Q pc ls (.int x :: st) σ = if x < 0 then gw C G M Q t ls st σ else gw C G M Q (pc + 3) ls st σ := by rw [gw_eq h rfl]; show g_b pc o (x < 0) (fun t => gw C G M Q t ls st σ) (gw C G M Q (pc + 3) ls st σ) = _; exact g_br ht
theorem g_le {x y : Int32} : x ≤ y ↔ ¬ y < x := by rw [Int32.le_iff_toInt_le, Int32.lt_iff_toInt_lt]; omega
theorem g_swap {c c' : Prop} [Decidable c] [Decidable c'] {X Y : Prop} (h : c ↔ ¬ c') : (if c then X else Y) = if c' then Y else X := by
  by_cases e : c' <;> simp [e, h]
theorem e_if_ge {o : Int} {t : Nat} (h : decode M.2.1 pc = .ok (.ifCond .ge o, 3)) (ht : (pc : Int) + o = (t : Int)) : gw C G M Q pc ls (.int x :: st) σ = if x < 0 then gw C G M Q (pc + 3) ls st σ else gw C G M Q t ls st σ := by
  rw [gw_eq h rfl]; show g_b pc o (0 ≤ x) (fun t => gw C G M Q t ls st σ) (gw C G M Q (pc + 3) ls st σ) = _; exact (g_br ht).trans (g_swap g_le)
theorem e_if_gt {o : Int} {t : Nat} (h : decode M.2.1 pc = .ok (.ifCond .gt o, 3)) (ht : (pc : Int) + o = (t : Int)) : gw C G M Q pc ls (.int x :: st) σ = if 0 < x then gw C G M Q t ls st σ else gw C G M Q (pc + 3) ls st σ := by rw [gw_eq h rfl]; show g_b pc o (0 < x) (fun t => gw C G M Q t ls st σ) (gw C G M Q (pc + 3) ls st σ) = _; exact g_br ht
theorem e_if_le {o : Int} {t : Nat} (h : decode M.2.1 pc = .ok (.ifCond .le o, 3)) (ht : (pc : Int) + o = (t : Int)) : gw C G M Q pc ls (.int x :: st) σ = if 0 < x then gw C G M Q (pc + 3) ls st σ else gw C G M Q t ls st σ := by
  rw [gw_eq h rfl]; show g_b pc o (x ≤ 0) (fun t => gw C G M Q t ls st σ) (gw C G M Q (pc + 3) ls st σ) = _; exact (g_br ht).trans (g_swap g_le)
theorem e_ic_eq {o : Int} {t : Nat} (h : decode M.2.1 pc = .ok (.if_icmp .eq o, 3)) (ht : (pc : Int) + o = (t : Int)) : gw C G M Q pc ls (.int y :: .int x :: st) σ = if x = y then gw C G M Q t ls st σ else gw C G M Q (pc + 3) ls st σ := by rw [gw_eq h rfl]; show g_b pc o (x = y) (fun t => gw C G M Q t ls st σ) (gw C G M Q (pc + 3) ls st σ) = _; exact g_br ht
theorem e_ic_ne {o : Int} {t : Nat} (h : decode M.2.1 pc = .ok (.if_icmp .ne o, 3)) (ht : (pc : Int) + o = (t : Int)) : gw C G M Q pc ls (.int y :: .int x :: st) σ = if x = y then gw C G M Q (pc + 3) ls st σ else gw C G M Q t ls st σ := by
  rw [gw_eq h rfl]; show g_b pc o (¬ x = y) (fun t => gw C G M Q t ls st σ) (gw C G M Q (pc + 3) ls st σ) = _; refine (g_br ht).trans ?_
  by_cases e : x = y <;> simp [e]
theorem e_ic_lt {o : Int} {t : Nat} (h : decode M.2.1 pc = .ok (.if_icmp .lt o, 3)) (ht : (pc : Int) + o = (t : Int)) : gw C G M Q pc ls (.int y :: .int x :: st) σ = if x < y then gw C G M Q t ls st σ else gw C G M Q (pc + 3) ls st σ := by rw [gw_eq h rfl]; show g_b pc o (x < y) (fun t => gw C G M Q t ls st σ) (gw C G M Q (pc + 3) ls st σ) = _; exact g_br ht
theorem e_ic_ge {o : Int} {t : Nat} (h : decode M.2.1 pc = .ok (.if_icmp .ge o, 3)) (ht : (pc : Int) + o = (t : Int)) : gw C G M Q pc ls (.int y :: .int x :: st) σ = if x < y then gw C G M Q (pc + 3) ls st σ else gw C G M Q t ls st σ := by
  rw [gw_eq h rfl]; show g_b pc o (y ≤ x) (fun t => gw C G M Q t ls st σ) (gw C G M Q (pc + 3) ls st σ) = _; exact (g_br ht).trans (g_swap g_le)
theorem e_ic_gt {o : Int} {t : Nat} (h : decode M.2.1 pc = .ok (.if_icmp .gt o, 3)) (ht : (pc : Int) + o = (t : Int)) : gw C G M Q pc ls (.int y :: .int x :: st) σ = if y < x then gw C G M Q t ls st σ else gw C G M Q (pc + 3) ls st σ := by rw [gw_eq h rfl]; show g_b pc o (y < x) (fun t => gw C G M Q t ls st σ) (gw C G M Q (pc + 3) ls st σ) = _; exact g_br ht
theorem e_ic_le {o : Int} {t : Nat} (h : decode M.2.1 pc = .ok (.if_icmp .le o, 3)) (ht : (pc : Int) + o = (t : Int)) : gw C G M Q pc ls (.int y :: .int x :: st) σ = if y < x then gw C G M Q (pc + 3) ls st σ else gw C G M Q t ls st σ := by
  rw [gw_eq h rfl]; show g_b pc o (x ≤ y) (fun t => gw C G M Q t ls st σ) (gw C G M Q (pc + 3) ls st σ) = _; exact (g_br ht).trans (g_swap g_le)
theorem e_switch {d lo hi : Int} {offs : Array Int} {n : Nat} (h : decode M.2.1 pc = .ok (.tableswitch d lo hi offs, n)) (hg : 0 ≤ lo ∧ hi + 1 = lo + (offs.toList.length : Int) ∧ hi < 2000000000) : gw C G M Q pc ls (.int x :: st) σ = g_sw pc x d (fun t => gw C G M Q t ls st σ) lo offs.toList := by
  rw [gw_eq h trivial]; exact g_and hg
theorem g_sw0 {d : Int} {t : Nat} {f : Nat → Prop} {lo : Int} (ht : (pc : Int) + d = (t : Int)) : g_sw pc x d f lo [] = f t := g_jump ht
theorem g_sw1 {d o : Int} {t : Nat} {f : Nat → Prop} {lo : Int} {os : List Int} {B : Prop} (hx : Int32.ofInt lo = y) (ht : (pc : Int) + o = (t : Int)) (hB : g_sw pc x d f (lo + 1) os = B) : g_sw pc x d f lo (o :: os) = if x = y then f t else B := by
  subst hx
  rw [← hB, ← g_jump (f := f) ht]
  rfl
theorem e_getr {k ci f : Nat} (h : decode M.2.1 pc = .ok (.getfield k, 3)) (hf : gFl M.2.2.2.2 k = some (ci, f, 2)) (hk : (G a).1 = ci) (hs : (G a).2.2 f = b) : gw C G M Q pc ls (.ref a :: st) σ = gw C G M Q (pc + 3) ls (.ref b :: st) σ := by
  rw [gw_eq h rfl]
  subst hs
  show (match gFl M.2.2.2.2 k with
    | some (ci, f, 2) => _
    | some (ci, f, _) => _
    | none => _) = _
  rw [hf]
  exact g_and hk
theorem e_geti {k ci f : Nat} (h : decode M.2.1 pc = .ok (.getfield k, 3)) (hf : gFl M.2.2.2.2 k = some (ci, f, 0)) (hk : (G a).1 = ci) : gw C G M Q pc ls (.ref a :: st) σ = gw C G M Q (pc + 3) ls (.int (σ a f) :: st) σ := by
  rw [gw_eq h rfl]
  show (match gFl M.2.2.2.2 k with
    | some (ci, f, 2) => _
    | some (ci, f, _) => _
    | none => _) = _
  rw [hf]
  exact g_and hk
theorem e_getz {k ci f : Nat} (h : decode M.2.1 pc = .ok (.getfield k, 3)) (hf : gFl M.2.2.2.2 k = some (ci, f, 1)) (hk : (G a).1 = ci) : gw C G M Q pc ls (.ref a :: st) σ = gw C G M Q (pc + 3) ls (.int (σ a f) :: st) σ := by
  rw [gw_eq h rfl]
  show (match gFl M.2.2.2.2 k with
    | some (ci, f, 2) => _
    | some (ci, f, _) => _
    | none => _) = _
  rw [hf]
  exact g_and hk
theorem e_puti {k ci f : Nat} (h : decode M.2.1 pc = .ok (.putfield k, 3)) (hf : gFl M.2.2.2.2 k = some (ci, f, 0)) (hk : (G a).1 = ci) : gw C G M Q pc ls (.int x :: .ref a :: st) σ = gw C G M Q (pc + 3) ls st (g_up σ a f x) := by
  rw [gw_eq h rfl]
  show (match gFl M.2.2.2.2 k with
    | some (ci, f, 0) => _
    | some (ci, f, 1) => _
    | _ => _) = _
  rw [hf]
  exact g_and hk
theorem e_putz {k ci f : Nat} (h : decode M.2.1 pc = .ok (.putfield k, 3)) (hf : gFl M.2.2.2.2 k = some (ci, f, 1)) (hk : (G a).1 = ci) : gw C G M Q pc ls (.int x :: .ref a :: st) σ = ((x = 0 ∨ x = 1) ∧ gw C G M Q (pc + 3) ls st (g_up σ a f x)) := by
  rw [gw_eq h rfl]
  show (match gFl M.2.2.2.2 k with
    | some (ci, f, 0) => _
    | some (ci, f, 1) => _
    | _ => _) = _
  rw [hf]
  exact g_and hk
theorem e_iald {n : Nat} (h : decode M.2.1 pc = .ok (.iaload, 1)) (hk : (G a).1 = 11) (hn : (G a).2.1 = n) : gw C G M Q pc ls (.int x :: .ref a :: st) σ = (vp_in x n ∧ gw C G M Q (pc + 1) ls (.int (σ a x.toNatClampNeg) :: st) σ) := by
  rw [gw_eq h rfl]
  subst hn
  show (if (G a).1 = 13 then _ else _) = _
  rw [if_neg (by omega)]
  exact g_and hk
theorem e_sald {n : Nat} (h : decode M.2.1 pc = .ok (.iaload, 1)) (hk : (G a).1 = 13) (hn : (G a).2.1 = n) : gw C G M Q pc ls (.int x :: .ref a :: st) σ = (vp_in x n ∧ gw C G M Q (pc + 1) ls (.int (Int32.ofNat ((G a).2.2 x.toNatClampNeg)) :: st) σ) := by
  rw [gw_eq h rfl]
  subst hn
  show (if (G a).1 = 13 then _ else _) = _
  rw [if_pos hk]
theorem e_iast {n : Nat} (h : decode M.2.1 pc = .ok (.iastore, 1)) (hk : (G a).1 = 11) (hn : (G a).2.1 = n) : gw C G M Q pc ls (.int y :: .int x :: .ref a :: st) σ = (vp_in x n ∧ gw C G M Q (pc + 1) ls st (g_up σ a x.toNatClampNeg y)) := by
  rw [gw_eq h rfl]
  subst hn
  exact g_and hk
theorem e_aald {n : Nat} (h : decode M.2.1 pc = .ok (.aaload, 1)) (hk : (G a).1 = 12) (hn : (G a).2.1 = n) : gw C G M Q pc ls (.int x :: .ref a :: st) σ = (vp_in x n ∧ gw C G M Q (pc + 1) ls (.ref ((G a).2.2 x.toNatClampNeg) :: st) σ) := by
  rw [gw_eq h rfl]
  subst hn
  exact g_and hk
theorem e_alen {n : Nat} (h : decode M.2.1 pc = .ok (.arraylength, 1)) (hk : (G a).1 = 11 ∨ (G a).1 = 13) (hn : (G a).2.1 = n) : gw C G M Q pc ls (.ref a :: st) σ = gw C G M Q (pc + 1) ls (.int (Int32.ofNat n) :: st) σ := by
  rw [gw_eq h rfl]
  subst hn
  exact g_and hk
theorem e_invv {k np : Nat} {Y : gY} {as rest : List Value} (h : decode M.2.1 pc = .ok (.invokevirtual k, 3)) (hc : gCl M.2.2.2.2 k = some (0, Y, np)) (hb : (G b).1 = Y.2.2.2.2) (h1 : np + 1 ≤ st.length) (h2 : (st.take (np + 1)).reverse = .ref b :: as) (h3 : st.drop (np + 1) = rest) (h4 : rest.length ≤ 8) : gw C G M Q pc ls st σ = g_inv C Y (.ref b :: as) σ fun r σ' => gw C G M Q (pc + 3) ls (r.toList ++ rest) σ' := by
  rw [gw_eq h rfl]
  subst h3
  refine propext ⟨fun ⟨kd, Y', np', z1, z2, z3, z4, z5, z6⟩ => ?_, fun z => ⟨0, Y, np, hc, rfl, h1, ⟨b, as, h2, hb⟩, h4, by rw [h2]; exact z⟩⟩
  rw [hc] at z1
  cases z1
  rw [h2] at z6
  exact z6
theorem e_invs {k np kd : Nat} {Y : gY} {as rest : List Value} (h : decode M.2.1 pc = .ok (.invokestatic k, 3)) (hc : gCl M.2.2.2.2 k = some (kd, Y, np)) (hkd : kd = 1 ∨ kd = 2) (h1 : np ≤ st.length) (h2 : (st.take np).reverse = as) (h3 : st.drop np = rest) (h4 : rest.length ≤ 8) : gw C G M Q pc ls st σ = g_inv C Y as σ fun r σ' => gw C G M Q (pc + 3) ls (r.toList ++ rest) σ' := by
  rw [gw_eq h rfl]
  subst h2 h3
  have e3 : ¬ kd = 3 := by omega
  have e4 : ¬ kd = 4 := by omega
  have e5 : ¬ kd = 5 := by omega
  refine propext ⟨fun ⟨kd', Y', np', z1, z2⟩ => ?_, fun z => ⟨kd, Y, np, hc, by rw [if_neg e3, if_neg e4, if_neg e5]; exact ⟨hkd, h1, h4, z⟩⟩⟩
  rw [hc] at z1
  cases z1
  rw [if_neg e3, if_neg e4, if_neg e5] at z2
  exact z2.2.2.2
theorem e_min {k np : Nat} {Y : gY} (h : decode M.2.1 pc = .ok (.invokestatic k, 3)) (hc : gCl M.2.2.2.2 k = some (3, Y, np)) (h4 : st.length ≤ 8) : gw C G M Q pc ls (.int y :: .int x :: st) σ = gw C G M Q (pc + 3) ls (.int (if y < x then y else x) :: st) σ := by
  rw [gw_eq h rfl]
  refine propext ⟨fun ⟨kd', Y', np', z1, z2⟩ => ?_, fun z => ⟨3, Y, np, hc, by rw [if_pos rfl]; exact ⟨by simp; omega, z⟩⟩⟩
  rw [hc] at z1
  cases z1
  rw [if_pos rfl] at z2
  exact z2.2
theorem e_max {k np : Nat} {Y : gY} (h : decode M.2.1 pc = .ok (.invokestatic k, 3)) (hc : gCl M.2.2.2.2 k = some (4, Y, np)) (h4 : st.length ≤ 8) : gw C G M Q pc ls (.int y :: .int x :: st) σ = gw C G M Q (pc + 3) ls (.int (if x < y then y else x) :: st) σ := by
  rw [gw_eq h rfl]
  refine propext ⟨fun ⟨kd', Y', np', z1, z2⟩ => ?_, fun z => ⟨4, Y, np, hc, by rw [if_neg (by decide), if_pos rfl]; exact ⟨by simp; omega, z⟩⟩⟩
  rw [hc] at z1
  cases z1
  rw [if_neg (by decide), if_pos rfl] at z2
  exact z2.2
theorem e_copy {k np na nb : Nat} {Y : gY} {sp dp n : Int32} (h : decode M.2.1 pc = .ok (.invokestatic k, 3)) (hc : gCl M.2.2.2.2 k = some (5, Y, np)) (ha : (G a).1 = 11) (hb : (G b).1 = 11) (hna : (G a).2.1 = na) (hnb : (G b).2.1 = nb) (h4 : st.length ≤ 8) : gw C G M Q pc ls (.int n :: .int dp :: .ref b :: .int sp :: .ref a :: st) σ =
    (¬ sp < 0 ∧ ¬ dp < 0 ∧ ¬ n < 0 ∧ sp.toNatClampNeg + n.toNatClampNeg ≤ na ∧ dp.toNatClampNeg + n.toNatClampNeg ≤ nb ∧ gw C G M Q (pc + 3) ls st (g_cp σ a b sp.toNatClampNeg dp.toNatClampNeg n.toNatClampNeg)) := by
  rw [gw_eq h rfl]
  subst hna hnb
  refine propext ⟨fun ⟨kd', Y', np', z1, z2⟩ => ?_, fun z => ⟨5, Y, np, hc, by rw [if_neg (by decide), if_neg (by decide), if_pos rfl]; exact ⟨h4, ha, hb, z⟩⟩⟩
  rw [hc] at z1
  cases z1
  rw [if_neg (by decide), if_neg (by decide), if_pos rfl] at z2
  exact z2.2.2.2
theorem e_ireti (h : decode M.2.1 pc = .ok (.ireturn, 1)) (hr : M.2.2.2.1 = some .int) : gw C G M Q pc ls [.int x] σ = Q (some (.int x)) σ := by
  rw [gw_eq h rfl]
  refine (g_and rfl).trans (g_and ?_)
  rw [hr]
  trivial
theorem e_iretz (h : decode M.2.1 pc = .ok (.ireturn, 1)) (hr : M.2.2.2.1 = some .boolean) : gw C G M Q pc ls [.int x] σ = ((x = 0 ∨ x = 1) ∧ Q (some (.int x)) σ) := by
  rw [gw_eq h rfl]
  refine (g_and rfl).trans ?_
  rw [hr]
  rfl
theorem e_ret (h : decode M.2.1 pc = .ok (.return_, 1)) (hr : M.2.2.2.1 = none) : gw C G M Q pc ls [] σ = Q none σ := by
  rw [gw_eq h rfl]
  exact (g_and rfl).trans (g_and hr)
theorem g_ite {c : Prop} [Decidable c] {X Y X' Y' : Prop} (h1 : X = X') (h2 : Y = Y') : (if c then X else Y) = if c then X' else Y' := by rw [h1, h2]
theorem g_cj {p q q' : Prop} (h : q = q') : (p ∧ q) = (p ∧ q') := by rw [h]
end GR
