/-! graphs by lists -/
abbrev gL : Type := List (Nat × Nat × List Nat)
def gOf (L : gL) : gG := fun i => match L[i]? with
  | some q => (q.1, q.2.1, fun f => q.2.2.getD f i)
  | none => (20, 0, fun _ => i)
def gSh (b : Nat) (L : gL) : gL := L.map fun q => (q.1, q.2.1, q.2.2.map fun r => b + r)
def gClo (L : gL) : Bool := L.all fun q => q.2.2.all fun r => decide (r < L.length)
def gCc (G : gG) (x : ClassId × ClassId) : Nat → ClassId := fun i => if (G i).1 = 12 then x.2 else x.1
def gJ {α : Type} (n : Nat) (f g : Nat → α) : Nat → α := fun i => if i < n then f i else g (i - n)
abbrev lW (L : gL) (x : ClassId × ClassId) (ad : Nat → Nat) (σ : gM) : va_W := gW (gOf L) (gCc (gOf L) x) ad L.length σ
theorem gOf_l {L1 L2 : gL} {i : Nat} (h : i < L1.length) : (gOf (L1 ++ L2) i) = gOf L1 i := by
  unfold gOf
  rw [List.getElem?_append_left h]
theorem gOf_r {L1 L2 : gL} {b i : Nat} (hb : L1.length = b) : (gOf (L1 ++ gSh b L2) (b + i)).1 = (gOf L2 i).1 ∧ (gOf (L1 ++ gSh b L2) (b + i)).2.1 = (gOf L2 i).2.1 ∧ ∀ f, (gOf (L1 ++ gSh b L2) (b + i)).2.2 f = b + (gOf L2 i).2.2 f := by
  subst hb
  unfold gOf gSh
  rw [List.getElem?_append_right (Nat.le_add_right _ _), Nat.add_sub_cancel_left, List.getElem?_map]
  cases L2[i]? with
  | none => exact ⟨rfl, rfl, fun _ => rfl⟩
  | some q =>
    refine ⟨rfl, rfl, fun f => ?_⟩
    show (q.2.2.map fun r => L1.length + r).getD f (L1.length + i) = L1.length + q.2.2.getD f i
    rw [List.getD_eq_getElem?_getD, List.getD_eq_getElem?_getD, List.getElem?_map]
    cases q.2.2[f]? <;> rfl
theorem gClo_lt {L : gL} (h : gClo L = true) {i f : Nat} (hi : i < L.length) : (gOf L i).2.2 f < L.length := by
  unfold gOf
  rw [List.getElem?_eq_getElem hi]
  show (L[i]).2.2.getD f i < _
  rw [List.getD_eq_getElem?_getD]
  cases e : (L[i]).2.2[f]? with
  | none => exact hi
  | some r =>
    have h1 := List.all_eq_true.mp h (L[i]) (List.getElem_mem hi)
    have h2 := List.all_eq_true.mp h1 r (List.mem_of_getElem? e)
    exact of_decide_eq_true h2
theorem gE_c {G G' : gG} {cA cA' : Nat → ClassId} {ad ad' : Nat → Nat} {σ σ' : gM} {i i' : Nat} (h1 : (G i).1 = (G' i').1) (h2 : (G i).2.1 = (G' i').2.1) (h3 : cA i = cA' i') (h4 : ∀ f, ad ((G i).2.2 f) = ad' ((G' i').2.2 f)) (h5 : σ i = σ' i') : gE G cA ad σ i = gE G' cA' ad' σ' i' := by
  unfold gE
  simp only [h1, h2, h3, h4, h5]
theorem gCc_c {G G' : gG} {x : ClassId × ClassId} {i i' : Nat} (h : (G i).1 = (G' i').1) : gCc G x i = gCc G' x i' := by
  unfold gCc
  rw [h]
theorem gJ_l {α : Type} {n i : Nat} {f g : Nat → α} (h : i < n) : gJ n f g i = f i := if_pos h
theorem gJ_r {α : Type} {n i : Nat} {f g : Nat → α} : gJ n f g (n + i) = g i := by
  unfold gJ
  rw [if_neg (by omega), Nat.add_sub_cancel_left]
theorem lW_app {L1 L2 : gL} {x : ClassId × ClassId} {a1 a2 : Nat → Nat} {s1 s2 : gM} (h1 : gClo L1 = true) (h2 : gClo L2 = true) : lW L1 x a1 s1 ++ lW L2 x a2 s2 = lW (L1 ++ gSh L1.length L2) x (gJ L1.length a1 a2) (gJ L1.length s1 s2) := by
  have e1 : (lW L1 x a1 s1).length = L1.length := by simp [gW]
  have e2 : (gSh L1.length L2).length = L2.length := by simp [gSh]
  apply List.ext_getElem?
  intro i
  by_cases hi : i < L1.length
  · rw [List.getElem?_append_left (by omega), gW_get hi, gW_get (by rw [List.length_append]; omega), gJ_l hi]
    congr 2
    have e := gOf_l (L2 := gSh L1.length L2) hi
    exact (gE_c (by rw [e]) (by rw [e]) (gCc_c (by rw [e])) (fun f => by rw [e, gJ_l (gClo_lt h1 hi)]) (gJ_l hi).symm)
  · obtain ⟨j, rfl⟩ : ∃ j, i = L1.length + j := ⟨i - L1.length, by omega⟩
    rw [List.getElem?_append_right (by omega), e1, Nat.add_sub_cancel_left]
    by_cases hj : j < L2.length
    · rw [gW_get hj, gW_get (by rw [List.length_append]; omega), gJ_r]
      congr 2
      obtain ⟨q1, q2, q3⟩ := gOf_r (L1 := L1) (L2 := L2) (b := L1.length) (i := j) rfl
      exact (gE_c q1 q2 (gCc_c q1) (fun f => by rw [q3, gJ_r]) gJ_r).symm
    · rw [List.getElem?_eq_none (by simp [gW]; omega), List.getElem?_eq_none (by simp [gW]; omega)]
theorem lW_cons {L : gL} {x : ClassId × ClassId} {ci h : Nat} {r : List Nat} {ad : Nat → Nat} {σ : gM} {v0 : Nat → Int32} {fs : List Value} (hci : ci < 11) (hfs : ((List.range (g_nf ci)).map fun k => if g_isr ci k = true then Value.ref (gJ 1 (fun _ => h) ad (r.getD k 0)) else .int (v0 k)) = fs) : (h, .inr (ci, fs)) :: lW L x ad σ = lW ((ci, 0, r) :: gSh 1 L) x (gJ 1 (fun _ => h) ad) (gJ 1 (fun _ => v0) σ) := by
  have e2 : (gSh 1 L).length = L.length := by simp [gSh]
  apply List.ext_getElem?
  intro i
  cases i with
  | zero =>
    rw [List.getElem?_cons_zero, gW_get (by simp)]
    congr 2
    rw [gE_ob hci]
    rw [← hfs]
    rfl
  | succ j =>
    rw [List.getElem?_cons_succ]
    by_cases hj : j < L.length
    · rw [gW_get hj, gW_get (by rw [List.length_cons]; omega), show j + 1 = 1 + j by omega, gJ_r]
      congr 2
      obtain ⟨q1, q2, q3⟩ := gOf_r (L1 := [(ci, 0, r)]) (L2 := L) (b := 1) (i := j) rfl
      exact (gE_c q1 q2 (gCc_c q1) (fun f => by rw [q3, gJ_r]) gJ_r).symm
    · rw [List.getElem?_eq_none (by simp [gW]; omega), List.getElem?_eq_none (by simp [gW]; omega)]
theorem lW_arr {x : ClassId × ClassId} {q n : Nat} : [(q, (.inl (x.1, n, .inl fun _ => 0) : va_E))] = lW [(11, n, [])] x (fun _ => q) (fun _ _ => 0) := rfl
theorem gWorld_of {L : gL} {x : ClassId × ClassId} : gWorld (gOf L) L.length (gCc (gOf L) x) [(x.1, .int), (x.2, .array .int)] := by
  refine ⟨fun i h => ?_, fun i h => ⟨0, ?_⟩, fun i h => ⟨1, ?_⟩⟩
  · rcases Nat.lt_or_ge i L.length with z | z
    · exact z
    · unfold gOf at h
      rw [List.getElem?_eq_none z] at h
      exact absurd h (by show ¬ (20 ≤ 12); omega)
  · unfold gCc
    rw [if_neg (by omega)]
    rfl
  · unfold gCc
    rw [if_pos h]
    rfl
theorem gOf_13 {L : gL} (h : (L.all fun q => q.1 != 13) = true) (i : Nat) : (gOf L i).1 ≠ 13 := by
  unfold gOf
  cases e : L[i]? with
  | none => exact (by show ¬ (20 = 13); omega)
  | some q =>
    have := List.all_eq_true.mp h q (List.mem_of_getElem? e)
    simpa using this
