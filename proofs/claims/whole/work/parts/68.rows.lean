def rowsL : gL := [(12, 6, [1, 2, 3, 4, 5, 6]), (11, 60, []), (11, 60, []), (11, 60, []), (11, 60, []), (11, 60, []), (11, 60, [])]
section O68
variable {p : Program} {l : Launch} {e : Env} {R : Room} {s : State} {m : MethodId} {args : Array Value} {below : List Frame} {meth : Method} {c : Code} {H : Heap} {locs : List Loc} {cells slots : Nat} {Q : State → Prop}
variable {pc : Nat} {ls : Array Slot} {rest : List Value} {D : va_G} {A : Nat → Prop} {x : ClassId × ClassId} {Y : gY}
theorem nv_re {cl : List vw_C} {ws : va_W} {k q : Nat} {e1 e2 : va_E} (hk : ws[k]? = some (q, e1)) (h : va_at D cl (q, e1) H → va_at D cl (q, e2) H) (hP : va_P D cl ws H) : va_P D cl (ws.set k (q, e2)) H := fun i y hy => by
  by_cases e : k = i
  · subst e
    rw [List.getElem?_set_self (List.getElem?_eq_some_iff.mp hk).1] at hy
    cases hy
    exact h (hP k _ hk)
  · rw [List.getElem?_set_ne e] at hy
    exact hP i y hy
theorem arrV_c {cA : ClassId} {N : Nat} {f g : Nat → Value} (h : ∀ j, j < N → f j = g j) : arrV cA N f = arrV cA N g := by
  unfold arrV
  congr 2
  funext j
  exact h j.val j.isLt
/-- a row of rows comes to be -/
theorem ci_rows (F : cFix p s m args meth c Y x D A) {C : String} {T : u_T} {N ci : Nat} (hc : vwCl[ci]? = some (C, T, N)) (hcy : gRn Y.2.2.2.2 = C) (hu : ∀ w ∈ u_ws C T N, w ∈ gT) {ty0 : Nat → FieldType} (hty : ∀ k, k < N → parseFieldDescriptor (T k).2.2.1 = some (ty0 k)) (hnm : ∀ a, a < N → ∀ b, b < N → a ≠ b → (T a).2.1 ≠ (T b).2.1) {L : gL} {ad : Nat → Nat} {σ : gM} {h0 : Nat} {fs : List Value} (k nL : Nat) {idx i1 : Nat} {L' : gL} {σ' : gM}
    (hL' : L ++ gSh nL rowsL = L') (hnL : L.length = nL) (hσ' : gJ nL σ (fun _ _ => 0) = σ') (hclo : gClo L = true) (hk : k < N) (hkl : k < fs.length) (hlink : Cond.fieldLink C idx (T k).1 (T k).2.1 (T k).2.2.1 ∈ gT) (hfin : (T k).2.2.2 = true) (hdecl : (T k).1 = C) (htk : ty0 k = .array (.array .int)) (hcl : Cond.classLink C i1 "[[I" ∈ gT)
    (hcells : cells + (1 + 6) ≤ R.cells) (hslots : slots + (6 + 6 * 60) ≤ R.slots) (d1 : decode Y.2.1 pc = .ok (.multianewarray i1 2, 4)) (d2 : decode Y.2.1 (pc + 4) = .ok (.putfield idx, 3)) (hP : va_P D vwCl ((h0, .inr (ci, fs)) :: lW L x ad σ) H) (hD : va_D A ((h0, .inr (ci, fs)) :: lW L x ad σ)) (hS : va_S A s.heap H locs)
    (kk : ∀ (q : Nat) (r : Nat → Nat) (H1 : Heap) (locs1 : List Loc), va_P D vwCl ((h0, .inr (ci, fs.set k (.ref q))) :: lW L' x (gJ nL ad fun i => if i = 0 then q else r (i - 1)) σ') H1 → va_D A ((h0, .inr (ci, fs.set k (.ref q))) :: lW L' x (gJ nL ad fun i => if i = 0 then q else r (i - 1)) σ') → va_S A s.heap H1 locs1 → W p l e R s m args below meth c H1 locs1 (cells + 1 + 6) (slots + 6 + 6 * 60) Q (F0 m (pc + 4 + 3) ls rest)) :
    W p l e R s m args below meth c H locs cells slots Q (F0 m pc ls (.int 60 :: .int 6 :: .ref h0 :: rest)) := by
  have hown : s.vm.findClass C = some m.cls := by rw [← hcy]; exact F.hown
  have hfc : s.vm.findClass (FieldType.array .int).toString = some x.1 := (F.hK.2 0 (x.1, .int) rfl).2
  have hcl2 : Cond.classLink C i1 ("[" ++ (FieldType.array .int).toString) ∈ gT := hcl
  have e0 : ((h0, .inr (ci, fs)) :: lW L x ad σ : va_W) = ((h0, .inr (ci, fs)) :: lW L x ad σ) ++ va_pl [] (fun _ => .inl (x.1, 60, .inl fun _ => 0)) := by
    rw [show va_pl [] (fun _ => (.inl (x.1, 60, .inl fun _ => 0) : va_E)) = [] from rfl, List.append_nil]
  rw [e0] at hP hD
  refine va_mna (ty := .int) (N' := 6) (K' := 60) (z := (60, .inl fun _ => 0)) F.hx F.hb hown (F.hts _ hcl2) F.hO (F.hts _ (gT_in (List.mem_of_getElem? (i := 106) (by decide +kernel)) rfl)) hfc F.hK hP hD hS F.hA (by decide) (by decide) (by decide) (by decide) (by decide) (by decide) (by decide) rfl rfl hcells hslots (fun c => arrV_new c 60 (.int 0)) d1 (fun q r cA H1 _ _ hK1 hP1 hD1 hS1 => ?_)
  have ec := nv_cls2 F.hK hK1
  subst ec
  have hpl : va_pl ([] ++ (List.range 6).map r) (vr_up (fun _ => (.inl (x.1, 60, .inl fun _ => 0) : va_E)) ((List.range 6).map r) (.inl (x.1, 60, .inl fun _ => 0))) = [(r 0, .inl (x.1, 60, .inl fun _ => 0)), (r 1, .inl (x.1, 60, .inl fun _ => 0)), (r 2, .inl (x.1, 60, .inl fun _ => 0)), (r 3, .inl (x.1, 60, .inl fun _ => 0)), (r 4, .inl (x.1, 60, .inl fun _ => 0)), (r 5, .inl (x.1, 60, .inl fun _ => 0))] := by
    rw [List.nil_append]
    unfold va_pl
    rw [List.map_map, List.map_congr_left (g := fun i => (r i, (.inl (x.1, 60, .inl fun _ => 0) : va_E))) (fun i hi => by
      show (r i, vr_up _ _ _ (r i)) = _
      rw [vr_up_in (List.mem_map_of_mem hi)])]
    rfl
  rw [hpl, List.append_assoc] at hP1 hD1
  have hw : (((h0, .inr (ci, fs)) :: lW L x ad σ) ++ lW rowsL x (fun i => if i = 0 then q else r (i - 1)) fun _ _ => 0) = (h0, .inr (ci, fs)) :: lW L' x (gJ nL ad fun i => if i = 0 then q else r (i - 1)) σ' := by
    subst hL' hnL hσ'
    rw [List.cons_append, lW_app hclo rfl]
  have hix : (((h0, .inr (ci, fs)) :: lW L x ad σ) ++ ([(q, (.inl (x.2, 6, .inr (.inr (.inr (.inr (fun i => if i < 6 then some (r i) else none))))) : va_E))] ++ [(r 0, .inl (x.1, 60, .inl fun _ => 0)), (r 1, .inl (x.1, 60, .inl fun _ => 0)), (r 2, .inl (x.1, 60, .inl fun _ => 0)), (r 3, .inl (x.1, 60, .inl fun _ => 0)), (r 4, .inl (x.1, 60, .inl fun _ => 0)), (r 5, .inl (x.1, 60, .inl fun _ => 0))]))[((h0, .inr (ci, fs)) :: lW L x ad σ : va_W).length]? = some (q, (.inl (x.2, 6, .inr (.inr (.inr (.inr (fun i => if i < 6 then some (r i) else none))))) : va_E)) := by
    rw [List.getElem?_append_right (Nat.le_refl _), Nat.sub_self]
    rfl
  have hP2 := nv_re (e2 := .inl (x.2, 6, .inr (.inr (.inr (.inr fun j => some ((fun i => if i = 0 then q else r (i - 1)) ((gOf rowsL 0).2.2 j))))))) hix (fun h => by
    have h1 : H1[q]? = some (vp_cell x.2 (6, .inr (.inr (.inr (.inr (fun i => if i < 6 then some (r i) else none)))))) := h
    show H1[q]? = some (vp_cell x.2 _)
    rw [h1]
    show some (arrV x.2 6 fun j => va_rf (if j < 6 then some (r j) else none)) = some (arrV x.2 6 fun j => va_rf (some ((fun i => if i = 0 then q else r (i - 1)) ((gOf rowsL 0).2.2 j))))
    refine congrArg some (arrV_c (cA := x.2) (N := 6) (fun j hj => ?_))
    rw [if_pos hj]
    rcases (show j = 0 ∨ j = 1 ∨ j = 2 ∨ j = 3 ∨ j = 4 ∨ j = 5 by omega) with rfl | rfl | rfl | rfl | rfl | rfl <;> rfl) hP1
  have hD2 := hD1.set (e := .inl (x.2, 6, .inr (.inr (.inr (.inr fun j => some ((fun i => if i = 0 then q else r (i - 1)) ((gOf rowsL 0).2.2 j))))))) hix
  rw [List.set_append_right _ _ (Nat.le_refl _), Nat.sub_self] at hP2 hD2
  have hP3 : va_P D vwCl (((h0, .inr (ci, fs)) :: lW L x ad σ) ++ lW rowsL x (fun i => if i = 0 then q else r (i - 1)) fun _ _ => 0) H1 := hP2
  have hD3 : va_D A (((h0, .inr (ci, fs)) :: lW L x ad σ) ++ lW rowsL x (fun i => if i = 0 then q else r (i - 1)) fun _ _ => 0) := hD2
  rw [hw] at hP3 hD3
  exact va_putF (ci := ci) (C := C) (T := T) (N := N) (ty := .array (.array .int)) F.hx F.hb F.hts hu ty0 hty hnm hown F.hK hP3 hD3 hS1 0 rfl hc k hk (F.hts _ hlink) (fun _ h9 => h9) hfin F.hin hdecl (by rw [hty k hk, htk]) rfl rfl hkl d2 (fun H2 locs2 hP4 hD4 hS4 => kk q r H2 locs2 hP4 hD4 hS4)
end O68
