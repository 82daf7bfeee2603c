theorem gJ_00 {n : Nat} : gJ (α := Nat → Int32) n (fun _ _ => 0) (fun _ _ => 0) = fun _ _ => 0 := by
  funext i j
  unfold gJ
  split <;> rfl
theorem gJ_fl {n a l k : Nat} {v : Int32} : gJ (α := Nat → Int32) n (fun _ _ => 0) (g_fl (fun _ _ => 0) a l k v) = g_fl (fun _ _ => 0) (n + a) l k v := by
  funext i j
  unfold gJ g_fl
  by_cases h : i < n
  · rw [if_pos h, if_neg (by omega)]
  · rw [if_neg h]
    by_cases h2 : i - n = a ∧ l ≤ j ∧ j < l + k
    · rw [if_pos h2, if_pos (by omega)]
    · rw [if_neg h2, if_neg (by omega)]
theorem gJ_fl2 {n a l k : Nat} {v : Int32} (ha : a < n) : gJ (α := Nat → Int32) n (g_fl (fun _ _ => 0) a l k v) (fun _ _ => 0) = g_fl (fun _ _ => 0) a l k v := by
  funext i j
  unfold gJ g_fl
  by_cases h : i < n
  · rw [if_pos h]
  · rw [if_neg h, if_neg (by omega)]
section O65
variable {p : Program} {l : Launch} {e : Env} {R : Room} {s : State} {m : MethodId} {args : Array Value} {below : List Frame} {meth : Method} {c : Code} {H : Heap} {locs : List Loc} {cells slots : Nat}
variable {pc : Nat} {ls : Array Slot} {D : va_G} {A : Nat → Prop} {x : ClassId × ClassId} {Y : gY}
/-- the end of a constructor: the small machine goes on -/
theorem ci_end (F : cFix p s m args meth c Y x D A) {L L' : gL} {ci h d : Nat} {r : List Nat} {ad : Nat → Nat} {σ σ' : gM} {v0 : Nat → Int32} {fs : List Value} {Φ : gM → Prop} (vs : List Value) (hP : va_P D vwCl ((h, .inr (ci, fs)) :: lW L x ad σ) H) (hD : va_D A ((h, .inr (ci, fs)) :: lW L x ad σ)) (hS : va_S A s.heap H locs) (hci : ci < 11) (hfs : ((List.range (g_nf ci)).map fun k => if g_isr ci k = true then Value.ref (gJ 1 (fun _ => h) ad (r.getD k 0)) else .int (v0 k)) = fs) (hL' : (ci, 0, r) :: gSh 1 L = L') (hσ' : gJ 1 (fun _ => v0) σ = σ') (hret : Y.2.2.2.1 = none) (h13 : (L'.all fun q => q.1 != 13) = true) (hrm : d + 1 ≤ R.frames ∧ 37 + 37 * d ≤ R.locals) (hcs : cells ≤ R.cells ∧ slots ≤ R.slots) (hl : lv_has ls Y.2.2.1 [(0, .ref h)]) (hvs : gLv (gJ 1 (fun _ => h) ad) vs = [(0, .ref h)]) (hlen : vs.length = Y.2.2.1)
    (hg : gw (gCm' (gOf L') d) (gOf L') Y (fun r σ' => r = none ∧ Φ σ') pc vs [] σ') :
    W p l e R s m args below meth c H locs cells slots (MQ below (cQv D L' x Φ h A) args s cells slots A) (F0 m pc ls []) := by
  rw [lW_cons hci hfs, hL', hσ'] at hP hD
  exact ci_tail F hret h13 hrm hcs rfl (by rw [hvs]; exact hl) hlen hg hP hD hS
end O65
theorem sh_X0 : isX0 (gOf LX0) 0 := by
  unfold isX0
  decide +kernel
theorem sh_X2 : isX2 (gOf LX2) 0 := by
  unfold isX2
  decide +kernel
theorem sh_X4 : isX4 (gOf LX4) 0 := by
  unfold isX4
  decide +kernel
theorem sh_X5 : isX5 (gOf LX5) 0 := by
  unfold isX5
  decide +kernel
theorem sh_X6 : isX6 (gOf LX6) 0 := by
  unfold isX6
  decide +kernel
theorem sh_X7 : isX7 (gOf LX7) 0 := by
  unfold isX7
  decide +kernel
theorem sh_X8 : isX8 (gOf LX8) 0 := by
  unfold isX8
  decide +kernel
theorem sh_X1 : isX1 (gOf LX1) 0 := by
  unfold isX1
  decide +kernel
theorem sh_X3 : isX3 (gOf LX3) 0 := by
  unfold isX3 isX5 isX1 isX0 isX6
  decide +kernel
theorem sh_X9 : isX9 (gOf LX9) 0 := ⟨by decide +kernel, ⟨by decide +kernel, by unfold isX3 isX5 isX1 isX0 isX6; decide +kernel⟩, ⟨by decide +kernel, by unfold isX3 isX5 isX1 isX0 isX6; decide +kernel⟩, ⟨by decide +kernel, by unfold isX3 isX5 isX1 isX0 isX6; decide +kernel⟩, ⟨by decide +kernel, by unfold isX3 isX5 isX1 isX0 isX6; decide +kernel⟩, ⟨by decide +kernel, by unfold isX8; decide +kernel⟩, ⟨by decide +kernel, by unfold isX4; decide +kernel⟩, ⟨by decide +kernel, by unfold isX7; decide +kernel⟩, ⟨by decide +kernel, by unfold isX2; decide +kernel⟩⟩
theorem sh_X10 : isX10 (gOf LX10) 0 := by
  unfold isX10
  decide +kernel
theorem fsX0 (a b : Nat → Value) : ((List.range (g_nf 0)).map fun k => if g_isr 0 k = true then a k else b k) = [a 0, a 1, a 2, a 3, a 4, a 5, a 6, a 7, a 8] := by
  rw [show List.range (g_nf 0) = [0, 1, 2, 3, 4, 5, 6, 7, 8] by decide +kernel]
  simp only [List.map_cons, List.map_nil, show g_isr 0 0 = true by decide +kernel, show g_isr 0 1 = true by decide +kernel, show g_isr 0 2 = true by decide +kernel, show g_isr 0 3 = true by decide +kernel, show g_isr 0 4 = true by decide +kernel, show g_isr 0 5 = true by decide +kernel, show g_isr 0 6 = true by decide +kernel, show g_isr 0 7 = true by decide +kernel, show g_isr 0 8 = true by decide +kernel, Bool.false_eq_true, if_true, if_false]
theorem fsX2 (a b : Nat → Value) : ((List.range (g_nf 2)).map fun k => if g_isr 2 k = true then a k else b k) = [a 0, a 1, a 2, a 3] := by
  rw [show List.range (g_nf 2) = [0, 1, 2, 3] by decide +kernel]
  simp only [List.map_cons, List.map_nil, show g_isr 2 0 = true by decide +kernel, show g_isr 2 1 = true by decide +kernel, show g_isr 2 2 = true by decide +kernel, show g_isr 2 3 = true by decide +kernel, Bool.false_eq_true, if_true, if_false]
theorem fsX4 (a b : Nat → Value) : ((List.range (g_nf 4)).map fun k => if g_isr 4 k = true then a k else b k) = [b 0, a 1, a 2] := by
  rw [show List.range (g_nf 4) = [0, 1, 2] by decide +kernel]
  simp only [List.map_cons, List.map_nil, show g_isr 4 0 = false by decide +kernel, show g_isr 4 1 = true by decide +kernel, show g_isr 4 2 = true by decide +kernel, Bool.false_eq_true, if_true, if_false]
theorem fsX5 (a b : Nat → Value) : ((List.range (g_nf 5)).map fun k => if g_isr 5 k = true then a k else b k) = [b 0, a 1, a 2, a 3] := by
  rw [show List.range (g_nf 5) = [0, 1, 2, 3] by decide +kernel]
  simp only [List.map_cons, List.map_nil, show g_isr 5 0 = false by decide +kernel, show g_isr 5 1 = true by decide +kernel, show g_isr 5 2 = true by decide +kernel, show g_isr 5 3 = true by decide +kernel, Bool.false_eq_true, if_true, if_false]
theorem fsX6 (a b : Nat → Value) : ((List.range (g_nf 6)).map fun k => if g_isr 6 k = true then a k else b k) = [b 0, a 1] := by
  rw [show List.range (g_nf 6) = [0, 1] by decide +kernel]
  simp only [List.map_cons, List.map_nil, show g_isr 6 0 = false by decide +kernel, show g_isr 6 1 = true by decide +kernel, Bool.false_eq_true, if_true, if_false]
theorem fsX7 (a b : Nat → Value) : ((List.range (g_nf 7)).map fun k => if g_isr 7 k = true then a k else b k) = [b 0, a 1, b 2, b 3, a 4, a 5] := by
  rw [show List.range (g_nf 7) = [0, 1, 2, 3, 4, 5] by decide +kernel]
  simp only [List.map_cons, List.map_nil, show g_isr 7 0 = false by decide +kernel, show g_isr 7 1 = true by decide +kernel, show g_isr 7 2 = false by decide +kernel, show g_isr 7 3 = false by decide +kernel, show g_isr 7 4 = true by decide +kernel, show g_isr 7 5 = true by decide +kernel, Bool.false_eq_true, if_true, if_false]
theorem fsX8 (a b : Nat → Value) : ((List.range (g_nf 8)).map fun k => if g_isr 8 k = true then a k else b k) = [a 0, a 1, b 2] := by
  rw [show List.range (g_nf 8) = [0, 1, 2] by decide +kernel]
  simp only [List.map_cons, List.map_nil, show g_isr 8 0 = true by decide +kernel, show g_isr 8 1 = true by decide +kernel, show g_isr 8 2 = false by decide +kernel, Bool.false_eq_true, if_true, if_false]
theorem fsX1 (a b : Nat → Value) : ((List.range (g_nf 1)).map fun k => if g_isr 1 k = true then a k else b k) = [a 0] := by
  rw [show List.range (g_nf 1) = [0] by decide +kernel]
  simp only [List.map_cons, List.map_nil, show g_isr 1 0 = true by decide +kernel, Bool.false_eq_true, if_true, if_false]
theorem fsX3 (a b : Nat → Value) : ((List.range (g_nf 3)).map fun k => if g_isr 3 k = true then a k else b k) = [b 0, a 1, a 2, a 3, a 4, a 5, a 6, a 7] := by
  rw [show List.range (g_nf 3) = [0, 1, 2, 3, 4, 5, 6, 7] by decide +kernel]
  simp only [List.map_cons, List.map_nil, show g_isr 3 0 = false by decide +kernel, show g_isr 3 1 = true by decide +kernel, show g_isr 3 2 = true by decide +kernel, show g_isr 3 3 = true by decide +kernel, show g_isr 3 4 = true by decide +kernel, show g_isr 3 5 = true by decide +kernel, show g_isr 3 6 = true by decide +kernel, show g_isr 3 7 = true by decide +kernel, Bool.false_eq_true, if_true, if_false]
theorem fsX9 (a b : Nat → Value) : ((List.range (g_nf 9)).map fun k => if g_isr 9 k = true then a k else b k) = [a 0, a 1, a 2, a 3, a 4, a 5, a 6, a 7, b 8] := by
  rw [show List.range (g_nf 9) = [0, 1, 2, 3, 4, 5, 6, 7, 8] by decide +kernel]
  simp only [List.map_cons, List.map_nil, show g_isr 9 0 = true by decide +kernel, show g_isr 9 1 = true by decide +kernel, show g_isr 9 2 = true by decide +kernel, show g_isr 9 3 = true by decide +kernel, show g_isr 9 4 = true by decide +kernel, show g_isr 9 5 = true by decide +kernel, show g_isr 9 6 = true by decide +kernel, show g_isr 9 7 = true by decide +kernel, show g_isr 9 8 = false by decide +kernel, Bool.false_eq_true, if_true, if_false]
theorem fsX10 (a b : Nat → Value) : ((List.range (g_nf 10)).map fun k => if g_isr 10 k = true then a k else b k) = [a 0, a 1, a 2, a 3, b 4, a 5, a 6, a 7, a 8, a 9, a 10, b 11, a 12, a 13, a 14, a 15, b 16, b 17, a 18] := by
  rw [show List.range (g_nf 10) = [0, 1, 2, 3, 4, 5, 6, 7, 8, 9, 10, 11, 12, 13, 14, 15, 16, 17, 18] by decide +kernel]
  simp only [List.map_cons, List.map_nil, show g_isr 10 0 = true by decide +kernel, show g_isr 10 1 = true by decide +kernel, show g_isr 10 2 = true by decide +kernel, show g_isr 10 3 = true by decide +kernel, show g_isr 10 4 = false by decide +kernel, show g_isr 10 5 = true by decide +kernel, show g_isr 10 6 = true by decide +kernel, show g_isr 10 7 = true by decide +kernel, show g_isr 10 8 = true by decide +kernel, show g_isr 10 9 = true by decide +kernel, show g_isr 10 10 = true by decide +kernel, show g_isr 10 11 = false by decide +kernel, show g_isr 10 12 = true by decide +kernel, show g_isr 10 13 = true by decide +kernel, show g_isr 10 14 = true by decide +kernel, show g_isr 10 15 = true by decide +kernel, show g_isr 10 16 = false by decide +kernel, show g_isr 10 17 = false by decide +kernel, show g_isr 10 18 = true by decide +kernel, Bool.false_eq_true, if_true, if_false]
set_option maxHeartbeats 4000000 in
theorem ct_X0 (l : Launch) : cMet l mX0_init 0 [.null, .null, .null, .null, .null, .null, .null, .null, .null] LX0 (fun σ => σ = fun _ _ => 0) { frames := 1, cells := 9, slots := 270, locals := 37 } := by
  refine ci_met (idx := 3) ok_mX0_init rfl rfl (Nat.le_of_ble_eq_true rfl) (gT_in (List.mem_of_getElem? (i := 131) (by decide +kernel)) rfl) dX0_init_0 dX0_init_1 (Nat.le_of_ble_eq_true rfl) (Nat.le_of_ble_eq_true rfl) (fun D x h p e s m args below meth c S A F hl hP hD hS => ?_)
  refine lv_aload_n F.hx F.hb dX0_init_4 rfl (lv_at hl 0 rfl) ?_
  refine lv_bipush (v := 30) F.hx F.hb dX0_init_5 (by decide) ?_
  refine ci_arr (L' := [(11, 30, [])]) (σ' := fun _ _ => 0) F rfl rfl uwX0 tyX0_ok nmX0 0 30 0 rfl rfl (gJ_00) (by decide +kernel) (by decide) (by decide) (by decide) (by decide) (Nat.le_of_ble_eq_true rfl) (gT_in (List.mem_of_getElem? (i := 132) (by decide +kernel)) rfl) rfl rfl rfl (Nat.le_of_ble_eq_true rfl) (Nat.le_of_ble_eq_true rfl) dX0_init_7 dX0_init_9 hP hD hS (fun q0 H0 locs0 hP hD hS => ?_)
  refine lv_aload_n F.hx F.hb dX0_init_12 rfl (lv_at hl 0 rfl) ?_
  refine lv_bipush (v := 30) F.hx F.hb dX0_init_13 (by decide) ?_
  refine ci_arr (L' := [(11, 30, []), (11, 30, [])]) (σ' := fun _ _ => 0) F rfl rfl uwX0 tyX0_ok nmX0 1 30 1 rfl rfl (gJ_00) (by decide +kernel) (by decide) (by decide) (by decide) (by decide) (Nat.le_of_ble_eq_true rfl) (gT_in (List.mem_of_getElem? (i := 135) (by decide +kernel)) rfl) rfl rfl rfl (Nat.le_of_ble_eq_true rfl) (Nat.le_of_ble_eq_true rfl) dX0_init_15 dX0_init_17 hP hD hS (fun q1 H1 locs1 hP hD hS => ?_)
  refine lv_aload_n F.hx F.hb dX0_init_20 rfl (lv_at hl 0 rfl) ?_
  refine lv_bipush (v := 30) F.hx F.hb dX0_init_21 (by decide) ?_
  refine ci_arr (L' := [(11, 30, []), (11, 30, []), (11, 30, [])]) (σ' := fun _ _ => 0) F rfl rfl uwX0 tyX0_ok nmX0 2 30 2 rfl rfl (gJ_00) (by decide +kernel) (by decide) (by decide) (by decide) (by decide) (Nat.le_of_ble_eq_true rfl) (gT_in (List.mem_of_getElem? (i := 139) (by decide +kernel)) rfl) rfl rfl rfl (Nat.le_of_ble_eq_true rfl) (Nat.le_of_ble_eq_true rfl) dX0_init_23 dX0_init_25 hP hD hS (fun q2 H2 locs2 hP hD hS => ?_)
  refine lv_aload_n F.hx F.hb dX0_init_28 rfl (lv_at hl 0 rfl) ?_
  refine lv_bipush (v := 30) F.hx F.hb dX0_init_29 (by decide) ?_
  refine ci_arr (L' := [(11, 30, []), (11, 30, []), (11, 30, []), (11, 30, [])]) (σ' := fun _ _ => 0) F rfl rfl uwX0 tyX0_ok nmX0 3 30 3 rfl rfl (gJ_00) (by decide +kernel) (by decide) (by decide) (by decide) (by decide) (Nat.le_of_ble_eq_true rfl) (gT_in (List.mem_of_getElem? (i := 143) (by decide +kernel)) rfl) rfl rfl rfl (Nat.le_of_ble_eq_true rfl) (Nat.le_of_ble_eq_true rfl) dX0_init_31 dX0_init_33 hP hD hS (fun q3 H3 locs3 hP hD hS => ?_)
  refine lv_aload_n F.hx F.hb dX0_init_36 rfl (lv_at hl 0 rfl) ?_
  refine lv_bipush (v := 30) F.hx F.hb dX0_init_37 (by decide) ?_
  refine ci_arr (L' := [(11, 30, []), (11, 30, []), (11, 30, []), (11, 30, []), (11, 30, [])]) (σ' := fun _ _ => 0) F rfl rfl uwX0 tyX0_ok nmX0 4 30 4 rfl rfl (gJ_00) (by decide +kernel) (by decide) (by decide) (by decide) (by decide) (Nat.le_of_ble_eq_true rfl) (gT_in (List.mem_of_getElem? (i := 147) (by decide +kernel)) rfl) rfl rfl rfl (Nat.le_of_ble_eq_true rfl) (Nat.le_of_ble_eq_true rfl) dX0_init_39 dX0_init_41 hP hD hS (fun q4 H4 locs4 hP hD hS => ?_)
  refine lv_aload_n F.hx F.hb dX0_init_44 rfl (lv_at hl 0 rfl) ?_
  refine lv_bipush (v := 30) F.hx F.hb dX0_init_45 (by decide) ?_
  refine ci_arr (L' := [(11, 30, []), (11, 30, []), (11, 30, []), (11, 30, []), (11, 30, []), (11, 30, [])]) (σ' := fun _ _ => 0) F rfl rfl uwX0 tyX0_ok nmX0 5 30 5 rfl rfl (gJ_00) (by decide +kernel) (by decide) (by decide) (by decide) (by decide) (Nat.le_of_ble_eq_true rfl) (gT_in (List.mem_of_getElem? (i := 150) (by decide +kernel)) rfl) rfl rfl rfl (Nat.le_of_ble_eq_true rfl) (Nat.le_of_ble_eq_true rfl) dX0_init_47 dX0_init_49 hP hD hS (fun q5 H5 locs5 hP hD hS => ?_)
  refine lv_aload_n F.hx F.hb dX0_init_52 rfl (lv_at hl 0 rfl) ?_
  refine lv_bipush (v := 30) F.hx F.hb dX0_init_53 (by decide) ?_
  refine ci_arr (L' := [(11, 30, []), (11, 30, []), (11, 30, []), (11, 30, []), (11, 30, []), (11, 30, []), (11, 30, [])]) (σ' := fun _ _ => 0) F rfl rfl uwX0 tyX0_ok nmX0 6 30 6 rfl rfl (gJ_00) (by decide +kernel) (by decide) (by decide) (by decide) (by decide) (Nat.le_of_ble_eq_true rfl) (gT_in (List.mem_of_getElem? (i := 153) (by decide +kernel)) rfl) rfl rfl rfl (Nat.le_of_ble_eq_true rfl) (Nat.le_of_ble_eq_true rfl) dX0_init_55 dX0_init_57 hP hD hS (fun q6 H6 locs6 hP hD hS => ?_)
  refine lv_aload_n F.hx F.hb dX0_init_60 rfl (lv_at hl 0 rfl) ?_
  refine lv_bipush (v := 30) F.hx F.hb dX0_init_61 (by decide) ?_
  refine ci_arr (L' := [(11, 30, []), (11, 30, []), (11, 30, []), (11, 30, []), (11, 30, []), (11, 30, []), (11, 30, []), (11, 30, [])]) (σ' := fun _ _ => 0) F rfl rfl uwX0 tyX0_ok nmX0 7 30 7 rfl rfl (gJ_00) (by decide +kernel) (by decide) (by decide) (by decide) (by decide) (Nat.le_of_ble_eq_true rfl) (gT_in (List.mem_of_getElem? (i := 157) (by decide +kernel)) rfl) rfl rfl rfl (Nat.le_of_ble_eq_true rfl) (Nat.le_of_ble_eq_true rfl) dX0_init_63 dX0_init_65 hP hD hS (fun q7 H7 locs7 hP hD hS => ?_)
  refine lv_aload_n F.hx F.hb dX0_init_68 rfl (lv_at hl 0 rfl) ?_
  refine lv_bipush (v := 30) F.hx F.hb dX0_init_69 (by decide) ?_
  refine ci_arr (L' := [(11, 30, []), (11, 30, []), (11, 30, []), (11, 30, []), (11, 30, []), (11, 30, []), (11, 30, []), (11, 30, []), (11, 30, [])]) (σ' := fun _ _ => 0) F rfl rfl uwX0 tyX0_ok nmX0 8 30 8 rfl rfl (gJ_00) (by decide +kernel) (by decide) (by decide) (by decide) (by decide) (Nat.le_of_ble_eq_true rfl) (gT_in (List.mem_of_getElem? (i := 161) (by decide +kernel)) rfl) rfl rfl rfl (Nat.le_of_ble_eq_true rfl) (Nat.le_of_ble_eq_true rfl) dX0_init_71 dX0_init_73 hP hD hS (fun q8 H8 locs8 hP hD hS => ?_)
  exact ci_end (L' := LX0) (ci := 0) (d := 0) (r := [1, 2, 3, 4, 5, 6, 7, 8, 9]) (v0 := fun _ => 0) (σ' := fun _ _ => 0) F [.ref 0] hP hD hS (by decide) ((fsX0 _ _).trans rfl) rfl (gJ_00) rfl (by decide +kernel) ⟨Nat.le_of_ble_eq_true rfl, Nat.le_of_ble_eq_true rfl⟩ ⟨Nat.le_of_ble_eq_true rfl, Nat.le_of_ble_eq_true rfl⟩ hl rfl rfl (by rw [BX0_init_76 sh_X0]; exact ⟨rfl, rfl⟩)
set_option maxHeartbeats 4000000 in
theorem ct_X2 (l : Launch) : cMet l mX2_init 2 [.null, .null, .null, .null] LX2 (fun σ => σ = fun _ _ => 0) { frames := 1, cells := 4, slots := 378, locals := 37 } := by
  refine ci_met (idx := 3) ok_mX2_init rfl rfl (Nat.le_of_ble_eq_true rfl) (gT_in (List.mem_of_getElem? (i := 302) (by decide +kernel)) rfl) dX2_init_0 dX2_init_1 (Nat.le_of_ble_eq_true rfl) (Nat.le_of_ble_eq_true rfl) (fun D x h p e s m args below meth c S A F hl hP hD hS => ?_)
  refine lv_aload_n F.hx F.hb dX2_init_4 rfl (lv_at hl 0 rfl) ?_
  refine lv_bipush (v := 6) F.hx F.hb dX2_init_5 (by decide) ?_
  refine ci_arr (L' := [(11, 6, [])]) (σ' := fun _ _ => 0) F rfl rfl uwX2 tyX2_ok nmX2 0 6 0 rfl rfl (gJ_00) (by decide +kernel) (by decide) (by decide) (by decide) (by decide) (Nat.le_of_ble_eq_true rfl) (gT_in (List.mem_of_getElem? (i := 303) (by decide +kernel)) rfl) rfl rfl rfl (Nat.le_of_ble_eq_true rfl) (Nat.le_of_ble_eq_true rfl) dX2_init_7 dX2_init_9 hP hD hS (fun q0 H0 locs0 hP hD hS => ?_)
  refine lv_aload_n F.hx F.hb dX2_init_12 rfl (lv_at hl 0 rfl) ?_
  refine lv_bipush (v := 6) F.hx F.hb dX2_init_13 (by decide) ?_
  refine ci_arr (L' := [(11, 6, []), (11, 6, [])]) (σ' := fun _ _ => 0) F rfl rfl uwX2 tyX2_ok nmX2 1 6 1 rfl rfl (gJ_00) (by decide +kernel) (by decide) (by decide) (by decide) (by decide) (Nat.le_of_ble_eq_true rfl) (gT_in (List.mem_of_getElem? (i := 305) (by decide +kernel)) rfl) rfl rfl rfl (Nat.le_of_ble_eq_true rfl) (Nat.le_of_ble_eq_true rfl) dX2_init_15 dX2_init_17 hP hD hS (fun q1 H1 locs1 hP hD hS => ?_)
  refine lv_aload_n F.hx F.hb dX2_init_20 rfl (lv_at hl 0 rfl) ?_
  refine lv_bipush (v := 6) F.hx F.hb dX2_init_21 (by decide) ?_
  refine ci_arr (L' := [(11, 6, []), (11, 6, []), (11, 6, [])]) (σ' := fun _ _ => 0) F rfl rfl uwX2 tyX2_ok nmX2 2 6 2 rfl rfl (gJ_00) (by decide +kernel) (by decide) (by decide) (by decide) (by decide) (Nat.le_of_ble_eq_true rfl) (gT_in (List.mem_of_getElem? (i := 307) (by decide +kernel)) rfl) rfl rfl rfl (Nat.le_of_ble_eq_true rfl) (Nat.le_of_ble_eq_true rfl) dX2_init_23 dX2_init_25 hP hD hS (fun q2 H2 locs2 hP hD hS => ?_)
  refine lv_aload_n F.hx F.hb dX2_init_28 rfl (lv_at hl 0 rfl) ?_
  refine lv_sipush (v := 360) F.hx F.hb dX2_init_29 (by decide) ?_
  refine ci_arr (L' := [(11, 6, []), (11, 6, []), (11, 6, []), (11, 360, [])]) (σ' := fun _ _ => 0) F rfl rfl uwX2 tyX2_ok nmX2 3 360 3 rfl rfl (gJ_00) (by decide +kernel) (by decide) (by decide) (by decide) (by decide) (Nat.le_of_ble_eq_true rfl) (gT_in (List.mem_of_getElem? (i := 309) (by decide +kernel)) rfl) rfl rfl rfl (Nat.le_of_ble_eq_true rfl) (Nat.le_of_ble_eq_true rfl) dX2_init_32 dX2_init_34 hP hD hS (fun q3 H3 locs3 hP hD hS => ?_)
  exact ci_end (L' := LX2) (ci := 2) (d := 0) (r := [1, 2, 3, 4]) (v0 := fun _ => 0) (σ' := fun _ _ => 0) F [.ref 0] hP hD hS (by decide) ((fsX2 _ _).trans rfl) rfl (gJ_00) rfl (by decide +kernel) ⟨Nat.le_of_ble_eq_true rfl, Nat.le_of_ble_eq_true rfl⟩ ⟨Nat.le_of_ble_eq_true rfl, Nat.le_of_ble_eq_true rfl⟩ hl rfl rfl (by rw [BX2_init_37 sh_X2]; exact ⟨rfl, rfl⟩)
set_option maxHeartbeats 4000000 in
theorem ct_X4 (l : Launch) : cMet l mX4_init 4 [.int 0, .null, .null] LX4 (fun σ => σ = fun _ _ => 0) { frames := 1, cells := 2, slots := 120, locals := 37 } := by
  refine ci_met (idx := 3) ok_mX4_init rfl rfl (Nat.le_of_ble_eq_true rfl) (gT_in (List.mem_of_getElem? (i := 256) (by decide +kernel)) rfl) dX4_init_0 dX4_init_1 (Nat.le_of_ble_eq_true rfl) (Nat.le_of_ble_eq_true rfl) (fun D x h p e s m args below meth c S A F hl hP hD hS => ?_)
  refine lv_aload_n F.hx F.hb dX4_init_4 rfl (lv_at hl 0 rfl) ?_
  refine lv_bipush (v := 60) F.hx F.hb dX4_init_5 (by decide) ?_
  refine ci_arr (L' := [(11, 60, [])]) (σ' := fun _ _ => 0) F rfl rfl uwX4 tyX4_ok nmX4 1 60 0 rfl rfl (gJ_00) (by decide +kernel) (by decide) (by decide) (by decide) (by decide) (Nat.le_of_ble_eq_true rfl) (gT_in (List.mem_of_getElem? (i := 259) (by decide +kernel)) rfl) rfl rfl rfl (Nat.le_of_ble_eq_true rfl) (Nat.le_of_ble_eq_true rfl) dX4_init_7 dX4_init_9 hP hD hS (fun q1 H1 locs1 hP hD hS => ?_)
  refine lv_aload_n F.hx F.hb dX4_init_12 rfl (lv_at hl 0 rfl) ?_
  refine lv_bipush (v := 60) F.hx F.hb dX4_init_13 (by decide) ?_
  refine ci_arr (L' := [(11, 60, []), (11, 60, [])]) (σ' := fun _ _ => 0) F rfl rfl uwX4 tyX4_ok nmX4 2 60 1 rfl rfl (gJ_00) (by decide +kernel) (by decide) (by decide) (by decide) (by decide) (Nat.le_of_ble_eq_true rfl) (gT_in (List.mem_of_getElem? (i := 260) (by decide +kernel)) rfl) rfl rfl rfl (Nat.le_of_ble_eq_true rfl) (Nat.le_of_ble_eq_true rfl) dX4_init_15 dX4_init_17 hP hD hS (fun q2 H2 locs2 hP hD hS => ?_)
  exact ci_end (L' := LX4) (ci := 4) (d := 0) (r := [0, 1, 2]) (v0 := fun _ => 0) (σ' := fun _ _ => 0) F [.ref 0] hP hD hS (by decide) ((fsX4 _ _).trans rfl) rfl (gJ_00) rfl (by decide +kernel) ⟨Nat.le_of_ble_eq_true rfl, Nat.le_of_ble_eq_true rfl⟩ ⟨Nat.le_of_ble_eq_true rfl, Nat.le_of_ble_eq_true rfl⟩ hl rfl rfl (by rw [BX4_init_20 sh_X4]; exact ⟨rfl, rfl⟩)
set_option maxHeartbeats 4000000 in
theorem ct_X5 (l : Launch) : cMet l mX5_init 5 [.int 0, .null, .null, .null] LX5 (fun σ => σ = fun _ _ => 0) { frames := 1, cells := 3, slots := 18, locals := 37 } := by
  refine ci_met (idx := 3) ok_mX5_init rfl rfl (Nat.le_of_ble_eq_true rfl) (gT_in (List.mem_of_getElem? (i := 85) (by decide +kernel)) rfl) dX5_init_0 dX5_init_1 (Nat.le_of_ble_eq_true rfl) (Nat.le_of_ble_eq_true rfl) (fun D x h p e s m args below meth c S A F hl hP hD hS => ?_)
  refine lv_aload_n F.hx F.hb dX5_init_4 rfl (lv_at hl 0 rfl) ?_
  refine lv_bipush (v := 6) F.hx F.hb dX5_init_5 (by decide) ?_
  refine ci_arr (L' := [(11, 6, [])]) (σ' := fun _ _ => 0) F rfl rfl uwX5 tyX5_ok nmX5 1 6 0 rfl rfl (gJ_00) (by decide +kernel) (by decide) (by decide) (by decide) (by decide) (Nat.le_of_ble_eq_true rfl) (gT_in (List.mem_of_getElem? (i := 88) (by decide +kernel)) rfl) rfl rfl rfl (Nat.le_of_ble_eq_true rfl) (Nat.le_of_ble_eq_true rfl) dX5_init_7 dX5_init_9 hP hD hS (fun q1 H1 locs1 hP hD hS => ?_)
  refine lv_aload_n F.hx F.hb dX5_init_12 rfl (lv_at hl 0 rfl) ?_
  refine lv_bipush (v := 6) F.hx F.hb dX5_init_13 (by decide) ?_
  refine ci_arr (L' := [(11, 6, []), (11, 6, [])]) (σ' := fun _ _ => 0) F rfl rfl uwX5 tyX5_ok nmX5 2 6 1 rfl rfl (gJ_00) (by decide +kernel) (by decide) (by decide) (by decide) (by decide) (Nat.le_of_ble_eq_true rfl) (gT_in (List.mem_of_getElem? (i := 92) (by decide +kernel)) rfl) rfl rfl rfl (Nat.le_of_ble_eq_true rfl) (Nat.le_of_ble_eq_true rfl) dX5_init_15 dX5_init_17 hP hD hS (fun q2 H2 locs2 hP hD hS => ?_)
  refine lv_aload_n F.hx F.hb dX5_init_20 rfl (lv_at hl 0 rfl) ?_
  refine lv_bipush (v := 6) F.hx F.hb dX5_init_21 (by decide) ?_
  refine ci_arr (L' := [(11, 6, []), (11, 6, []), (11, 6, [])]) (σ' := fun _ _ => 0) F rfl rfl uwX5 tyX5_ok nmX5 3 6 2 rfl rfl (gJ_00) (by decide +kernel) (by decide) (by decide) (by decide) (by decide) (Nat.le_of_ble_eq_true rfl) (gT_in (List.mem_of_getElem? (i := 94) (by decide +kernel)) rfl) rfl rfl rfl (Nat.le_of_ble_eq_true rfl) (Nat.le_of_ble_eq_true rfl) dX5_init_23 dX5_init_25 hP hD hS (fun q3 H3 locs3 hP hD hS => ?_)
  exact ci_end (L' := LX5) (ci := 5) (d := 0) (r := [0, 1, 2, 3]) (v0 := fun _ => 0) (σ' := fun _ _ => 0) F [.ref 0] hP hD hS (by decide) ((fsX5 _ _).trans rfl) rfl (gJ_00) rfl (by decide +kernel) ⟨Nat.le_of_ble_eq_true rfl, Nat.le_of_ble_eq_true rfl⟩ ⟨Nat.le_of_ble_eq_true rfl, Nat.le_of_ble_eq_true rfl⟩ hl rfl rfl (by rw [BX5_init_28 sh_X5]; exact ⟨rfl, rfl⟩)
set_option maxHeartbeats 4000000 in
theorem ct_X6 (l : Launch) : cMet l mX6_init 6 [.int 0, .null] LX6 (fun σ => σ = fun _ _ => 0) { frames := 1, cells := 1, slots := 30, locals := 37 } := by
  refine ci_met (idx := 3) ok_mX6_init rfl rfl (Nat.le_of_ble_eq_true rfl) (gT_in (List.mem_of_getElem? (i := 188) (by decide +kernel)) rfl) dX6_init_0 dX6_init_1 (Nat.le_of_ble_eq_true rfl) (Nat.le_of_ble_eq_true rfl) (fun D x h p e s m args below meth c S A F hl hP hD hS => ?_)
  refine lv_aload_n F.hx F.hb dX6_init_4 rfl (lv_at hl 0 rfl) ?_
  refine lv_bipush (v := 30) F.hx F.hb dX6_init_5 (by decide) ?_
  refine ci_arr (L' := [(11, 30, [])]) (σ' := fun _ _ => 0) F rfl rfl uwX6 tyX6_ok nmX6 1 30 0 rfl rfl (gJ_00) (by decide +kernel) (by decide) (by decide) (by decide) (by decide) (Nat.le_of_ble_eq_true rfl) (gT_in (List.mem_of_getElem? (i := 192) (by decide +kernel)) rfl) rfl rfl rfl (Nat.le_of_ble_eq_true rfl) (Nat.le_of_ble_eq_true rfl) dX6_init_7 dX6_init_9 hP hD hS (fun q1 H1 locs1 hP hD hS => ?_)
  exact ci_end (L' := LX6) (ci := 6) (d := 0) (r := [0, 1]) (v0 := fun _ => 0) (σ' := fun _ _ => 0) F [.ref 0] hP hD hS (by decide) ((fsX6 _ _).trans rfl) rfl (gJ_00) rfl (by decide +kernel) ⟨Nat.le_of_ble_eq_true rfl, Nat.le_of_ble_eq_true rfl⟩ ⟨Nat.le_of_ble_eq_true rfl, Nat.le_of_ble_eq_true rfl⟩ hl rfl rfl (by rw [BX6_init_12 sh_X6]; exact ⟨rfl, rfl⟩)
set_option maxHeartbeats 4000000 in
theorem ct_X7 (l : Launch) : cMet l mX7_init 7 [.int 0, .null, .int 0, .int 0, .null, .null] LX7 (fun σ => σ = fun _ _ => 0) { frames := 1, cells := 3, slots := 360, locals := 37 } := by
  refine ci_met (idx := 3) ok_mX7_init rfl rfl (Nat.le_of_ble_eq_true rfl) (gT_in (List.mem_of_getElem? (i := 273) (by decide +kernel)) rfl) dX7_init_0 dX7_init_1 (Nat.le_of_ble_eq_true rfl) (Nat.le_of_ble_eq_true rfl) (fun D x h p e s m args below meth c S A F hl hP hD hS => ?_)
  refine lv_aload_n F.hx F.hb dX7_init_4 rfl (lv_at hl 0 rfl) ?_
  refine lv_bipush (v := 120) F.hx F.hb dX7_init_5 (by decide) ?_
  refine ci_arr (L' := [(11, 120, [])]) (σ' := fun _ _ => 0) F rfl rfl uwX7 tyX7_ok nmX7 1 120 0 rfl rfl (gJ_00) (by decide +kernel) (by decide) (by decide) (by decide) (by decide) (Nat.le_of_ble_eq_true rfl) (gT_in (List.mem_of_getElem? (i := 276) (by decide +kernel)) rfl) rfl rfl rfl (Nat.le_of_ble_eq_true rfl) (Nat.le_of_ble_eq_true rfl) dX7_init_7 dX7_init_9 hP hD hS (fun q1 H1 locs1 hP hD hS => ?_)
  refine lv_aload_n F.hx F.hb dX7_init_12 rfl (lv_at hl 0 rfl) ?_
  refine lv_bipush (v := 60) F.hx F.hb dX7_init_13 (by decide) ?_
  refine ci_arr (L' := [(11, 120, []), (11, 60, [])]) (σ' := fun _ _ => 0) F rfl rfl uwX7 tyX7_ok nmX7 4 60 1 rfl rfl (gJ_00) (by decide +kernel) (by decide) (by decide) (by decide) (by decide) (Nat.le_of_ble_eq_true rfl) (gT_in (List.mem_of_getElem? (i := 281) (by decide +kernel)) rfl) rfl rfl rfl (Nat.le_of_ble_eq_true rfl) (Nat.le_of_ble_eq_true rfl) dX7_init_15 dX7_init_17 hP hD hS (fun q4 H4 locs4 hP hD hS => ?_)
  refine lv_aload_n F.hx F.hb dX7_init_20 rfl (lv_at hl 0 rfl) ?_
  refine lv_sipush (v := 180) F.hx F.hb dX7_init_21 (by decide) ?_
  refine ci_arr (L' := [(11, 120, []), (11, 60, []), (11, 180, [])]) (σ' := fun _ _ => 0) F rfl rfl uwX7 tyX7_ok nmX7 5 180 2 rfl rfl (gJ_00) (by decide +kernel) (by decide) (by decide) (by decide) (by decide) (Nat.le_of_ble_eq_true rfl) (gT_in (List.mem_of_getElem? (i := 283) (by decide +kernel)) rfl) rfl rfl rfl (Nat.le_of_ble_eq_true rfl) (Nat.le_of_ble_eq_true rfl) dX7_init_24 dX7_init_26 hP hD hS (fun q5 H5 locs5 hP hD hS => ?_)
  exact ci_end (L' := LX7) (ci := 7) (d := 0) (r := [0, 1, 0, 0, 2, 3]) (v0 := fun _ => 0) (σ' := fun _ _ => 0) F [.ref 0] hP hD hS (by decide) ((fsX7 _ _).trans rfl) rfl (gJ_00) rfl (by decide +kernel) ⟨Nat.le_of_ble_eq_true rfl, Nat.le_of_ble_eq_true rfl⟩ ⟨Nat.le_of_ble_eq_true rfl, Nat.le_of_ble_eq_true rfl⟩ hl rfl rfl (by rw [BX7_init_29 sh_X7]; exact ⟨rfl, rfl⟩)
set_option maxHeartbeats 4000000 in
theorem ct_X8 (l : Launch) : cMet l mX8_init 8 [.null, .null, .int 0] LX8 (fun σ => σ = fun _ _ => 0) { frames := 1, cells := 2, slots := 60, locals := 37 } := by
  refine ci_met (idx := 3) ok_mX8_init rfl rfl (Nat.le_of_ble_eq_true rfl) (gT_in (List.mem_of_getElem? (i := 239) (by decide +kernel)) rfl) dX8_init_0 dX8_init_1 (Nat.le_of_ble_eq_true rfl) (Nat.le_of_ble_eq_true rfl) (fun D x h p e s m args below meth c S A F hl hP hD hS => ?_)
  refine lv_aload_n F.hx F.hb dX8_init_4 rfl (lv_at hl 0 rfl) ?_
  refine lv_bipush (v := 30) F.hx F.hb dX8_init_5 (by decide) ?_
  refine ci_arr (L' := [(11, 30, [])]) (σ' := fun _ _ => 0) F rfl rfl uwX8 tyX8_ok nmX8 0 30 0 rfl rfl (gJ_00) (by decide +kernel) (by decide) (by decide) (by decide) (by decide) (Nat.le_of_ble_eq_true rfl) (gT_in (List.mem_of_getElem? (i := 240) (by decide +kernel)) rfl) rfl rfl rfl (Nat.le_of_ble_eq_true rfl) (Nat.le_of_ble_eq_true rfl) dX8_init_7 dX8_init_9 hP hD hS (fun q0 H0 locs0 hP hD hS => ?_)
  refine lv_aload_n F.hx F.hb dX8_init_12 rfl (lv_at hl 0 rfl) ?_
  refine lv_bipush (v := 30) F.hx F.hb dX8_init_13 (by decide) ?_
  refine ci_arr (L' := [(11, 30, []), (11, 30, [])]) (σ' := fun _ _ => 0) F rfl rfl uwX8 tyX8_ok nmX8 1 30 1 rfl rfl (gJ_00) (by decide +kernel) (by decide) (by decide) (by decide) (by decide) (Nat.le_of_ble_eq_true rfl) (gT_in (List.mem_of_getElem? (i := 242) (by decide +kernel)) rfl) rfl rfl rfl (Nat.le_of_ble_eq_true rfl) (Nat.le_of_ble_eq_true rfl) dX8_init_15 dX8_init_17 hP hD hS (fun q1 H1 locs1 hP hD hS => ?_)
  exact ci_end (L' := LX8) (ci := 8) (d := 0) (r := [1, 2, 0]) (v0 := fun _ => 0) (σ' := fun _ _ => 0) F [.ref 0] hP hD hS (by decide) ((fsX8 _ _).trans rfl) rfl (gJ_00) rfl (by decide +kernel) ⟨Nat.le_of_ble_eq_true rfl, Nat.le_of_ble_eq_true rfl⟩ ⟨Nat.le_of_ble_eq_true rfl, Nat.le_of_ble_eq_true rfl⟩ hl rfl rfl (by rw [BX8_init_20 sh_X8]; exact ⟨rfl, rfl⟩)
