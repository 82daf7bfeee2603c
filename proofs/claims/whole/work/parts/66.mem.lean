/-- the numbers of a new memory -/
def g_mem : gM := g_fl (g_fl (g_fl (fun _ _ => 0) 7 0 240 (-1)) 20 0 10 240) 21 0 6 (-1)
def g_m4 : gM := gJ 66 (gJ 44 (gJ 22 g_mem g_mem) g_mem) g_mem
theorem gJ_0 {f g : gM} : gJ 0 f g = g := by
  funext i
  unfold gJ
  rw [if_neg (Nat.not_lt_zero _), Nat.sub_zero]
theorem gJ_z {n n' : Nat} {f : gM} (h : n ≤ n') : gJ (α := Nat → Int32) n' (gJ n f fun _ _ => 0) (fun _ _ => 0) = gJ n f fun _ _ => 0 := by
  funext i
  unfold gJ
  by_cases h1 : i < n
  · rw [if_pos (by omega)]
  · by_cases h2 : i < n'
    · rw [if_pos h2]
    · rw [if_neg h2, if_neg h1]
/-- the numbers of a new class -/
def g_cls : gM := gJ (α := Nat → Int32) 1 (fun _ _ => 0) (gJ 88 g_m4 fun _ _ => 0)
theorem g_cls_up : g_up g_cls 0 8 0 = g_cls := by
  funext b j
  unfold g_up
  by_cases h : b = 0 ∧ j = 8
  · rw [if_pos h, h.1, h.2]
    rfl
  · rw [if_neg h]
theorem tail_X1 {Q : gK} (h : Q none (g_fl (fun _ _ => 0) 1 0 240 (-1))) : gw (gCm' (gOf LX1) 2) (gOf LX1) mX1_init Q 13 [.ref 0] [] (fun _ _ => 0) := by
  rw [BX1_init_13 sh_X1, EX1_release sh_X1]
  refine Eq.mpr (fill_eq (G := gOf LX1) (a := 1) (n0 := 240) (l := 0) (n := 240) (by decide +kernel) (by decide +kernel) (by decide) (by decide)) ?_
  refine Eq.mpr (BX1_release_10 sh_X1) ?_
  exact Eq.mpr (BX1_init_21 sh_X1) h
theorem tail_X3 {Q : gK} (h : Q none g_mem) : gw (gCm' (gOf LX3) 1) (gOf LX3) mX3_init Q 73 [.ref 0] [] (g_fl (fun _ _ => 0) 7 0 240 (-1)) := by
  rw [BX3_init_73 sh_X3]
  refine Eq.mpr (fill_eq (G := gOf LX3) (a := 20) (n0 := 10) (l := 0) (n := 10) (by decide +kernel) (by decide +kernel) (by decide) (by decide)) ?_
  refine Eq.mpr (BX3_init_86 sh_X3) ?_
  refine Eq.mpr (fill_eq (G := gOf LX3) (a := 21) (n0 := 6) (l := 0) (n := 6) (by decide +kernel) (by decide +kernel) (by decide) (by decide)) ?_
  exact Eq.mpr (BX3_init_97 sh_X3) h
set_option maxHeartbeats 4000000 in
theorem ct_X1 (l : Launch) : cMet l mX1_init 1 [.null] LX1 (fun σ => σ = g_fl (fun _ _ => 0) 1 0 240 (-1)) { frames := 3, cells := 1, slots := 240, locals := 111 } := by
  refine ci_met (idx := 3) ok_mX1_init rfl rfl (Nat.le_of_ble_eq_true rfl) (gT_in (List.mem_of_getElem? (i := 112) (by decide +kernel)) rfl) dX1_init_0 dX1_init_1 (Nat.le_of_ble_eq_true rfl) (Nat.le_of_ble_eq_true rfl) (fun D x h p e s m args below meth c S A F hl hP hD hS => ?_)
  refine lv_aload_n F.hx F.hb dX1_init_4 rfl (lv_at hl 0 rfl) ?_
  refine lv_sipush (v := 240) F.hx F.hb dX1_init_5 (by decide) ?_
  refine ci_arr (L' := [(11, 240, [])]) (σ' := fun _ _ => 0) F rfl rfl uwX1 tyX1_ok nmX1 0 240 0 rfl rfl (gJ_00) (by decide +kernel) (by decide) (by decide) (by decide) (by decide) (Nat.le_of_ble_eq_true rfl) (gT_in (List.mem_of_getElem? (i := 120) (by decide +kernel)) rfl) rfl rfl rfl (Nat.le_of_ble_eq_true rfl) (Nat.le_of_ble_eq_true rfl) dX1_init_8 dX1_init_10 hP hD hS (fun q0 H0 locs0 hP hD hS => ?_)
  exact ci_end (L' := LX1) (ci := 1) (d := 2) (r := [1]) (v0 := fun _ => 0) (σ' := fun _ _ => 0) F [.ref 0] hP hD hS (by decide) ((fsX1 _ _).trans rfl) rfl (gJ_00) rfl (by decide +kernel) ⟨Nat.le_of_ble_eq_true rfl, Nat.le_of_ble_eq_true rfl⟩ ⟨Nat.le_of_ble_eq_true rfl, Nat.le_of_ble_eq_true rfl⟩ hl rfl rfl (tail_X1 ⟨rfl, rfl⟩)
set_option maxHeartbeats 4000000 in
theorem ct_X3 (l : Launch) : cMet l mX3_init 3 [.int 0, .null, .null, .null, .null, .null, .null, .null] LX3 (fun σ => σ = g_mem) { frames := 4, cells := 21, slots := 830, locals := 131 } := by
  refine ci_met (idx := 3) ok_mX3_init rfl rfl (Nat.le_of_ble_eq_true rfl) (gT_in (List.mem_of_getElem? (i := 79) (by decide +kernel)) rfl) dX3_init_0 dX3_init_1 (Nat.le_of_ble_eq_true rfl) (Nat.le_of_ble_eq_true rfl) (fun D x h p e s m args below meth c S A F hl hP hD hS => ?_)
  refine lv_aload_n F.hx F.hb dX3_init_4 rfl (lv_at hl 0 rfl) ?_
  refine lv_sipush (v := 240) F.hx F.hb dX3_init_5 (by decide) ?_
  refine ci_arr (L' := [(11, 240, [])]) (σ' := fun _ _ => 0) F rfl rfl uwX3 tyX3_ok nmX3 1 240 0 rfl rfl (gJ_00) (by decide +kernel) (by decide) (by decide) (by decide) (by decide) (Nat.le_of_ble_eq_true rfl) (gT_in (List.mem_of_getElem? (i := 201) (by decide +kernel)) rfl) rfl rfl rfl (Nat.le_of_ble_eq_true rfl) (Nat.le_of_ble_eq_true rfl) dX3_init_8 dX3_init_10 hP hD hS (fun q1 H1 locs1 hP hD hS => ?_)
  refine lv_aload_n F.hx F.hb dX3_init_13 rfl (lv_at hl 0 rfl) ?_
  refine ci_obj (L' := [(11, 240, []), (5, 0, [1, 2, 3, 4]), (11, 6, []), (11, 6, []), (11, 6, [])]) F rfl rfl uwX3 tyX3_ok nmX3 rfl uwX5 tyX5_ok (fun j hj => by rcases (show j = 0 ∨ j = 1 ∨ j = 2 ∨ j = 3 by omega) with rfl | rfl | rfl | rfl <;> rfl) (gT_in (List.mem_of_getElem? (i := 80) (by decide +kernel)) rfl) (gT_in (List.mem_of_getElem? (i := 81) (by decide +kernel)) rfl) ok_mX5_init rfl rfl rfl (gT_in (List.mem_of_getElem? (i := 83) (by decide +kernel)) rfl) (Or.inr ⟨"RegionHandles", List.mem_of_getElem? (i := 0) (by decide +kernel)⟩) (ct_X5 l) 2 1 (fun σ2 => fun _ _ => 0) rfl rfl (fun σ2 hσ2 => by rw [hσ2]; exact gJ_00) (by decide +kernel) cX5 (by decide) (Nat.le_of_ble_eq_true rfl) (gT_in (List.mem_of_getElem? (i := 204) (by decide +kernel)) rfl) rfl rfl rfl ⟨Nat.le_of_ble_eq_true rfl, Nat.le_of_ble_eq_true rfl⟩ (Nat.le_of_ble_eq_true rfl) (Nat.le_of_ble_eq_true rfl) hl.1.symm dX3_init_14 dX3_init_17 dX3_init_18 dX3_init_21 hP hD hS (fun u2 σ2 H2 locs2 hΦ2 hP hD hS => ?_)
  refine lv_aload_n F.hx F.hb dX3_init_24 rfl (lv_at hl 0 rfl) ?_
  refine ci_obj (L' := [(11, 240, []), (5, 0, [1, 2, 3, 4]), (11, 6, []), (11, 6, []), (11, 6, []), (1, 0, [6]), (11, 240, [])]) F rfl rfl uwX3 tyX3_ok nmX3 rfl uwX1 tyX1_ok (fun j hj => by rcases (show j = 0 by omega) with rfl <;> rfl) (gT_in (List.mem_of_getElem? (i := 107) (by decide +kernel)) rfl) (gT_in (List.mem_of_getElem? (i := 108) (by decide +kernel)) rfl) ok_mX1_init rfl rfl rfl (gT_in (List.mem_of_getElem? (i := 110) (by decide +kernel)) rfl) (Or.inl (gT_in (List.mem_of_getElem? (i := 109) (by decide +kernel)) rfl)) (ct_X1 l) 3 5 (fun σ2 => g_fl (fun _ _ => 0) 6 0 240 (-1)) rfl rfl (fun σ2 hσ2 => by rw [hσ2]; exact gJ_fl) (by decide +kernel) cX1 (by decide) (Nat.le_of_ble_eq_true rfl) (gT_in (List.mem_of_getElem? (i := 206) (by decide +kernel)) rfl) rfl rfl rfl ⟨Nat.le_of_ble_eq_true rfl, Nat.le_of_ble_eq_true rfl⟩ (Nat.le_of_ble_eq_true rfl) (Nat.le_of_ble_eq_true rfl) hl.1.symm dX3_init_25 dX3_init_28 dX3_init_29 dX3_init_32 hP hD hS (fun u3 σ3 H3 locs3 hΦ3 hP hD hS => ?_)
  refine lv_aload_n F.hx F.hb dX3_init_35 rfl (lv_at hl 0 rfl) ?_
  refine ci_obj (L' := [(11, 240, []), (5, 0, [1, 2, 3, 4]), (11, 6, []), (11, 6, []), (11, 6, []), (1, 0, [6]), (11, 240, []), (0, 0, [8, 9, 10, 11, 12, 13, 14, 15, 16]), (11, 30, []), (11, 30, []), (11, 30, []), (11, 30, []), (11, 30, []), (11, 30, []), (11, 30, []), (11, 30, []), (11, 30, [])]) F rfl rfl uwX3 tyX3_ok nmX3 rfl uwX0 tyX0_ok (fun j hj => by rcases (show j = 0 ∨ j = 1 ∨ j = 2 ∨ j = 3 ∨ j = 4 ∨ j = 5 ∨ j = 6 ∨ j = 7 ∨ j = 8 by omega) with rfl | rfl | rfl | rfl | rfl | rfl | rfl | rfl | rfl <;> rfl) (gT_in (List.mem_of_getElem? (i := 126) (by decide +kernel)) rfl) (gT_in (List.mem_of_getElem? (i := 127) (by decide +kernel)) rfl) ok_mX0_init rfl rfl rfl (gT_in (List.mem_of_getElem? (i := 129) (by decide +kernel)) rfl) (Or.inr ⟨"RegionHandles", List.mem_of_getElem? (i := 2) (by decide +kernel)⟩) (ct_X0 l) 4 7 (fun σ2 => g_fl (fun _ _ => 0) 6 0 240 (-1)) rfl rfl (fun σ2 hσ2 => by rw [hσ2]; exact gJ_fl2 (by decide)) (by decide +kernel) cX0 (by decide) (Nat.le_of_ble_eq_true rfl) (gT_in (List.mem_of_getElem? (i := 208) (by decide +kernel)) rfl) rfl rfl rfl ⟨Nat.le_of_ble_eq_true rfl, Nat.le_of_ble_eq_true rfl⟩ (Nat.le_of_ble_eq_true rfl) (Nat.le_of_ble_eq_true rfl) hl.1.symm dX3_init_36 dX3_init_39 dX3_init_40 dX3_init_43 hP hD hS (fun u4 σ4 H4 locs4 hΦ4 hP hD hS => ?_)
  refine lv_aload_n F.hx F.hb dX3_init_46 rfl (lv_at hl 0 rfl) ?_
  refine ci_obj (L' := [(11, 240, []), (5, 0, [1, 2, 3, 4]), (11, 6, []), (11, 6, []), (11, 6, []), (1, 0, [6]), (11, 240, []), (0, 0, [8, 9, 10, 11, 12, 13, 14, 15, 16]), (11, 30, []), (11, 30, []), (11, 30, []), (11, 30, []), (11, 30, []), (11, 30, []), (11, 30, []), (11, 30, []), (11, 30, []), (6, 0, [17, 18]), (11, 30, [])]) F rfl rfl uwX3 tyX3_ok nmX3 rfl uwX6 tyX6_ok (fun j hj => by rcases (show j = 0 ∨ j = 1 by omega) with rfl | rfl <;> rfl) (gT_in (List.mem_of_getElem? (i := 183) (by decide +kernel)) rfl) (gT_in (List.mem_of_getElem? (i := 184) (by decide +kernel)) rfl) ok_mX6_init rfl rfl rfl (gT_in (List.mem_of_getElem? (i := 186) (by decide +kernel)) rfl) (Or.inr ⟨"RegionHandles", List.mem_of_getElem? (i := 3) (by decide +kernel)⟩) (ct_X6 l) 5 17 (fun σ2 => g_fl (fun _ _ => 0) 6 0 240 (-1)) rfl rfl (fun σ2 hσ2 => by rw [hσ2]; exact gJ_fl2 (by decide)) (by decide +kernel) cX6 (by decide) (Nat.le_of_ble_eq_true rfl) (gT_in (List.mem_of_getElem? (i := 211) (by decide +kernel)) rfl) rfl rfl rfl ⟨Nat.le_of_ble_eq_true rfl, Nat.le_of_ble_eq_true rfl⟩ (Nat.le_of_ble_eq_true rfl) (Nat.le_of_ble_eq_true rfl) hl.1.symm dX3_init_47 dX3_init_50 dX3_init_51 dX3_init_54 hP hD hS (fun u5 σ5 H5 locs5 hΦ5 hP hD hS => ?_)
  refine lv_aload_n F.hx F.hb dX3_init_57 rfl (lv_at hl 0 rfl) ?_
  refine lv_bipush (v := 10) F.hx F.hb dX3_init_58 (by decide) ?_
  refine ci_arr (L' := [(11, 240, []), (5, 0, [1, 2, 3, 4]), (11, 6, []), (11, 6, []), (11, 6, []), (1, 0, [6]), (11, 240, []), (0, 0, [8, 9, 10, 11, 12, 13, 14, 15, 16]), (11, 30, []), (11, 30, []), (11, 30, []), (11, 30, []), (11, 30, []), (11, 30, []), (11, 30, []), (11, 30, []), (11, 30, []), (6, 0, [17, 18]), (11, 30, []), (11, 10, [])]) (σ' := g_fl (fun _ _ => 0) 6 0 240 (-1)) F rfl rfl uwX3 tyX3_ok nmX3 6 10 19 rfl rfl (gJ_fl2 (by decide)) (by decide +kernel) (by decide) (by decide) (by decide) (by decide) (Nat.le_of_ble_eq_true rfl) (gT_in (List.mem_of_getElem? (i := 213) (by decide +kernel)) rfl) rfl rfl rfl (Nat.le_of_ble_eq_true rfl) (Nat.le_of_ble_eq_true rfl) dX3_init_60 dX3_init_62 hP hD hS (fun q6 H6 locs6 hP hD hS => ?_)
  refine lv_aload_n F.hx F.hb dX3_init_65 rfl (lv_at hl 0 rfl) ?_
  refine lv_bipush (v := 6) F.hx F.hb dX3_init_66 (by decide) ?_
  refine ci_arr (L' := [(11, 240, []), (5, 0, [1, 2, 3, 4]), (11, 6, []), (11, 6, []), (11, 6, []), (1, 0, [6]), (11, 240, []), (0, 0, [8, 9, 10, 11, 12, 13, 14, 15, 16]), (11, 30, []), (11, 30, []), (11, 30, []), (11, 30, []), (11, 30, []), (11, 30, []), (11, 30, []), (11, 30, []), (11, 30, []), (6, 0, [17, 18]), (11, 30, []), (11, 10, []), (11, 6, [])]) (σ' := g_fl (fun _ _ => 0) 6 0 240 (-1)) F rfl rfl uwX3 tyX3_ok nmX3 7 6 20 rfl rfl (gJ_fl2 (by decide)) (by decide +kernel) (by decide) (by decide) (by decide) (by decide) (Nat.le_of_ble_eq_true rfl) (gT_in (List.mem_of_getElem? (i := 215) (by decide +kernel)) rfl) rfl rfl rfl (Nat.le_of_ble_eq_true rfl) (Nat.le_of_ble_eq_true rfl) dX3_init_68 dX3_init_70 hP hD hS (fun q7 H7 locs7 hP hD hS => ?_)
  exact ci_end (L' := LX3) (ci := 3) (d := 1) (r := [0, 1, 2, 6, 8, 18, 20, 21]) (v0 := fun _ => 0) (σ' := g_fl (fun _ _ => 0) 7 0 240 (-1)) F [.ref 0] hP hD hS (by decide) ((fsX3 _ _).trans rfl) rfl (gJ_fl) rfl (by decide +kernel) ⟨Nat.le_of_ble_eq_true rfl, Nat.le_of_ble_eq_true rfl⟩ ⟨Nat.le_of_ble_eq_true rfl, Nat.le_of_ble_eq_true rfl⟩ hl rfl rfl (tail_X3 ⟨rfl, rfl⟩)
