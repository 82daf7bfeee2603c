set_option maxHeartbeats 4000000 in
/-- the law, from its entry -/
theorem whole_start {p : Program} {e : Env} {s : State} {m : MethodId} {below : List Frame} {meth : Method} {c : Code} (l : Launch) (hflags : l.flags = flags0) {b L : Nat} {xs : Nat → Int32} (hL : L ≤ 2048) (C0 : lw_At p s m meth c b L xs) : W p l e room_1 s m #[Value.ref b] below meth c s.heap [] 0 0 (lw_Z below #[Value.ref b] s) (entryFrame m ([Value.ref b] : List Value).toArray 4) := by
  obtain ⟨hx, hb, hr, hml, hown, hts0, hX, hbl, hlocks, hgv⟩ := id C0
  have hts : ∀ w ∈ gT, w.before #[Value.ref b] s = true := fun w hw => hts0 w (List.mem_filter.mp hw).1
  have hNs : gNw s := fun q hq => va_Nw.of rfl (hts0 _ (nests_in q hq))
  have hov : (Cond.arrayOver (.array .int)).before #[Value.ref b] s = true := hts0 _ (List.mem_of_getElem? (i := 868) (by decide +kernel))
  have hO : va_AOA .int s := va_AOA.of hov
  obtain ⟨cI, kI, pI, i1, i2, i3⟩ := Cond.arrayClass_spec (hts0 (.arrayClass .int) (List.mem_of_getElem? (i := 106) (by decide +kernel)))
  obtain ⟨pJ, cJ, kJ, -, -, j2, j3, j1⟩ := Jvm.Stand.arrayOver_specB hov
  obtain ⟨c0, I0, k0⟩ := u_known (C := RX0) (T := TX0) (N := 9) (n := 9) hts uwX0 (hts (.instantiable RX0 9) (gT_in (List.mem_of_getElem? (i := 127) (by decide +kernel)) rfl))
  obtain ⟨c1, I1, k1⟩ := u_known (C := RX1) (T := TX1) (N := 1) (n := 1) hts uwX1 (hts (.instantiable RX1 1) (gT_in (List.mem_of_getElem? (i := 108) (by decide +kernel)) rfl))
  obtain ⟨c2, I2, k2⟩ := u_known (C := RX2) (T := TX2) (N := 4) (n := 4) hts uwX2 (hts (.instantiable RX2 4) (gT_in (List.mem_of_getElem? (i := 298) (by decide +kernel)) rfl))
  obtain ⟨c3, I3, k3⟩ := u_known (C := RX3) (T := TX3) (N := 8) (n := 8) hts uwX3 (hts (.instantiable RX3 8) (gT_in (List.mem_of_getElem? (i := 75) (by decide +kernel)) rfl))
  obtain ⟨c4, I4, k4⟩ := u_known (C := RX4) (T := TX4) (N := 3) (n := 3) hts uwX4 (hts (.instantiable RX4 3) (gT_in (List.mem_of_getElem? (i := 252) (by decide +kernel)) rfl))
  obtain ⟨c5, I5, k5⟩ := u_known (C := RX5) (T := TX5) (N := 4) (n := 4) hts uwX5 (hts (.instantiable RX5 4) (gT_in (List.mem_of_getElem? (i := 81) (by decide +kernel)) rfl))
  obtain ⟨c6, I6, k6⟩ := u_known (C := RX6) (T := TX6) (N := 2) (n := 2) hts uwX6 (hts (.instantiable RX6 2) (gT_in (List.mem_of_getElem? (i := 184) (by decide +kernel)) rfl))
  obtain ⟨c7, I7, k7⟩ := u_known (C := RX7) (T := TX7) (N := 6) (n := 6) hts uwX7 (hts (.instantiable RX7 6) (gT_in (List.mem_of_getElem? (i := 269) (by decide +kernel)) rfl))
  obtain ⟨c8, I8, k8⟩ := u_known (C := RX8) (T := TX8) (N := 3) (n := 3) hts uwX8 (hts (.instantiable RX8 3) (gT_in (List.mem_of_getElem? (i := 235) (by decide +kernel)) rfl))
  obtain ⟨c9, I9, k9⟩ := u_known (C := RX9) (T := TX9) (N := 9) (n := 9) hts uwX9 (hts (.instantiable RX9 9) (gT_in (List.mem_of_getElem? (i := 67) (by decide +kernel)) rfl))
  obtain ⟨c10, I10, k10⟩ := u_known (C := RX10) (T := TX10) (N := 19) (n := 19) hts uwX10 (hts (.instantiable RX10 19) (gT_in (List.mem_of_getElem? (i := 862) (by decide +kernel)) rfl))
  obtain ⟨D, hKc⟩ : ∃ D : va_G, ∀ (k : Nat) (q : vw_C), vwCl[k]? = some q → u_Kn s q.1 q.2.1 q.2.2 (D.1 k) (D.2 k) := by
    refine ⟨⟨fun k => [c0, c1, c2, c3, c4, c5, c6, c7, c8, c9, c10].getD k c0, fun k => [I0, I1, I2, I3, I4, I5, I6, I7, I8, I9, I10].getD k I0⟩, fun k q hq => ?_⟩
    match k, hq with
    | 0, hq => cases hq; exact k0
    | 1, hq => cases hq; exact k1
    | 2, hq => cases hq; exact k2
    | 3, hq => cases hq; exact k3
    | 4, hq => cases hq; exact k4
    | 5, hq => cases hq; exact k5
    | 6, hq => cases hq; exact k6
    | 7, hq => cases hq; exact k7
    | 8, hq => cases hq; exact k8
    | 9, hq => cases hq; exact k9
    | 10, hq => cases hq; exact k10
    | k + 11, hq => simp at hq
  have hK : va_K D vwCl [(cI, .int), (cJ, .array .int)] s := ⟨hKc, fun k q hq => by
    match k, hq with
    | 0, hq => cases hq; exact ⟨fun n z => ⟨fun k h => (by cases h), kI, i2, pI, i3⟩, i1⟩
    | 1, hq => cases hq; exact ⟨fun n z => ⟨fun k h => (by cases h), kJ, j2, pJ, j3⟩, j1⟩
    | k + 2, hq => simp at hq⟩
  have hA : ∀ q : Nat, s.heap.size ≤ q → (fun q : Nat => s.heap.size ≤ q) q := fun _ h => h
  generalize hAe : (fun q : Nat => s.heap.size ≤ q) = A at hA
  have hS : va_S A s.heap s.heap [] := va_S.rf
  have hP : va_P D vwCl (lW [] (cI, cJ) (fun _ => 0) fun _ _ => 0) s.heap := fun k q h => absurd h (by show ¬ (([] : va_W)[k]? = some q); simp)
  have hD : va_D A (lW [] (cI, cJ) (fun _ => 0) fun _ _ => 0) := ⟨fun i j p q h => absurd h (by show ¬ (([] : va_W)[i]? = some p); simp), fun k q h => absurd h (by show ¬ (([] : va_W)[k]? = some q); simp)⟩
  have hl := lv_entry ([.ref b]) (n := 4) (Nat.le_of_ble_eq_true rfl)
  rw [lg_entry_eq]
  generalize (lg_sl ([.ref b]) ++ List.replicate (4 - (lg_sl ([.ref b])).length) Slot.unset).toArray = ls at hl ⊢
  have hl : lv_has ls 4 [(0, .ref b)] := hl
  refine st_obj (L' := LX9) (fs2 := [.null, .null, .null, .null, .null, .null, .null, .null, .int 0]) hx hb (hml.trans hl.1.symm) hown hts hK hNs hO hA rfl uwX9 tyX9_ok (fun j hj => by rcases (show j = 0 ∨ j = 1 ∨ j = 2 ∨ j = 3 ∨ j = 4 ∨ j = 5 ∨ j = 6 ∨ j = 7 ∨ j = 8 by omega) with rfl | rfl | rfl | rfl | rfl | rfl | rfl | rfl | rfl <;> rfl) (gT_in (List.mem_of_getElem? (i := 66) (by decide +kernel)) rfl) (gT_in (List.mem_of_getElem? (i := 67) (by decide +kernel)) rfl) ok_mX9_init rfl rfl rfl (gT_in (List.mem_of_getElem? (i := 69) (by decide +kernel)) rfl) (gT_in (List.mem_of_getElem? (i := 68) (by decide +kernel)) rfl) (ct_X9 l) 0 (fun _ => g_cls) rfl rfl (fun σ2 hσ2 => by rw [hσ2]; exact gJ_0) (by decide +kernel) cX9 ⟨Nat.le_of_ble_eq_true rfl, Nat.le_of_ble_eq_true rfl⟩ (Nat.le_of_ble_eq_true rfl) (Nat.le_of_ble_eq_true rfl) dL_law_0 dL_law_3 dL_law_4 hP hD hS (fun a1 σa1 Ha1 locsa1 hΦa1 hP hD hS => ?_)
  refine lv_astore_n (lv' := [(1, .ref (a1 0)), (0, .ref b)]) hx hb dL_law_7 rfl hl (by decide) rfl (fun ls hl => ?_)
  refine st_obj (L' := L0) (fs2 := [.null, .null, .null, .null, .int 0, .null, .null, .null, .null, .null, .null, .int 0, .null, .null, .null, .null, .int 0, .int 0, .null]) hx hb (hml.trans hl.1.symm) hown hts hK hNs hO hA rfl uwX10 tyX10_ok (fun j hj => by rcases (show j = 0 ∨ j = 1 ∨ j = 2 ∨ j = 3 ∨ j = 4 ∨ j = 5 ∨ j = 6 ∨ j = 7 ∨ j = 8 ∨ j = 9 ∨ j = 10 ∨ j = 11 ∨ j = 12 ∨ j = 13 ∨ j = 14 ∨ j = 15 ∨ j = 16 ∨ j = 17 ∨ j = 18 by omega) with rfl | rfl | rfl | rfl | rfl | rfl | rfl | rfl | rfl | rfl | rfl | rfl | rfl | rfl | rfl | rfl | rfl | rfl | rfl <;> rfl) (gT_in (List.mem_of_getElem? (i := 861) (by decide +kernel)) rfl) (gT_in (List.mem_of_getElem? (i := 862) (by decide +kernel)) rfl) ok_mX10_init rfl rfl rfl (gT_in (List.mem_of_getElem? (i := 864) (by decide +kernel)) rfl) (gT_in (List.mem_of_getElem? (i := 863) (by decide +kernel)) rfl) (ct_X10 l) 104 (fun _ => g_s0) rfl rfl (fun σ2 hσ2 => by rw [hσ2]; rfl) (by decide +kernel) cX10 ⟨Nat.le_of_ble_eq_true rfl, Nat.le_of_ble_eq_true rfl⟩ (Nat.le_of_ble_eq_true rfl) (Nat.le_of_ble_eq_true rfl) dL_law_8 dL_law_11 dL_law_12 hP hD hS (fun a2 σa2 Ha2 locsa2 hΦa2 hP hD hS => ?_)
  refine lv_astore_n (lv' := [(2, .ref (a2 0)), (1, .ref (a1 0)), (0, .ref b)]) hx hb dL_law_15 rfl hl (by decide) rfl (fun ls hl => ?_)
  refine lv_iconst (v := 0) hx hb dL_law_16 (by decide) ?_
  refine lv_istore_n (lv' := [(3, .int 0), (2, .ref (a2 0)), (1, .ref (a1 0)), (0, .ref b)]) hx hb dL_law_17 rfl hl (by decide) rfl (fun ls hl => ?_)
  have hbA : ¬ A b := by
    rw [← hAe]
    exact Nat.not_le.mpr hbl
  exact st_run l hL hx hb hml hr hlocks hown hts hNs hK hA (fun q h => by rw [← hAe] at h; exact h) hX hbl hbA hP hD hS hl (Nat.le_of_ble_eq_true rfl) (Nat.le_of_ble_eq_true rfl)
