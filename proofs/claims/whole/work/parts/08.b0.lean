theorem BX1_release_0 {C : gC} {G : gG} {Q : gK} {σ : gM} {a0 : Nat} {v1 : Int32} {v2 : Int32} (h0 : isX1 G a0) : gw C G mX1_release Q 0 [.ref a0, .int v1, .int v2] [] σ = (g_inv C mX9_fill [.ref (a0 + 1), .int v1, .int v2, .int (-1)] σ fun r σ' => gw C G mX1_release Q 10 [.ref a0, .int v1, .int v2] (r.toList ++ []) σ') := by
  refine Eq.trans (e_aload_n dX1_release_0 rfl) ?_
  refine Eq.trans (e_getr (b := a0 + 1) dX1_release_1 fl_1_9 (kX1 h0) (sX1_0 h0)) ?_
  refine Eq.trans (e_iload_n dX1_release_4 rfl) ?_
  refine Eq.trans (e_iload_n dX1_release_5 rfl) ?_
  refine Eq.trans (e_iconst (x := (-1)) dX1_release_6 (by decide)) ?_
  exact e_invs dX1_release_7 cl_1_19 (by decide) (by simp) rfl rfl (by simp)
theorem BX1_release_10 {C : gC} {G : gG} {Q : gK} {σ : gM} {a0 : Nat} {v1 : Int32} {v2 : Int32} (h0 : isX1 G a0) : gw C G mX1_release Q 10 [.ref a0, .int v1, .int v2] [] σ = Q none σ := by
  exact e_ret dX1_release_10 rfl
theorem BX5_addNext_0 {C : gC} {G : gG} {Q : gK} {σ : gM} {a0 : Nat} {v1 : Int32} {v2 : Int32} (h0 : isX5 G a0) : gw C G mX5_addNext Q 0 [.ref a0, .int v1, .int v2, .long 0] [] σ = (g_inv C mX5_end [.ref a0] σ fun r σ' => gw C G mX5_addNext Q 4 [.ref a0, .int v1, .int v2, .long 0] (r.toList ++ []) σ') := by
  refine Eq.trans (e_aload_n dX5_addNext_0 rfl) ?_
  exact e_invv dX5_addNext_1 cl_5_33 (kX5 h0) (by simp) rfl rfl (by simp)
theorem BX5_addNext_4 {C : gC} {G : gG} {Q : gK} {σ : gM} {a0 : Nat} {v1 : Int32} {v2 : Int32} {wv3 : Value} {s0 : Int32} (h0 : isX5 G a0) : gw C G mX5_addNext Q 4 [.ref a0, .int v1, .int v2, wv3] [.int s0] σ = (if (σ a0 0) < 6 then (if 240 < (s0 + v1) then Q (some (.int (-1))) σ else (vp_in (σ a0 0) 6 ∧ gw C G mX5_addNext Q 35 [.ref a0, .int v1, .int v2, .int s0] [] (g_up σ (a0 + 1) (σ a0 0).toNatClampNeg s0))) else Q (some (.int (-1))) σ) := by
  refine Eq.trans (e_istore_n dX5_addNext_4 (Nat.le_of_ble_eq_true rfl)) ?_
  refine Eq.trans (e_aload_n dX5_addNext_5 rfl) ?_
  refine Eq.trans (e_geti dX5_addNext_6 fl_5_21 (kX5 h0)) ?_
  refine Eq.trans (e_bipush (x := 6) dX5_addNext_9 (by decide)) ?_
  refine Eq.trans (e_ic_ge (t := 23) dX5_addNext_11 (by decide)) (g_ite ?_ ?_)
  · refine Eq.trans (e_iload_n dX5_addNext_14 rfl) ?_
    refine Eq.trans (e_iload_n dX5_addNext_15 rfl) ?_
    refine Eq.trans (e_iadd dX5_addNext_16) ?_
    refine Eq.trans (e_sipush (x := 240) dX5_addNext_17 (by decide)) ?_
    refine Eq.trans (e_ic_le (t := 25) dX5_addNext_20 (by decide)) (g_ite ?_ ?_)
    · refine Eq.trans (e_iconst (x := (-1)) dX5_addNext_23 (by decide)) ?_
      exact e_ireti dX5_addNext_24 rfl
    · refine Eq.trans (e_aload_n dX5_addNext_25 rfl) ?_
      refine Eq.trans (e_getr (b := a0 + 1) dX5_addNext_26 fl_5_9 (kX5 h0) (sX5_1 h0)) ?_
      refine Eq.trans (e_aload_n dX5_addNext_29 rfl) ?_
      refine Eq.trans (e_geti dX5_addNext_30 fl_5_21 (kX5 h0)) ?_
      refine Eq.trans (e_iload_n dX5_addNext_33 rfl) ?_
      refine Eq.trans (e_iast dX5_addNext_34 (aX5_1 h0) (nX5_1 h0)) (g_cj ?_)
      rfl
  · refine Eq.trans (e_iconst (x := (-1)) dX5_addNext_23 (by decide)) ?_
    exact e_ireti dX5_addNext_24 rfl
theorem BX5_addNext_35 {C : gC} {G : gG} {Q : gK} {σ : gM} {a0 : Nat} {v1 : Int32} {v2 : Int32} {v3 : Int32} (h0 : isX5 G a0) : gw C G mX5_addNext Q 35 [.ref a0, .int v1, .int v2, .int v3] [] σ = (vp_in (σ a0 0) 6 ∧ gw C G mX5_addNext Q 45 [.ref a0, .int v1, .int v2, .int v3] [] (g_up σ (a0 + 2) (σ a0 0).toNatClampNeg v1)) := by
  refine Eq.trans (e_aload_n dX5_addNext_35 rfl) ?_
  refine Eq.trans (e_getr (b := a0 + 2) dX5_addNext_36 fl_5_15 (kX5 h0) (sX5_2 h0)) ?_
  refine Eq.trans (e_aload_n dX5_addNext_39 rfl) ?_
  refine Eq.trans (e_geti dX5_addNext_40 fl_5_21 (kX5 h0)) ?_
  refine Eq.trans (e_iload_n dX5_addNext_43 rfl) ?_
  refine Eq.trans (e_iast dX5_addNext_44 (aX5_2 h0) (nX5_2 h0)) (g_cj ?_)
  rfl
theorem BX5_addNext_45 {C : gC} {G : gG} {Q : gK} {σ : gM} {a0 : Nat} {v1 : Int32} {v2 : Int32} {v3 : Int32} (h0 : isX5 G a0) : gw C G mX5_addNext Q 45 [.ref a0, .int v1, .int v2, .int v3] [] σ = (vp_in (σ a0 0) 6 ∧ gw C G mX5_addNext Q 55 [.ref a0, .int v1, .int v2, .int v3] [] (g_up σ (a0 + 3) (σ a0 0).toNatClampNeg v2)) := by
  refine Eq.trans (e_aload_n dX5_addNext_45 rfl) ?_
  refine Eq.trans (e_getr (b := a0 + 3) dX5_addNext_46 fl_5_18 (kX5 h0) (sX5_3 h0)) ?_
  refine Eq.trans (e_aload_n dX5_addNext_49 rfl) ?_
  refine Eq.trans (e_geti dX5_addNext_50 fl_5_21 (kX5 h0)) ?_
  refine Eq.trans (e_iload_n dX5_addNext_53 rfl) ?_
  refine Eq.trans (e_iast dX5_addNext_54 (aX5_3 h0) (nX5_3 h0)) (g_cj ?_)
  rfl
theorem BX5_addNext_55 {C : gC} {G : gG} {Q : gK} {σ : gM} {a0 : Nat} {v1 : Int32} {v2 : Int32} {v3 : Int32} (h0 : isX5 G a0) : gw C G mX5_addNext Q 55 [.ref a0, .int v1, .int v2, .int v3] [] σ = gw C G mX5_addNext Q 65 [.ref a0, .int v1, .int v2, .int v3] [] (g_up σ a0 0 ((σ a0 0) + 1)) := by
  refine Eq.trans (e_aload_n dX5_addNext_55 rfl) ?_
  refine Eq.trans (e_dup dX5_addNext_56) ?_
  refine Eq.trans (e_geti dX5_addNext_57 fl_5_21 (kX5 h0)) ?_
  refine Eq.trans (e_iconst (x := 1) dX5_addNext_60 (by decide)) ?_
  refine Eq.trans (e_iadd dX5_addNext_61) ?_
  refine Eq.trans (e_puti dX5_addNext_62 fl_5_21 (kX5 h0)) ?_
  rfl
theorem BX5_addNext_65 {C : gC} {G : gG} {Q : gK} {σ : gM} {a0 : Nat} {v1 : Int32} {v2 : Int32} {v3 : Int32} (h0 : isX5 G a0) : gw C G mX5_addNext Q 65 [.ref a0, .int v1, .int v2, .int v3] [] σ = Q (some (.int ((σ a0 0) - 1))) σ := by
  refine Eq.trans (e_aload_n dX5_addNext_65 rfl) ?_
  refine Eq.trans (e_geti dX5_addNext_66 fl_5_21 (kX5 h0)) ?_
  refine Eq.trans (e_iconst (x := 1) dX5_addNext_69 (by decide)) ?_
  refine Eq.trans (e_isub dX5_addNext_70) ?_
  exact e_ireti dX5_addNext_71 rfl
theorem BX5_end_0 {C : gC} {G : gG} {Q : gK} {σ : gM} {a0 : Nat} (h0 : isX5 G a0) : gw C G mX5_end Q 0 [.ref a0] [] σ = (g_inv C mX5_has [.ref a0, .int ((σ a0 0) - 1)] σ fun r σ' => gw C G mX5_end Q 10 [.ref a0] (r.toList ++ []) σ') := by
  refine Eq.trans (e_aload_n dX5_end_0 rfl) ?_
  refine Eq.trans (e_aload_n dX5_end_1 rfl) ?_
  refine Eq.trans (e_geti dX5_end_2 fl_5_21 (kX5 h0)) ?_
  refine Eq.trans (e_iconst (x := 1) dX5_end_5 (by decide)) ?_
  refine Eq.trans (e_isub dX5_end_6) ?_
  exact e_invv dX5_end_7 cl_5_25 (kX5 h0) (by simp) rfl rfl (by simp)
theorem BX5_end_10 {C : gC} {G : gG} {Q : gK} {σ : gM} {a0 : Nat} {s0 : Int32} (h0 : isX5 G a0) : gw C G mX5_end Q 10 [.ref a0] [.int s0] σ = (if s0 = 0 then Q (some (.int 0)) σ else (g_inv C mX5_highOf [.ref a0, .int ((σ a0 0) - 1)] σ fun r σ' => gw C G mX5_end Q 23 [.ref a0] (r.toList ++ []) σ')) := by
  refine Eq.trans (e_if_eq (t := 26) dX5_end_10 (by decide)) (g_ite ?_ ?_)
  · refine Eq.trans (e_iconst (x := 0) dX5_end_26 (by decide)) ?_
    exact e_ireti dX5_end_27 rfl
  · refine Eq.trans (e_aload_n dX5_end_13 rfl) ?_
    refine Eq.trans (e_aload_n dX5_end_14 rfl) ?_
    refine Eq.trans (e_geti dX5_end_15 fl_5_21 (kX5 h0)) ?_
    refine Eq.trans (e_iconst (x := 1) dX5_end_18 (by decide)) ?_
    refine Eq.trans (e_isub dX5_end_19) ?_
    exact e_invv dX5_end_20 cl_5_29 (kX5 h0) (by simp) rfl rfl (by simp)
theorem BX5_end_23 {C : gC} {G : gG} {Q : gK} {σ : gM} {a0 : Nat} {s0 : Int32} (h0 : isX5 G a0) : gw C G mX5_end Q 23 [.ref a0] [.int s0] σ = Q (some (.int s0)) σ := by
  refine Eq.trans (e_goto (t := 27) dX5_end_23 (by decide)) ?_
  exact e_ireti dX5_end_27 rfl
theorem BX5_has_0 {C : gC} {G : gG} {Q : gK} {σ : gM} {a0 : Nat} {v1 : Int32} (h0 : isX5 G a0) : gw C G mX5_has Q 0 [.ref a0, .int v1] [] σ = (if v1 < 0 then Q (some (.int 0)) σ else (if v1 < (σ a0 0) then (if v1 < 6 then Q (some (.int 1)) σ else Q (some (.int 0)) σ) else Q (some (.int 0)) σ)) := by
  refine Eq.trans (e_iload_n dX5_has_0 rfl) ?_
  refine Eq.trans (e_if_lt (t := 22) dX5_has_1 (by decide)) (g_ite ?_ ?_)
  · refine Eq.trans (e_iconst (x := 0) dX5_has_22 (by decide)) ?_
    exact Eq.trans (e_iretz dX5_has_23 rfl) (g_and (by decide))
  · refine Eq.trans (e_iload_n dX5_has_4 rfl) ?_
    refine Eq.trans (e_aload_n dX5_has_5 rfl) ?_
    refine Eq.trans (e_geti dX5_has_6 fl_5_21 (kX5 h0)) ?_
    refine Eq.trans (e_ic_ge (t := 22) dX5_has_9 (by decide)) (g_ite ?_ ?_)
    · refine Eq.trans (e_iload_n dX5_has_12 rfl) ?_
      refine Eq.trans (e_bipush (x := 6) dX5_has_13 (by decide)) ?_
      refine Eq.trans (e_ic_ge (t := 22) dX5_has_15 (by decide)) (g_ite ?_ ?_)
      · refine Eq.trans (e_iconst (x := 1) dX5_has_18 (by decide)) ?_
        refine Eq.trans (e_goto (t := 23) dX5_has_19 (by decide)) ?_
        exact Eq.trans (e_iretz dX5_has_23 rfl) (g_and (by decide))
      · refine Eq.trans (e_iconst (x := 0) dX5_has_22 (by decide)) ?_
        exact Eq.trans (e_iretz dX5_has_23 rfl) (g_and (by decide))
    · refine Eq.trans (e_iconst (x := 0) dX5_has_22 (by decide)) ?_
      exact Eq.trans (e_iretz dX5_has_23 rfl) (g_and (by decide))
theorem BX5_highOf_0 {C : gC} {G : gG} {Q : gK} {σ : gM} {a0 : Nat} {v1 : Int32} (h0 : isX5 G a0) : gw C G mX5_highOf Q 0 [.ref a0, .int v1] [] σ = (vp_in v1 6 ∧ (vp_in v1 6 ∧ Q (some (.int ((σ (a0 + 1) v1.toNatClampNeg) + (σ (a0 + 2) v1.toNatClampNeg)))) σ)) := by
  refine Eq.trans (e_aload_n dX5_highOf_0 rfl) ?_
  refine Eq.trans (e_getr (b := a0 + 1) dX5_highOf_1 fl_5_9 (kX5 h0) (sX5_1 h0)) ?_
  refine Eq.trans (e_iload_n dX5_highOf_4 rfl) ?_
  refine Eq.trans (e_iald dX5_highOf_5 (aX5_1 h0) (nX5_1 h0)) (g_cj ?_)
  refine Eq.trans (e_aload_n dX5_highOf_6 rfl) ?_
  refine Eq.trans (e_getr (b := a0 + 2) dX5_highOf_7 fl_5_15 (kX5 h0) (sX5_2 h0)) ?_
  refine Eq.trans (e_iload_n dX5_highOf_10 rfl) ?_
  refine Eq.trans (e_iald dX5_highOf_11 (aX5_2 h0) (nX5_2 h0)) (g_cj ?_)
  refine Eq.trans (e_iadd dX5_highOf_12) ?_
  exact e_ireti dX5_highOf_13 rfl
theorem BX0_usedBy_0 {C : gC} {G : gG} {Q : gK} {σ : gM} {a0 : Nat} {v1 : Int32} (h0 : isX0 G a0) : gw C G mX0_usedBy Q 0 [.ref a0, .int v1, .long 0, .long 0] [] σ = gw C G mX0_usedBy Q 4 [.ref a0, .int v1, .int 0, .int 0] [] σ := by
  refine Eq.trans (e_iconst (x := 0) dX0_usedBy_0 (by decide)) ?_
  refine Eq.trans (e_istore_n dX0_usedBy_1 (Nat.le_of_ble_eq_true rfl)) ?_
  refine Eq.trans (e_iconst (x := 0) dX0_usedBy_2 (by decide)) ?_
  refine Eq.trans (e_istore_n dX0_usedBy_3 (Nat.le_of_ble_eq_true rfl)) ?_
  rfl
theorem BX0_usedBy_4 {C : gC} {G : gG} {Q : gK} {σ : gM} {a0 : Nat} {v1 : Int32} {v2 : Int32} {v3 : Int32} (h0 : isX0 G a0) : gw C G mX0_usedBy Q 4 [.ref a0, .int v1, .int v2, .int v3] [] σ = (if v3 < 30 then (vp_in v3 30 ∧ (if (σ (a0 + 2) v3.toNatClampNeg) = 0 then gw C G mX0_usedBy Q 4 [.ref a0, .int v1, .int v2, .int (v3 + 1)] [] σ else (vp_in v3 30 ∧ (if (σ (a0 + 6) v3.toNatClampNeg) = v1 then (vp_in v3 30 ∧ gw C G mX0_usedBy Q 4 [.ref a0, .int v1, .int (v2 + (σ (a0 + 4) v3.toNatClampNeg)), .int (v3 + 1)] [] σ) else gw C G mX0_usedBy Q 4 [.ref a0, .int v1, .int v2, .int (v3 + 1)] [] σ)))) else Q (some (.int v2)) σ) := by
  refine Eq.trans (e_iload_n dX0_usedBy_4 rfl) ?_
  refine Eq.trans (e_bipush (x := 30) dX0_usedBy_5 (by decide)) ?_
  refine Eq.trans (e_ic_ge (t := 44) dX0_usedBy_7 (by decide)) (g_ite ?_ ?_)
  · refine Eq.trans (e_aload_n dX0_usedBy_10 rfl) ?_
    refine Eq.trans (e_getr (b := a0 + 2) dX0_usedBy_11 fl_0_15 (kX0 h0) (sX0_1 h0)) ?_
    refine Eq.trans (e_iload_n dX0_usedBy_14 rfl) ?_
    refine Eq.trans (e_iald dX0_usedBy_15 (aX0_1 h0) (nX0_1 h0)) (g_cj ?_)
    refine Eq.trans (e_if_eq (t := 38) dX0_usedBy_16 (by decide)) (g_ite ?_ ?_)
    · refine Eq.trans (e_iinc (y := 1) dX0_usedBy_38 rfl (by decide)) ?_
      refine Eq.trans (e_goto (t := 4) dX0_usedBy_41 (by decide)) ?_
      rfl
    · refine Eq.trans (e_aload_n dX0_usedBy_19 rfl) ?_
      refine Eq.trans (e_getr (b := a0 + 6) dX0_usedBy_20 fl_0_27 (kX0 h0) (sX0_5 h0)) ?_
      refine Eq.trans (e_iload_n dX0_usedBy_23 rfl) ?_
      refine Eq.trans (e_iald dX0_usedBy_24 (aX0_5 h0) (nX0_5 h0)) (g_cj ?_)
      refine Eq.trans (e_iload_n dX0_usedBy_25 rfl) ?_
      refine Eq.trans (e_ic_ne (t := 38) dX0_usedBy_26 (by decide)) (g_ite ?_ ?_)
      · refine Eq.trans (e_iload_n dX0_usedBy_29 rfl) ?_
        refine Eq.trans (e_aload_n dX0_usedBy_30 rfl) ?_
        refine Eq.trans (e_getr (b := a0 + 4) dX0_usedBy_31 fl_0_21 (kX0 h0) (sX0_3 h0)) ?_
        refine Eq.trans (e_iload_n dX0_usedBy_34 rfl) ?_
        refine Eq.trans (e_iald dX0_usedBy_35 (aX0_3 h0) (nX0_3 h0)) (g_cj ?_)
        refine Eq.trans (e_iadd dX0_usedBy_36) ?_
        refine Eq.trans (e_istore_n dX0_usedBy_37 (Nat.le_of_ble_eq_true rfl)) ?_
        refine Eq.trans (e_iinc (y := 1) dX0_usedBy_38 rfl (by decide)) ?_
        refine Eq.trans (e_goto (t := 4) dX0_usedBy_41 (by decide)) ?_
        rfl
      · refine Eq.trans (e_iinc (y := 1) dX0_usedBy_38 rfl (by decide)) ?_
        refine Eq.trans (e_goto (t := 4) dX0_usedBy_41 (by decide)) ?_
        rfl
  · refine Eq.trans (e_iload_n dX0_usedBy_44 rfl) ?_
    exact e_ireti dX0_usedBy_45 rfl
theorem BX0_leastUnusedSlot_0 {C : gC} {G : gG} {Q : gK} {σ : gM} {a0 : Nat} (h0 : isX0 G a0) : gw C G mX0_leastUnusedSlot Q 0 [.ref a0, .long 0] [] σ = gw C G mX0_leastUnusedSlot Q 2 [.ref a0, .int 0] [] σ := by
  refine Eq.trans (e_iconst (x := 0) dX0_leastUnusedSlot_0 (by decide)) ?_
  refine Eq.trans (e_istore_n dX0_leastUnusedSlot_1 (Nat.le_of_ble_eq_true rfl)) ?_
  rfl
theorem BX0_leastUnusedSlot_2 {C : gC} {G : gG} {Q : gK} {σ : gM} {a0 : Nat} {v1 : Int32} (h0 : isX0 G a0) : gw C G mX0_leastUnusedSlot Q 2 [.ref a0, .int v1] [] σ = (if v1 < 30 then (vp_in v1 30 ∧ (if (σ (a0 + 2) v1.toNatClampNeg) = 0 then Q (some (.int v1)) σ else gw C G mX0_leastUnusedSlot Q 2 [.ref a0, .int (v1 + 1)] [] σ)) else Q (some (.int (-1))) σ) := by
  refine Eq.trans (e_iload_n dX0_leastUnusedSlot_2 rfl) ?_
  refine Eq.trans (e_bipush (x := 30) dX0_leastUnusedSlot_3 (by decide)) ?_
  refine Eq.trans (e_ic_ge (t := 25) dX0_leastUnusedSlot_5 (by decide)) (g_ite ?_ ?_)
  · refine Eq.trans (e_aload_n dX0_leastUnusedSlot_8 rfl) ?_
    refine Eq.trans (e_getr (b := a0 + 2) dX0_leastUnusedSlot_9 fl_0_15 (kX0 h0) (sX0_1 h0)) ?_
    refine Eq.trans (e_iload_n dX0_leastUnusedSlot_12 rfl) ?_
    refine Eq.trans (e_iald dX0_leastUnusedSlot_13 (aX0_1 h0) (nX0_1 h0)) (g_cj ?_)
    refine Eq.trans (e_if_ne (t := 19) dX0_leastUnusedSlot_14 (by decide)) (g_ite ?_ ?_)
    · refine Eq.trans (e_iload_n dX0_leastUnusedSlot_17 rfl) ?_
      exact e_ireti dX0_leastUnusedSlot_18 rfl
    · refine Eq.trans (e_iinc (y := 1) dX0_leastUnusedSlot_19 rfl (by decide)) ?_
      refine Eq.trans (e_goto (t := 2) dX0_leastUnusedSlot_22 (by decide)) ?_
      rfl
  · refine Eq.trans (e_iconst (x := (-1)) dX0_leastUnusedSlot_25 (by decide)) ?_
    exact e_ireti dX0_leastUnusedSlot_26 rfl
theorem BX1_placeIn_0 {C : gC} {G : gG} {Q : gK} {σ : gM} {a0 : Nat} {a1 : Nat} {v2 : Int32} {v3 : Int32} (h0 : isX1 G a0) (h1 : isX5 G a1) : gw C G mX1_placeIn Q 0 [.ref a0, .ref a1, .int v2, .int v3, .long 0, .long 0] [] σ = (vp_in v2 6 ∧ (g_inv C mX5_highOf [.ref a1, .int v2] σ fun r σ' => gw C G mX1_placeIn Q 13 [.ref a0, .ref a1, .int v2, .int v3, .int (σ (a1 + 1) v2.toNatClampNeg), .long 0] (r.toList ++ []) σ')) := by
  refine Eq.trans (e_aload_n dX1_placeIn_0 rfl) ?_
  refine Eq.trans (e_getr (b := a1 + 1) dX1_placeIn_1 fl_1_23 (kX5 h1) (sX5_1 h1)) ?_
  refine Eq.trans (e_iload_n dX1_placeIn_4 rfl) ?_
  refine Eq.trans (e_iald dX1_placeIn_5 (aX5_1 h1) (nX5_1 h1)) (g_cj ?_)
  refine Eq.trans (e_istore dX1_placeIn_6 (Nat.le_of_ble_eq_true rfl)) ?_
  refine Eq.trans (e_aload_n dX1_placeIn_8 rfl) ?_
  refine Eq.trans (e_iload_n dX1_placeIn_9 rfl) ?_
  exact e_invv dX1_placeIn_10 cl_1_28 (kX5 h1) (by simp) rfl rfl (by simp)
theorem BX1_placeIn_13 {C : gC} {G : gG} {Q : gK} {σ : gM} {a0 : Nat} {a1 : Nat} {v2 : Int32} {v3 : Int32} {v4 : Int32} {wv5 : Value} {s0 : Int32} (h0 : isX1 G a0) (h1 : isX5 G a1) : gw C G mX1_placeIn Q 13 [.ref a0, .ref a1, .int v2, .int v3, .int v4, wv5] [.int s0] σ = (vp_in v2 6 ∧ (if (σ (a1 + 3) v2.toNatClampNeg) = 0 then (g_inv C mX1_placeFromBelow [.ref a0, .int v4, .int s0, .int v3] σ fun r σ' => gw C G mX1_placeIn Q 33 [.ref a0, .ref a1, .int v2, .int v3, .int v4, .int s0] (r.toList ++ []) σ') else (g_inv C mX1_placeFromAbove [.ref a0, .int v4, .int s0, .int v3] σ fun r σ' => gw C G mX1_placeIn Q 43 [.ref a0, .ref a1, .int v2, .int v3, .int v4, .int s0] (r.toList ++ []) σ'))) := by
  refine Eq.trans (e_istore dX1_placeIn_13 (Nat.le_of_ble_eq_true rfl)) ?_
  refine Eq.trans (e_aload_n dX1_placeIn_15 rfl) ?_
  refine Eq.trans (e_getr (b := a1 + 3) dX1_placeIn_16 fl_1_32 (kX5 h1) (sX5_3 h1)) ?_
  refine Eq.trans (e_iload_n dX1_placeIn_19 rfl) ?_
  refine Eq.trans (e_iald dX1_placeIn_20 (aX5_3 h1) (nX5_3 h1)) (g_cj ?_)
  refine Eq.trans (e_if_ne (t := 34) dX1_placeIn_21 (by decide)) (g_ite ?_ ?_)
  · refine Eq.trans (e_aload_n dX1_placeIn_24 rfl) ?_
    refine Eq.trans (e_iload dX1_placeIn_25 rfl) ?_
    refine Eq.trans (e_iload dX1_placeIn_27 rfl) ?_
    refine Eq.trans (e_iload_n dX1_placeIn_29 rfl) ?_
    exact e_invv dX1_placeIn_30 cl_1_35 (kX1 h0) (by simp) rfl rfl (by simp)
  · refine Eq.trans (e_aload_n dX1_placeIn_34 rfl) ?_
    refine Eq.trans (e_iload dX1_placeIn_35 rfl) ?_
    refine Eq.trans (e_iload dX1_placeIn_37 rfl) ?_
    refine Eq.trans (e_iload_n dX1_placeIn_39 rfl) ?_
    exact e_invv dX1_placeIn_40 cl_1_39 (kX1 h0) (by simp) rfl rfl (by simp)
theorem BX1_placeIn_33 {C : gC} {G : gG} {Q : gK} {σ : gM} {a0 : Nat} {a1 : Nat} {v2 : Int32} {v3 : Int32} {v4 : Int32} {v5 : Int32} {s0 : Int32} (h0 : isX1 G a0) (h1 : isX5 G a1) : gw C G mX1_placeIn Q 33 [.ref a0, .ref a1, .int v2, .int v3, .int v4, .int v5] [.int s0] σ = Q (some (.int s0)) σ := by
  exact e_ireti dX1_placeIn_33 rfl
theorem BX1_placeIn_43 {C : gC} {G : gG} {Q : gK} {σ : gM} {a0 : Nat} {a1 : Nat} {v2 : Int32} {v3 : Int32} {v4 : Int32} {v5 : Int32} {s0 : Int32} (h0 : isX1 G a0) (h1 : isX5 G a1) : gw C G mX1_placeIn Q 43 [.ref a0, .ref a1, .int v2, .int v3, .int v4, .int v5] [.int s0] σ = Q (some (.int s0)) σ := by
  exact e_ireti dX1_placeIn_43 rfl
theorem BX1_placeFromBelow_0 {C : gC} {G : gG} {Q : gK} {σ : gM} {a0 : Nat} {v1 : Int32} {v2 : Int32} {v3 : Int32} (h0 : isX1 G a0) : gw C G mX1_placeFromBelow Q 0 [.ref a0, .int v1, .int v2, .int v3, .long 0, .long 0] [] σ = gw C G mX1_placeFromBelow Q 6 [.ref a0, .int v1, .int v2, .int v3, .int 0, .int v1] [] σ := by
  refine Eq.trans (e_iconst (x := 0) dX1_placeFromBelow_0 (by decide)) ?_
  refine Eq.trans (e_istore dX1_placeFromBelow_1 (Nat.le_of_ble_eq_true rfl)) ?_
  refine Eq.trans (e_iload_n dX1_placeFromBelow_3 rfl) ?_
  refine Eq.trans (e_istore dX1_placeFromBelow_4 (Nat.le_of_ble_eq_true rfl)) ?_
  rfl
theorem BX1_placeFromBelow_6 {C : gC} {G : gG} {Q : gK} {σ : gM} {a0 : Nat} {v1 : Int32} {v2 : Int32} {v3 : Int32} {v4 : Int32} {v5 : Int32} (h0 : isX1 G a0) : gw C G mX1_placeFromBelow Q 6 [.ref a0, .int v1, .int v2, .int v3, .int v4, .int v5] [] σ = (if v5 < v2 then (vp_in v5 240 ∧ (if (σ (a0 + 1) v5.toNatClampNeg) = (-1) then gw C G mX1_placeFromBelow Q 31 [.ref a0, .int v1, .int v2, .int v3, .int v4, .int v5] [.int (v4 + 1)] σ else gw C G mX1_placeFromBelow Q 31 [.ref a0, .int v1, .int v2, .int v3, .int v4, .int v5] [.int 0] σ)) else Q (some (.int (-1))) σ) := by
  refine Eq.trans (e_iload dX1_placeFromBelow_6 rfl) ?_
  refine Eq.trans (e_iload_n dX1_placeFromBelow_8 rfl) ?_
  refine Eq.trans (e_ic_ge (t := 52) dX1_placeFromBelow_9 (by decide)) (g_ite ?_ ?_)
  · refine Eq.trans (e_aload_n dX1_placeFromBelow_12 rfl) ?_
    refine Eq.trans (e_getr (b := a0 + 1) dX1_placeFromBelow_13 fl_1_9 (kX1 h0) (sX1_0 h0)) ?_
    refine Eq.trans (e_iload dX1_placeFromBelow_16 rfl) ?_
    refine Eq.trans (e_iald dX1_placeFromBelow_18 (aX1_0 h0) (nX1_0 h0)) (g_cj ?_)
    refine Eq.trans (e_iconst (x := (-1)) dX1_placeFromBelow_19 (by decide)) ?_
    refine Eq.trans (e_ic_ne (t := 30) dX1_placeFromBelow_20 (by decide)) (g_ite ?_ ?_)
    · refine Eq.trans (e_iload dX1_placeFromBelow_23 rfl) ?_
      refine Eq.trans (e_iconst (x := 1) dX1_placeFromBelow_25 (by decide)) ?_
      refine Eq.trans (e_iadd dX1_placeFromBelow_26) ?_
      refine Eq.trans (e_goto (t := 31) dX1_placeFromBelow_27 (by decide)) ?_
      rfl
    · refine Eq.trans (e_iconst (x := 0) dX1_placeFromBelow_30 (by decide)) ?_
      rfl
  · refine Eq.trans (e_iconst (x := (-1)) dX1_placeFromBelow_52 (by decide)) ?_
    exact e_ireti dX1_placeFromBelow_53 rfl
theorem BX1_placeFromBelow_31 {C : gC} {G : gG} {Q : gK} {σ : gM} {a0 : Nat} {v1 : Int32} {v2 : Int32} {v3 : Int32} {v4 : Int32} {v5 : Int32} {s0 : Int32} (h0 : isX1 G a0) : gw C G mX1_placeFromBelow Q 31 [.ref a0, .int v1, .int v2, .int v3, .int v4, .int v5] [.int s0] σ = (if s0 = v3 then Q (some (.int ((v5 - v3) + 1))) σ else gw C G mX1_placeFromBelow Q 6 [.ref a0, .int v1, .int v2, .int v3, .int s0, .int (v5 + 1)] [] σ) := by
  refine Eq.trans (e_istore dX1_placeFromBelow_31 (Nat.le_of_ble_eq_true rfl)) ?_
  refine Eq.trans (e_iload dX1_placeFromBelow_33 rfl) ?_
  refine Eq.trans (e_iload_n dX1_placeFromBelow_35 rfl) ?_
  refine Eq.trans (e_ic_ne (t := 46) dX1_placeFromBelow_36 (by decide)) (g_ite ?_ ?_)
  · refine Eq.trans (e_iload dX1_placeFromBelow_39 rfl) ?_
    refine Eq.trans (e_iload_n dX1_placeFromBelow_41 rfl) ?_
    refine Eq.trans (e_isub dX1_placeFromBelow_42) ?_
    refine Eq.trans (e_iconst (x := 1) dX1_placeFromBelow_43 (by decide)) ?_
    refine Eq.trans (e_iadd dX1_placeFromBelow_44) ?_
    exact e_ireti dX1_placeFromBelow_45 rfl
  · refine Eq.trans (e_iinc (y := 1) dX1_placeFromBelow_46 rfl (by decide)) ?_
    refine Eq.trans (e_goto (t := 6) dX1_placeFromBelow_49 (by decide)) ?_
    rfl
theorem BX1_placeFromAbove_0 {C : gC} {G : gG} {Q : gK} {σ : gM} {a0 : Nat} {v1 : Int32} {v2 : Int32} {v3 : Int32} (h0 : isX1 G a0) : gw C G mX1_placeFromAbove Q 0 [.ref a0, .int v1, .int v2, .int v3, .long 0, .long 0] [] σ = gw C G mX1_placeFromAbove Q 8 [.ref a0, .int v1, .int v2, .int v3, .int 0, .int (v2 - 1)] [] σ := by
  refine Eq.trans (e_iconst (x := 0) dX1_placeFromAbove_0 (by decide)) ?_
  refine Eq.trans (e_istore dX1_placeFromAbove_1 (Nat.le_of_ble_eq_true rfl)) ?_
  refine Eq.trans (e_iload_n dX1_placeFromAbove_3 rfl) ?_
  refine Eq.trans (e_iconst (x := 1) dX1_placeFromAbove_4 (by decide)) ?_
  refine Eq.trans (e_isub dX1_placeFromAbove_5) ?_
  refine Eq.trans (e_istore dX1_placeFromAbove_6 (Nat.le_of_ble_eq_true rfl)) ?_
  rfl
theorem BX1_placeFromAbove_8 {C : gC} {G : gG} {Q : gK} {σ : gM} {a0 : Nat} {v1 : Int32} {v2 : Int32} {v3 : Int32} {v4 : Int32} {v5 : Int32} (h0 : isX1 G a0) : gw C G mX1_placeFromAbove Q 8 [.ref a0, .int v1, .int v2, .int v3, .int v4, .int v5] [] σ = (if v5 < v1 then Q (some (.int (-1))) σ else (vp_in v5 240 ∧ (if (σ (a0 + 1) v5.toNatClampNeg) = (-1) then gw C G mX1_placeFromAbove Q 33 [.ref a0, .int v1, .int v2, .int v3, .int v4, .int v5] [.int (v4 + 1)] σ else gw C G mX1_placeFromAbove Q 33 [.ref a0, .int v1, .int v2, .int v3, .int v4, .int v5] [.int 0] σ))) := by
  refine Eq.trans (e_iload dX1_placeFromAbove_8 rfl) ?_
  refine Eq.trans (e_iload_n dX1_placeFromAbove_10 rfl) ?_
  refine Eq.trans (e_ic_lt (t := 50) dX1_placeFromAbove_11 (by decide)) (g_ite ?_ ?_)
  · refine Eq.trans (e_iconst (x := (-1)) dX1_placeFromAbove_50 (by decide)) ?_
    exact e_ireti dX1_placeFromAbove_51 rfl
  · refine Eq.trans (e_aload_n dX1_placeFromAbove_14 rfl) ?_
    refine Eq.trans (e_getr (b := a0 + 1) dX1_placeFromAbove_15 fl_1_9 (kX1 h0) (sX1_0 h0)) ?_
    refine Eq.trans (e_iload dX1_placeFromAbove_18 rfl) ?_
    refine Eq.trans (e_iald dX1_placeFromAbove_20 (aX1_0 h0) (nX1_0 h0)) (g_cj ?_)
    refine Eq.trans (e_iconst (x := (-1)) dX1_placeFromAbove_21 (by decide)) ?_
    refine Eq.trans (e_ic_ne (t := 32) dX1_placeFromAbove_22 (by decide)) (g_ite ?_ ?_)
    · refine Eq.trans (e_iload dX1_placeFromAbove_25 rfl) ?_
      refine Eq.trans (e_iconst (x := 1) dX1_placeFromAbove_27 (by decide)) ?_
      refine Eq.trans (e_iadd dX1_placeFromAbove_28) ?_
      refine Eq.trans (e_goto (t := 33) dX1_placeFromAbove_29 (by decide)) ?_
      rfl
    · refine Eq.trans (e_iconst (x := 0) dX1_placeFromAbove_32 (by decide)) ?_
      rfl
theorem BX1_placeFromAbove_33 {C : gC} {G : gG} {Q : gK} {σ : gM} {a0 : Nat} {v1 : Int32} {v2 : Int32} {v3 : Int32} {v4 : Int32} {v5 : Int32} {s0 : Int32} (h0 : isX1 G a0) : gw C G mX1_placeFromAbove Q 33 [.ref a0, .int v1, .int v2, .int v3, .int v4, .int v5] [.int s0] σ = (if s0 = v3 then Q (some (.int v5)) σ else gw C G mX1_placeFromAbove Q 8 [.ref a0, .int v1, .int v2, .int v3, .int s0, .int (v5 + (-1))] [] σ) := by
  refine Eq.trans (e_istore dX1_placeFromAbove_33 (Nat.le_of_ble_eq_true rfl)) ?_
  refine Eq.trans (e_iload dX1_placeFromAbove_35 rfl) ?_
  refine Eq.trans (e_iload_n dX1_placeFromAbove_37 rfl) ?_
  refine Eq.trans (e_ic_ne (t := 44) dX1_placeFromAbove_38 (by decide)) (g_ite ?_ ?_)
  · refine Eq.trans (e_iload dX1_placeFromAbove_41 rfl) ?_
    exact e_ireti dX1_placeFromAbove_43 rfl
  · refine Eq.trans (e_iinc (y := (-1)) dX1_placeFromAbove_44 rfl (by decide)) ?_
    refine Eq.trans (e_goto (t := 8) dX1_placeFromAbove_47 (by decide)) ?_
    rfl
theorem BX1_take_0 {C : gC} {G : gG} {Q : gK} {σ : gM} {a0 : Nat} {v1 : Int32} {v2 : Int32} {v3 : Int32} (h0 : isX1 G a0) : gw C G mX1_take Q 0 [.ref a0, .int v1, .int v2, .int v3] [] σ = (g_inv C mX9_fill [.ref (a0 + 1), .int v1, .int v2, .int v3] σ fun r σ' => gw C G mX1_take Q 10 [.ref a0, .int v1, .int v2, .int v3] (r.toList ++ []) σ') := by
  refine Eq.trans (e_aload_n dX1_take_0 rfl) ?_
  refine Eq.trans (e_getr (b := a0 + 1) dX1_take_1 fl_1_9 (kX1 h0) (sX1_0 h0)) ?_
  refine Eq.trans (e_iload_n dX1_take_4 rfl) ?_
  refine Eq.trans (e_iload_n dX1_take_5 rfl) ?_
  refine Eq.trans (e_iload_n dX1_take_6 rfl) ?_
  exact e_invs dX1_take_7 cl_1_19 (by decide) (by simp) rfl rfl (by simp)
theorem BX1_take_10 {C : gC} {G : gG} {Q : gK} {σ : gM} {a0 : Nat} {v1 : Int32} {v2 : Int32} {v3 : Int32} (h0 : isX1 G a0) : gw C G mX1_take Q 10 [.ref a0, .int v1, .int v2, .int v3] [] σ = Q none σ := by
  exact e_ret dX1_take_10 rfl
theorem BX0_handleOf_0 {C : gC} {G : gG} {Q : gK} {σ : gM} {a0 : Nat} {v1 : Int32} (h0 : isX0 G a0) : gw C G mX0_handleOf Q 0 [.ref a0, .int v1] [] σ = (vp_in v1 30 ∧ Q (some (.int ((100 * (σ (a0 + 1) v1.toNatClampNeg)) + v1))) σ) := by
  refine Eq.trans (e_bipush (x := 100) dX0_handleOf_0 (by decide)) ?_
  refine Eq.trans (e_aload_n dX0_handleOf_2 rfl) ?_
  refine Eq.trans (e_getr (b := a0 + 1) dX0_handleOf_3 fl_0_9 (kX0 h0) (sX0_0 h0)) ?_
  refine Eq.trans (e_iload_n dX0_handleOf_6 rfl) ?_
  refine Eq.trans (e_iald dX0_handleOf_7 (aX0_0 h0) (nX0_0 h0)) (g_cj ?_)
  refine Eq.trans (e_imul dX0_handleOf_8) ?_
  refine Eq.trans (e_iload_n dX0_handleOf_9 rfl) ?_
  refine Eq.trans (e_iadd dX0_handleOf_10) ?_
  exact e_ireti dX0_handleOf_11 rfl
theorem BX0_liveSlotOf_0 {C : gC} {G : gG} {Q : gK} {σ : gM} {a0 : Nat} {v1 : Int32} (h0 : isX0 G a0) : gw C G mX0_liveSlotOf Q 0 [.ref a0, .int v1, .long 0] [] σ = (g_inv C mX0_slotOf [.ref a0, .int v1] σ fun r σ' => gw C G mX0_liveSlotOf Q 5 [.ref a0, .int v1, .long 0] (r.toList ++ []) σ') := by
  refine Eq.trans (e_aload_n dX0_liveSlotOf_0 rfl) ?_
  refine Eq.trans (e_iload_n dX0_liveSlotOf_1 rfl) ?_
  exact e_invv dX0_liveSlotOf_2 cl_0_43 (kX0 h0) (by simp) rfl rfl (by simp)
theorem BX0_liveSlotOf_5 {C : gC} {G : gG} {Q : gK} {σ : gM} {a0 : Nat} {v1 : Int32} {wv2 : Value} {s0 : Int32} (h0 : isX0 G a0) : gw C G mX0_liveSlotOf Q 5 [.ref a0, .int v1, wv2] [.int s0] σ = (if s0 = (-1) then Q (some (.int (-1))) σ else (vp_in s0 30 ∧ (if (σ (a0 + 2) s0.toNatClampNeg) = 1 then Q (some (.int s0)) σ else Q (some (.int (-1))) σ))) := by
  refine Eq.trans (e_istore_n dX0_liveSlotOf_5 (Nat.le_of_ble_eq_true rfl)) ?_
  refine Eq.trans (e_iload_n dX0_liveSlotOf_6 rfl) ?_
  refine Eq.trans (e_iconst (x := (-1)) dX0_liveSlotOf_7 (by decide)) ?_
  refine Eq.trans (e_ic_ne (t := 13) dX0_liveSlotOf_8 (by decide)) (g_ite ?_ ?_)
  · refine Eq.trans (e_iconst (x := (-1)) dX0_liveSlotOf_11 (by decide)) ?_
    exact e_ireti dX0_liveSlotOf_12 rfl
  · refine Eq.trans (e_aload_n dX0_liveSlotOf_13 rfl) ?_
    refine Eq.trans (e_getr (b := a0 + 2) dX0_liveSlotOf_14 fl_0_15 (kX0 h0) (sX0_1 h0)) ?_
    refine Eq.trans (e_iload_n dX0_liveSlotOf_17 rfl) ?_
    refine Eq.trans (e_iald dX0_liveSlotOf_18 (aX0_1 h0) (nX0_1 h0)) (g_cj ?_)
    refine Eq.trans (e_iconst (x := 1) dX0_liveSlotOf_19 (by decide)) ?_
    refine Eq.trans (e_ic_ne (t := 27) dX0_liveSlotOf_20 (by decide)) (g_ite ?_ ?_)
    · refine Eq.trans (e_iload_n dX0_liveSlotOf_23 rfl) ?_
      refine Eq.trans (e_goto (t := 28) dX0_liveSlotOf_24 (by decide)) ?_
      exact e_ireti dX0_liveSlotOf_28 rfl
    · refine Eq.trans (e_iconst (x := (-1)) dX0_liveSlotOf_27 (by decide)) ?_
      exact e_ireti dX0_liveSlotOf_28 rfl
theorem BX0_slotOf_0 {C : gC} {G : gG} {Q : gK} {σ : gM} {a0 : Nat} {v1 : Int32} (h0 : isX0 G a0) : gw C G mX0_slotOf Q 0 [.ref a0, .int v1, .long 0] [] σ = (if v1 < 0 then Q (some (.int (-1))) σ else (if (v1 - v1 / 100 * 100) < 30 then (vp_in (v1 - v1 / 100 * 100) 30 ∧ (if (σ (a0 + 2) (v1 - v1 / 100 * 100).toNatClampNeg) = 0 then Q (some (.int (-1))) σ else (vp_in (v1 - v1 / 100 * 100) 30 ∧ (if (σ (a0 + 1) (v1 - v1 / 100 * 100).toNatClampNeg) = (v1 / 100) then Q (some (.int (v1 - v1 / 100 * 100))) σ else Q (some (.int (-1))) σ)))) else Q (some (.int (-1))) σ)) := by
  refine Eq.trans (e_iload_n dX0_slotOf_0 rfl) ?_
  refine Eq.trans (e_if_ge (t := 6) dX0_slotOf_1 (by decide)) (g_ite ?_ ?_)
  · refine Eq.trans (e_iconst (x := (-1)) dX0_slotOf_4 (by decide)) ?_
    exact e_ireti dX0_slotOf_5 rfl
  · refine Eq.trans (e_iload_n dX0_slotOf_6 rfl) ?_
    refine Eq.trans (e_bipush (x := 100) dX0_slotOf_7 (by decide)) ?_
    refine Eq.trans (e_irem dX0_slotOf_9 (by decide)) ?_
    refine Eq.trans (e_istore_n dX0_slotOf_10 (Nat.le_of_ble_eq_true rfl)) ?_
    refine Eq.trans (e_iload_n dX0_slotOf_11 rfl) ?_
    refine Eq.trans (e_bipush (x := 30) dX0_slotOf_12 (by decide)) ?_
    refine Eq.trans (e_ic_ge (t := 26) dX0_slotOf_14 (by decide)) (g_ite ?_ ?_)
    · refine Eq.trans (e_aload_n dX0_slotOf_17 rfl) ?_
      refine Eq.trans (e_getr (b := a0 + 2) dX0_slotOf_18 fl_0_15 (kX0 h0) (sX0_1 h0)) ?_
      refine Eq.trans (e_iload_n dX0_slotOf_21 rfl) ?_
      refine Eq.trans (e_iald dX0_slotOf_22 (aX0_1 h0) (nX0_1 h0)) (g_cj ?_)
      refine Eq.trans (e_if_ne (t := 28) dX0_slotOf_23 (by decide)) (g_ite ?_ ?_)
      · refine Eq.trans (e_iconst (x := (-1)) dX0_slotOf_26 (by decide)) ?_
        exact e_ireti dX0_slotOf_27 rfl
      · refine Eq.trans (e_aload_n dX0_slotOf_28 rfl) ?_
        refine Eq.trans (e_getr (b := a0 + 1) dX0_slotOf_29 fl_0_9 (kX0 h0) (sX0_0 h0)) ?_
        refine Eq.trans (e_iload_n dX0_slotOf_32 rfl) ?_
        refine Eq.trans (e_iald dX0_slotOf_33 (aX0_0 h0) (nX0_0 h0)) (g_cj ?_)
        refine Eq.trans (e_iload_n dX0_slotOf_34 rfl) ?_
        refine Eq.trans (e_bipush (x := 100) dX0_slotOf_35 (by decide)) ?_
        refine Eq.trans (e_idiv dX0_slotOf_37 (by decide)) ?_
        refine Eq.trans (e_ic_ne (t := 45) dX0_slotOf_38 (by decide)) (g_ite ?_ ?_)
        · refine Eq.trans (e_iload_n dX0_slotOf_41 rfl) ?_
          refine Eq.trans (e_goto (t := 46) dX0_slotOf_42 (by decide)) ?_
          exact e_ireti dX0_slotOf_46 rfl
        · refine Eq.trans (e_iconst (x := (-1)) dX0_slotOf_45 (by decide)) ?_
          exact e_ireti dX0_slotOf_46 rfl
    · refine Eq.trans (e_iconst (x := (-1)) dX0_slotOf_26 (by decide)) ?_
      exact e_ireti dX0_slotOf_27 rfl
theorem BX6_drop_0 {C : gC} {G : gG} {Q : gK} {σ : gM} {a0 : Nat} {v1 : Int32} (h0 : isX6 G a0) : gw C G mX6_drop Q 0 [.ref a0, .int v1, .long 0, .long 0] [] σ = gw C G mX6_drop Q 4 [.ref a0, .int v1, .int 0, .int 0] [] σ := by
  refine Eq.trans (e_iconst (x := 0) dX6_drop_0 (by decide)) ?_
  refine Eq.trans (e_istore_n dX6_drop_1 (Nat.le_of_ble_eq_true rfl)) ?_
  refine Eq.trans (e_iconst (x := 0) dX6_drop_2 (by decide)) ?_
  refine Eq.trans (e_istore_n dX6_drop_3 (Nat.le_of_ble_eq_true rfl)) ?_
  rfl
theorem BX6_drop_4 {C : gC} {G : gG} {Q : gK} {σ : gM} {a0 : Nat} {v1 : Int32} {v2 : Int32} {v3 : Int32} (h0 : isX6 G a0) : gw C G mX6_drop Q 4 [.ref a0, .int v1, .int v2, .int v3] [] σ = (if v3 < (σ a0 0) then (if v3 < 30 then (vp_in v3 30 ∧ (if (σ (a0 + 1) v3.toNatClampNeg) = v1 then gw C G mX6_drop Q 4 [.ref a0, .int v1, .int v2, .int (v3 + 1)] [] σ else (vp_in v3 30 ∧ (vp_in v2 30 ∧ gw C G mX6_drop Q 4 [.ref a0, .int v1, .int (v2 + 1), .int (v3 + 1)] [] (g_up σ (a0 + 1) v2.toNatClampNeg (σ (a0 + 1) v3.toNatClampNeg)))))) else Q none (g_up σ a0 0 v2)) else Q none (g_up σ a0 0 v2)) := by
  refine Eq.trans (e_iload_n dX6_drop_4 rfl) ?_
  refine Eq.trans (e_aload_n dX6_drop_5 rfl) ?_
  refine Eq.trans (e_geti dX6_drop_6 fl_6_15 (kX6 h0)) ?_
  refine Eq.trans (e_ic_ge (t := 52) dX6_drop_9 (by decide)) (g_ite ?_ ?_)
  · refine Eq.trans (e_iload_n dX6_drop_12 rfl) ?_
    refine Eq.trans (e_bipush (x := 30) dX6_drop_13 (by decide)) ?_
    refine Eq.trans (e_ic_ge (t := 52) dX6_drop_15 (by decide)) (g_ite ?_ ?_)
    · refine Eq.trans (e_aload_n dX6_drop_18 rfl) ?_
      refine Eq.trans (e_getr (b := a0 + 1) dX6_drop_19 fl_6_9 (kX6 h0) (sX6_1 h0)) ?_
      refine Eq.trans (e_iload_n dX6_drop_22 rfl) ?_
      refine Eq.trans (e_iald dX6_drop_23 (aX6_1 h0) (nX6_1 h0)) (g_cj ?_)
      refine Eq.trans (e_iload_n dX6_drop_24 rfl) ?_
      refine Eq.trans (e_ic_ne (t := 31) dX6_drop_25 (by decide)) (g_ite ?_ ?_)
      · refine Eq.trans (e_goto (t := 46) dX6_drop_28 (by decide)) ?_
        refine Eq.trans (e_iinc (y := 1) dX6_drop_46 rfl (by decide)) ?_
        refine Eq.trans (e_goto (t := 4) dX6_drop_49 (by decide)) ?_
        rfl
      · refine Eq.trans (e_aload_n dX6_drop_31 rfl) ?_
        refine Eq.trans (e_getr (b := a0 + 1) dX6_drop_32 fl_6_9 (kX6 h0) (sX6_1 h0)) ?_
        refine Eq.trans (e_iload_n dX6_drop_35 rfl) ?_
        refine Eq.trans (e_aload_n dX6_drop_36 rfl) ?_
        refine Eq.trans (e_getr (b := a0 + 1) dX6_drop_37 fl_6_9 (kX6 h0) (sX6_1 h0)) ?_
        refine Eq.trans (e_iload_n dX6_drop_40 rfl) ?_
        refine Eq.trans (e_iald dX6_drop_41 (aX6_1 h0) (nX6_1 h0)) (g_cj ?_)
        refine Eq.trans (e_iast dX6_drop_42 (aX6_1 h0) (nX6_1 h0)) (g_cj ?_)
        refine Eq.trans (e_iinc (y := 1) dX6_drop_43 rfl (by decide)) ?_
        refine Eq.trans (e_iinc (y := 1) dX6_drop_46 rfl (by decide)) ?_
        refine Eq.trans (e_goto (t := 4) dX6_drop_49 (by decide)) ?_
        rfl
    · refine Eq.trans (e_aload_n dX6_drop_52 rfl) ?_
      refine Eq.trans (e_iload_n dX6_drop_53 rfl) ?_
      refine Eq.trans (e_puti dX6_drop_54 fl_6_15 (kX6 h0)) ?_
      exact e_ret dX6_drop_57 rfl
  · refine Eq.trans (e_aload_n dX6_drop_52 rfl) ?_
    refine Eq.trans (e_iload_n dX6_drop_53 rfl) ?_
    refine Eq.trans (e_puti dX6_drop_54 fl_6_15 (kX6 h0)) ?_
    exact e_ret dX6_drop_57 rfl
theorem BX1_isFree_0 {C : gC} {G : gG} {Q : gK} {σ : gM} {a0 : Nat} {v1 : Int32} {v2 : Int32} (h0 : isX1 G a0) : gw C G mX1_isFree Q 0 [.ref a0, .int v1, .int v2, .long 0] [] σ = gw C G mX1_isFree Q 2 [.ref a0, .int v1, .int v2, .int v1] [] σ := by
  refine Eq.trans (e_iload_n dX1_isFree_0 rfl) ?_
  refine Eq.trans (e_istore_n dX1_isFree_1 (Nat.le_of_ble_eq_true rfl)) ?_
  rfl
theorem BX1_isFree_2 {C : gC} {G : gG} {Q : gK} {σ : gM} {a0 : Nat} {v1 : Int32} {v2 : Int32} {v3 : Int32} (h0 : isX1 G a0) : gw C G mX1_isFree Q 2 [.ref a0, .int v1, .int v2, .int v3] [] σ = (if v3 < (v1 + v2) then (vp_in v3 240 ∧ (if (σ (a0 + 1) v3.toNatClampNeg) = (-1) then gw C G mX1_isFree Q 2 [.ref a0, .int v1, .int v2, .int (v3 + 1)] [] σ else Q (some (.int 0)) σ)) else Q (some (.int 1)) σ) := by
  refine Eq.trans (e_iload_n dX1_isFree_2 rfl) ?_
  refine Eq.trans (e_iload_n dX1_isFree_3 rfl) ?_
  refine Eq.trans (e_iload_n dX1_isFree_4 rfl) ?_
  refine Eq.trans (e_iadd dX1_isFree_5) ?_
  refine Eq.trans (e_ic_ge (t := 27) dX1_isFree_6 (by decide)) (g_ite ?_ ?_)
  · refine Eq.trans (e_aload_n dX1_isFree_9 rfl) ?_
    refine Eq.trans (e_getr (b := a0 + 1) dX1_isFree_10 fl_1_9 (kX1 h0) (sX1_0 h0)) ?_
    refine Eq.trans (e_iload_n dX1_isFree_13 rfl) ?_
    refine Eq.trans (e_iald dX1_isFree_14 (aX1_0 h0) (nX1_0 h0)) (g_cj ?_)
    refine Eq.trans (e_iconst (x := (-1)) dX1_isFree_15 (by decide)) ?_
    refine Eq.trans (e_ic_eq (t := 21) dX1_isFree_16 (by decide)) (g_ite ?_ ?_)
    · refine Eq.trans (e_iinc (y := 1) dX1_isFree_21 rfl (by decide)) ?_
      refine Eq.trans (e_goto (t := 2) dX1_isFree_24 (by decide)) ?_
      rfl
    · refine Eq.trans (e_iconst (x := 0) dX1_isFree_19 (by decide)) ?_
      exact Eq.trans (e_iretz dX1_isFree_20 rfl) (g_and (by decide))
  · refine Eq.trans (e_iconst (x := 1) dX1_isFree_27 (by decide)) ?_
    exact Eq.trans (e_iretz dX1_isFree_28 rfl) (g_and (by decide))
theorem BX0_liveHandleOf_0 {C : gC} {G : gG} {Q : gK} {σ : gM} {a0 : Nat} {v1 : Int32} (h0 : isX0 G a0) : gw C G mX0_liveHandleOf Q 0 [.ref a0, .int v1] [] σ = (if v1 < 0 then Q (some (.int (-1))) σ else (if v1 < 30 then (vp_in v1 30 ∧ (if (σ (a0 + 2) v1.toNatClampNeg) = 1 then (g_inv C mX0_handleOf [.ref a0, .int v1] σ fun r σ' => gw C G mX0_liveHandleOf Q 27 [.ref a0, .int v1] (r.toList ++ []) σ') else Q (some (.int (-1))) σ)) else Q (some (.int (-1))) σ)) := by
  refine Eq.trans (e_iload_n dX0_liveHandleOf_0 rfl) ?_
  refine Eq.trans (e_if_lt (t := 20) dX0_liveHandleOf_1 (by decide)) (g_ite ?_ ?_)
  · refine Eq.trans (e_iconst (x := (-1)) dX0_liveHandleOf_20 (by decide)) ?_
    exact e_ireti dX0_liveHandleOf_21 rfl
  · refine Eq.trans (e_iload_n dX0_liveHandleOf_4 rfl) ?_
    refine Eq.trans (e_bipush (x := 30) dX0_liveHandleOf_5 (by decide)) ?_
    refine Eq.trans (e_ic_ge (t := 20) dX0_liveHandleOf_7 (by decide)) (g_ite ?_ ?_)
    · refine Eq.trans (e_aload_n dX0_liveHandleOf_10 rfl) ?_
      refine Eq.trans (e_getr (b := a0 + 2) dX0_liveHandleOf_11 fl_0_15 (kX0 h0) (sX0_1 h0)) ?_
      refine Eq.trans (e_iload_n dX0_liveHandleOf_14 rfl) ?_
      refine Eq.trans (e_iald dX0_liveHandleOf_15 (aX0_1 h0) (nX0_1 h0)) (g_cj ?_)
      refine Eq.trans (e_iconst (x := 1) dX0_liveHandleOf_16 (by decide)) ?_
      refine Eq.trans (e_ic_eq (t := 22) dX0_liveHandleOf_17 (by decide)) (g_ite ?_ ?_)
      · refine Eq.trans (e_aload_n dX0_liveHandleOf_22 rfl) ?_
        refine Eq.trans (e_iload_n dX0_liveHandleOf_23 rfl) ?_
        exact e_invv dX0_liveHandleOf_24 cl_0_39 (kX0 h0) (by simp) rfl rfl (by simp)
      · refine Eq.trans (e_iconst (x := (-1)) dX0_liveHandleOf_20 (by decide)) ?_
        exact e_ireti dX0_liveHandleOf_21 rfl
    · refine Eq.trans (e_iconst (x := (-1)) dX0_liveHandleOf_20 (by decide)) ?_
      exact e_ireti dX0_liveHandleOf_21 rfl
theorem BX0_liveHandleOf_27 {C : gC} {G : gG} {Q : gK} {σ : gM} {a0 : Nat} {v1 : Int32} {s0 : Int32} (h0 : isX0 G a0) : gw C G mX0_liveHandleOf Q 27 [.ref a0, .int v1] [.int s0] σ = Q (some (.int s0)) σ := by
  exact e_ireti dX0_liveHandleOf_27 rfl
theorem BX6_slotAt_0 {C : gC} {G : gG} {Q : gK} {σ : gM} {a0 : Nat} {v1 : Int32} (h0 : isX6 G a0) : gw C G mX6_slotAt Q 0 [.ref a0, .int v1] [] σ = (if v1 < 0 then Q (some (.int (-1))) σ else (if v1 < (σ a0 0) then (if v1 < 30 then (vp_in v1 30 ∧ Q (some (.int (σ (a0 + 1) v1.toNatClampNeg))) σ) else Q (some (.int (-1))) σ) else Q (some (.int (-1))) σ)) := by
  refine Eq.trans (e_iload_n dX6_slotAt_0 rfl) ?_
  refine Eq.trans (e_if_lt (t := 27) dX6_slotAt_1 (by decide)) (g_ite ?_ ?_)
  · refine Eq.trans (e_iconst (x := (-1)) dX6_slotAt_27 (by decide)) ?_
    exact e_ireti dX6_slotAt_28 rfl
  · refine Eq.trans (e_iload_n dX6_slotAt_4 rfl) ?_
    refine Eq.trans (e_aload_n dX6_slotAt_5 rfl) ?_
    refine Eq.trans (e_geti dX6_slotAt_6 fl_6_15 (kX6 h0)) ?_
    refine Eq.trans (e_ic_ge (t := 27) dX6_slotAt_9 (by decide)) (g_ite ?_ ?_)
    · refine Eq.trans (e_iload_n dX6_slotAt_12 rfl) ?_
      refine Eq.trans (e_bipush (x := 30) dX6_slotAt_13 (by decide)) ?_
      refine Eq.trans (e_ic_ge (t := 27) dX6_slotAt_15 (by decide)) (g_ite ?_ ?_)
      · refine Eq.trans (e_aload_n dX6_slotAt_18 rfl) ?_
        refine Eq.trans (e_getr (b := a0 + 1) dX6_slotAt_19 fl_6_9 (kX6 h0) (sX6_1 h0)) ?_
        refine Eq.trans (e_iload_n dX6_slotAt_22 rfl) ?_
        refine Eq.trans (e_iald dX6_slotAt_23 (aX6_1 h0) (nX6_1 h0)) (g_cj ?_)
        refine Eq.trans (e_goto (t := 28) dX6_slotAt_24 (by decide)) ?_
        exact e_ireti dX6_slotAt_28 rfl
      · refine Eq.trans (e_iconst (x := (-1)) dX6_slotAt_27 (by decide)) ?_
        exact e_ireti dX6_slotAt_28 rfl
    · refine Eq.trans (e_iconst (x := (-1)) dX6_slotAt_27 (by decide)) ?_
      exact e_ireti dX6_slotAt_28 rfl
theorem BX6_addLast_0 {C : gC} {G : gG} {Q : gK} {σ : gM} {a0 : Nat} {v1 : Int32} (h0 : isX6 G a0) : gw C G mX6_addLast Q 0 [.ref a0, .int v1] [] σ = (if (σ a0 0) < 30 then (vp_in (σ a0 0) 30 ∧ gw C G mX6_addLast Q 20 [.ref a0, .int v1] [] (g_up σ (a0 + 1) (σ a0 0).toNatClampNeg v1)) else Q none σ) := by
  refine Eq.trans (e_aload_n dX6_addLast_0 rfl) ?_
  refine Eq.trans (e_geti dX6_addLast_1 fl_6_15 (kX6 h0)) ?_
  refine Eq.trans (e_bipush (x := 30) dX6_addLast_4 (by decide)) ?_
  refine Eq.trans (e_ic_lt (t := 10) dX6_addLast_6 (by decide)) (g_ite ?_ ?_)
  · refine Eq.trans (e_aload_n dX6_addLast_10 rfl) ?_
    refine Eq.trans (e_getr (b := a0 + 1) dX6_addLast_11 fl_6_9 (kX6 h0) (sX6_1 h0)) ?_
    refine Eq.trans (e_aload_n dX6_addLast_14 rfl) ?_
    refine Eq.trans (e_geti dX6_addLast_15 fl_6_15 (kX6 h0)) ?_
    refine Eq.trans (e_iload_n dX6_addLast_18 rfl) ?_
    refine Eq.trans (e_iast dX6_addLast_19 (aX6_1 h0) (nX6_1 h0)) (g_cj ?_)
    rfl
  · exact e_ret dX6_addLast_9 rfl
theorem BX6_addLast_20 {C : gC} {G : gG} {Q : gK} {σ : gM} {a0 : Nat} {v1 : Int32} (h0 : isX6 G a0) : gw C G mX6_addLast Q 20 [.ref a0, .int v1] [] σ = Q none (g_up σ a0 0 ((σ a0 0) + 1)) := by
  refine Eq.trans (e_aload_n dX6_addLast_20 rfl) ?_
  refine Eq.trans (e_dup dX6_addLast_21) ?_
  refine Eq.trans (e_geti dX6_addLast_22 fl_6_15 (kX6 h0)) ?_
  refine Eq.trans (e_iconst (x := 1) dX6_addLast_25 (by decide)) ?_
  refine Eq.trans (e_iadd dX6_addLast_26) ?_
  refine Eq.trans (e_puti dX6_addLast_27 fl_6_15 (kX6 h0)) ?_
  exact e_ret dX6_addLast_30 rfl
theorem BX8_fromTagsAndPins_0 {C : gC} {G : gG} {Q : gK} {σ : gM} {a0 : Nat} {a1 : Nat} (h0 : isX8 G a0) (h1 : isX3 G a1) : gw C G mX8_fromTagsAndPins Q 0 [.ref a0, .ref a1, .long 0] [] σ = (g_inv C mX8_begin [.ref a0] σ fun r σ' => gw C G mX8_fromTagsAndPins Q 4 [.ref a0, .ref a1, .long 0] (r.toList ++ []) σ') := by
  refine Eq.trans (e_aload_n dX8_fromTagsAndPins_0 rfl) ?_
  exact e_invv dX8_fromTagsAndPins_1 cl_8_18 (kX8 h0) (by simp) rfl rfl (by simp)
theorem BX8_fromTagsAndPins_4 {C : gC} {G : gG} {Q : gK} {σ : gM} {a0 : Nat} {a1 : Nat} {wv2 : Value} (h0 : isX8 G a0) (h1 : isX3 G a1) : gw C G mX8_fromTagsAndPins Q 4 [.ref a0, .ref a1, wv2] [] σ = gw C G mX8_fromTagsAndPins Q 6 [.ref a0, .ref a1, .int 0] [] σ := by
  refine Eq.trans (e_iconst (x := 0) dX8_fromTagsAndPins_4 (by decide)) ?_
  refine Eq.trans (e_istore_n dX8_fromTagsAndPins_5 (Nat.le_of_ble_eq_true rfl)) ?_
  rfl
theorem BX8_fromTagsAndPins_6 {C : gC} {G : gG} {Q : gK} {σ : gM} {a0 : Nat} {a1 : Nat} {v2 : Int32} (h0 : isX8 G a0) (h1 : isX3 G a1) : gw C G mX8_fromTagsAndPins Q 6 [.ref a0, .ref a1, .int v2] [] σ = (if v2 < 30 then (vp_in v2 30 ∧ (if (σ (a1 + 10) v2.toNatClampNeg) = 1 then (vp_in v2 30 ∧ (if (σ (a1 + 16) v2.toNatClampNeg) = (-1) then (vp_in v2 30 ∧ (if 0 < (σ (a1 + 15) v2.toNatClampNeg) then gw C G mX8_fromTagsAndPins Q 53 [.ref a0, .ref a1, .int v2] [] σ else gw C G mX8_fromTagsAndPins Q 59 [.ref a0, .ref a1, .int v2] [] σ)) else gw C G mX8_fromTagsAndPins Q 53 [.ref a0, .ref a1, .int v2] [] σ)) else gw C G mX8_fromTagsAndPins Q 59 [.ref a0, .ref a1, .int v2] [] σ)) else (g_inv C mX8_goOn [.ref a0, .ref a1] σ fun r σ' => gw C G mX8_fromTagsAndPins Q 70 [.ref a0, .ref a1, .int v2] (r.toList ++ []) σ')) := by
  refine Eq.trans (e_iload_n dX8_fromTagsAndPins_6 rfl) ?_
  refine Eq.trans (e_bipush (x := 30) dX8_fromTagsAndPins_7 (by decide)) ?_
  refine Eq.trans (e_ic_ge (t := 65) dX8_fromTagsAndPins_9 (by decide)) (g_ite ?_ ?_)
  · refine Eq.trans (e_aload_n dX8_fromTagsAndPins_12 rfl) ?_
    refine Eq.trans (e_getr (b := a1 + 8) dX8_fromTagsAndPins_13 fl_8_21 (kX3 h1) (sX3_4 h1)) ?_
    refine Eq.trans (e_getr (b := a1 + 10) dX8_fromTagsAndPins_16 fl_8_27 (kX0 (iX3_4 h1)) (sX0_1 (iX3_4 h1))) ?_
    refine Eq.trans (e_iload_n dX8_fromTagsAndPins_19 rfl) ?_
    refine Eq.trans (e_iald dX8_fromTagsAndPins_20 (aX0_1 (iX3_4 h1)) (nX0_1 (iX3_4 h1))) (g_cj ?_)
    refine Eq.trans (e_iconst (x := 1) dX8_fromTagsAndPins_21 (by decide)) ?_
    refine Eq.trans (e_ic_eq (t := 28) dX8_fromTagsAndPins_22 (by decide)) (g_ite ?_ ?_)
    · refine Eq.trans (e_aload_n dX8_fromTagsAndPins_28 rfl) ?_
      refine Eq.trans (e_getr (b := a1 + 8) dX8_fromTagsAndPins_29 fl_8_21 (kX3 h1) (sX3_4 h1)) ?_
      refine Eq.trans (e_getr (b := a1 + 16) dX8_fromTagsAndPins_32 fl_8_32 (kX0 (iX3_4 h1)) (sX0_7 (iX3_4 h1))) ?_
      refine Eq.trans (e_iload_n dX8_fromTagsAndPins_35 rfl) ?_
      refine Eq.trans (e_iald dX8_fromTagsAndPins_36 (aX0_7 (iX3_4 h1)) (nX0_7 (iX3_4 h1))) (g_cj ?_)
      refine Eq.trans (e_iconst (x := (-1)) dX8_fromTagsAndPins_37 (by decide)) ?_
      refine Eq.trans (e_ic_ne (t := 53) dX8_fromTagsAndPins_38 (by decide)) (g_ite ?_ ?_)
      · refine Eq.trans (e_aload_n dX8_fromTagsAndPins_41 rfl) ?_
        refine Eq.trans (e_getr (b := a1 + 8) dX8_fromTagsAndPins_42 fl_8_21 (kX3 h1) (sX3_4 h1)) ?_
        refine Eq.trans (e_getr (b := a1 + 15) dX8_fromTagsAndPins_45 fl_8_35 (kX0 (iX3_4 h1)) (sX0_6 (iX3_4 h1))) ?_
        refine Eq.trans (e_iload_n dX8_fromTagsAndPins_48 rfl) ?_
        refine Eq.trans (e_iald dX8_fromTagsAndPins_49 (aX0_6 (iX3_4 h1)) (nX0_6 (iX3_4 h1))) (g_cj ?_)
        refine Eq.trans (e_if_le (t := 59) dX8_fromTagsAndPins_50 (by decide)) (g_ite ?_ ?_)
        · rfl
        · rfl
      · rfl
    · refine Eq.trans (e_goto (t := 59) dX8_fromTagsAndPins_25 (by decide)) ?_
      rfl
  · refine Eq.trans (e_aload_n dX8_fromTagsAndPins_65 rfl) ?_
    refine Eq.trans (e_aload_n dX8_fromTagsAndPins_66 rfl) ?_
    exact e_invv dX8_fromTagsAndPins_67 cl_8_42 (kX8 h0) (by simp) rfl rfl (by simp)
theorem BX8_fromTagsAndPins_53 {C : gC} {G : gG} {Q : gK} {σ : gM} {a0 : Nat} {a1 : Nat} {v2 : Int32} (h0 : isX8 G a0) (h1 : isX3 G a1) : gw C G mX8_fromTagsAndPins Q 53 [.ref a0, .ref a1, .int v2] [] σ = (g_inv C mX8_comeTo [.ref a0, .int v2, .int 0] σ fun r σ' => gw C G mX8_fromTagsAndPins Q 59 [.ref a0, .ref a1, .int v2] (r.toList ++ []) σ') := by
  refine Eq.trans (e_aload_n dX8_fromTagsAndPins_53 rfl) ?_
  refine Eq.trans (e_iload_n dX8_fromTagsAndPins_54 rfl) ?_
  refine Eq.trans (e_iconst (x := 0) dX8_fromTagsAndPins_55 (by decide)) ?_
  exact e_invv dX8_fromTagsAndPins_56 cl_8_38 (kX8 h0) (by simp) rfl rfl (by simp)
theorem BX8_fromTagsAndPins_59 {C : gC} {G : gG} {Q : gK} {σ : gM} {a0 : Nat} {a1 : Nat} {v2 : Int32} (h0 : isX8 G a0) (h1 : isX3 G a1) : gw C G mX8_fromTagsAndPins Q 59 [.ref a0, .ref a1, .int v2] [] σ = gw C G mX8_fromTagsAndPins Q 6 [.ref a0, .ref a1, .int (v2 + 1)] [] σ := by
  refine Eq.trans (e_iinc (y := 1) dX8_fromTagsAndPins_59 rfl (by decide)) ?_
  refine Eq.trans (e_goto (t := 6) dX8_fromTagsAndPins_62 (by decide)) ?_
  rfl
theorem BX8_fromTagsAndPins_70 {C : gC} {G : gG} {Q : gK} {σ : gM} {a0 : Nat} {a1 : Nat} {v2 : Int32} (h0 : isX8 G a0) (h1 : isX3 G a1) : gw C G mX8_fromTagsAndPins Q 70 [.ref a0, .ref a1, .int v2] [] σ = Q none σ := by
  exact e_ret dX8_fromTagsAndPins_70 rfl
theorem BX8_begin_0 {C : gC} {G : gG} {Q : gK} {σ : gM} {a0 : Nat} (h0 : isX8 G a0) : gw C G mX8_begin Q 0 [.ref a0] [] σ = (g_inv C mX9_fill [.ref (a0 + 1), .int 0, .int 30, .int (-1)] σ fun r σ' => gw C G mX8_begin Q 11 [.ref a0] (r.toList ++ []) σ') := by
  refine Eq.trans (e_aload_n dX8_begin_0 rfl) ?_
  refine Eq.trans (e_getr (b := a0 + 1) dX8_begin_1 fl_8_9 (kX8 h0) (sX8_0 h0)) ?_
  refine Eq.trans (e_iconst (x := 0) dX8_begin_4 (by decide)) ?_
  refine Eq.trans (e_bipush (x := 30) dX8_begin_5 (by decide)) ?_
  refine Eq.trans (e_iconst (x := (-1)) dX8_begin_7 (by decide)) ?_
  exact e_invs dX8_begin_8 cl_8_46 (by decide) (by simp) rfl rfl (by simp)
theorem BX8_begin_11 {C : gC} {G : gG} {Q : gK} {σ : gM} {a0 : Nat} (h0 : isX8 G a0) : gw C G mX8_begin Q 11 [.ref a0] [] σ = Q none (g_up σ a0 2 0) := by
  refine Eq.trans (e_aload_n dX8_begin_11 rfl) ?_
  refine Eq.trans (e_iconst (x := 0) dX8_begin_12 (by decide)) ?_
  refine Eq.trans (e_puti dX8_begin_13 fl_8_50 (kX8 h0)) ?_
  exact e_ret dX8_begin_16 rfl
theorem BX8_comeTo_0 {C : gC} {G : gG} {Q : gK} {σ : gM} {a0 : Nat} {v1 : Int32} {v2 : Int32} (h0 : isX8 G a0) : gw C G mX8_comeTo Q 0 [.ref a0, .int v1, .int v2] [] σ = (vp_in v1 30 ∧ (if (σ (a0 + 1) v1.toNatClampNeg) = (-1) then (if (σ a0 2) < 30 then (vp_in v1 30 ∧ gw C G mX8_comeTo Q 27 [.ref a0, .int v1, .int v2] [] (g_up σ (a0 + 1) v1.toNatClampNeg v2)) else Q none σ) else Q none σ)) := by
  refine Eq.trans (e_aload_n dX8_comeTo_0 rfl) ?_
  refine Eq.trans (e_getr (b := a0 + 1) dX8_comeTo_1 fl_8_9 (kX8 h0) (sX8_0 h0)) ?_
  refine Eq.trans (e_iload_n dX8_comeTo_4 rfl) ?_
  refine Eq.trans (e_iald dX8_comeTo_5 (aX8_0 h0) (nX8_0 h0)) (g_cj ?_)
  refine Eq.trans (e_iconst (x := (-1)) dX8_comeTo_6 (by decide)) ?_
  refine Eq.trans (e_ic_ne (t := 19) dX8_comeTo_7 (by decide)) (g_ite ?_ ?_)
  · refine Eq.trans (e_aload_n dX8_comeTo_10 rfl) ?_
    refine Eq.trans (e_geti dX8_comeTo_11 fl_8_50 (kX8 h0)) ?_
    refine Eq.trans (e_bipush (x := 30) dX8_comeTo_14 (by decide)) ?_
    refine Eq.trans (e_ic_lt (t := 20) dX8_comeTo_16 (by decide)) (g_ite ?_ ?_)
    · refine Eq.trans (e_aload_n dX8_comeTo_20 rfl) ?_
      refine Eq.trans (e_getr (b := a0 + 1) dX8_comeTo_21 fl_8_9 (kX8 h0) (sX8_0 h0)) ?_
      refine Eq.trans (e_iload_n dX8_comeTo_24 rfl) ?_
      refine Eq.trans (e_iload_n dX8_comeTo_25 rfl) ?_
      refine Eq.trans (e_iast dX8_comeTo_26 (aX8_0 h0) (nX8_0 h0)) (g_cj ?_)
      rfl
    · exact e_ret dX8_comeTo_19 rfl
  · exact e_ret dX8_comeTo_19 rfl
theorem BX8_comeTo_27 {C : gC} {G : gG} {Q : gK} {σ : gM} {a0 : Nat} {v1 : Int32} {v2 : Int32} (h0 : isX8 G a0) : gw C G mX8_comeTo Q 27 [.ref a0, .int v1, .int v2] [] σ = (vp_in (σ a0 2) 30 ∧ gw C G mX8_comeTo Q 37 [.ref a0, .int v1, .int v2] [] (g_up σ (a0 + 2) (σ a0 2).toNatClampNeg v1)) := by
  refine Eq.trans (e_aload_n dX8_comeTo_27 rfl) ?_
  refine Eq.trans (e_getr (b := a0 + 2) dX8_comeTo_28 fl_8_15 (kX8 h0) (sX8_1 h0)) ?_
  refine Eq.trans (e_aload_n dX8_comeTo_31 rfl) ?_
  refine Eq.trans (e_geti dX8_comeTo_32 fl_8_50 (kX8 h0)) ?_
  refine Eq.trans (e_iload_n dX8_comeTo_35 rfl) ?_
  refine Eq.trans (e_iast dX8_comeTo_36 (aX8_1 h0) (nX8_1 h0)) (g_cj ?_)
  rfl
theorem BX8_comeTo_37 {C : gC} {G : gG} {Q : gK} {σ : gM} {a0 : Nat} {v1 : Int32} {v2 : Int32} (h0 : isX8 G a0) : gw C G mX8_comeTo Q 37 [.ref a0, .int v1, .int v2] [] σ = Q none (g_up σ a0 2 ((σ a0 2) + 1)) := by
  refine Eq.trans (e_aload_n dX8_comeTo_37 rfl) ?_
  refine Eq.trans (e_dup dX8_comeTo_38) ?_
  refine Eq.trans (e_geti dX8_comeTo_39 fl_8_50 (kX8 h0)) ?_
  refine Eq.trans (e_iconst (x := 1) dX8_comeTo_42 (by decide)) ?_
  refine Eq.trans (e_iadd dX8_comeTo_43) ?_
  refine Eq.trans (e_puti dX8_comeTo_44 fl_8_50 (kX8 h0)) ?_
  exact e_ret dX8_comeTo_47 rfl
theorem BX8_goOn_0 {C : gC} {G : gG} {Q : gK} {σ : gM} {a0 : Nat} {a1 : Nat} (h0 : isX8 G a0) (h1 : isX3 G a1) : gw C G mX8_goOn Q 0 [.ref a0, .ref a1, .long 0, .long 0, .long 0, .long 0, .long 0] [] σ = gw C G mX8_goOn Q 2 [.ref a0, .ref a1, .int 0, .long 0, .long 0, .long 0, .long 0] [] σ := by
  refine Eq.trans (e_iconst (x := 0) dX8_goOn_0 (by decide)) ?_
  refine Eq.trans (e_istore_n dX8_goOn_1 (Nat.le_of_ble_eq_true rfl)) ?_
  rfl
theorem BX8_goOn_2 {C : gC} {G : gG} {Q : gK} {σ : gM} {a0 : Nat} {a1 : Nat} {v2 : Int32} {wv3 : Value} {wv4 : Value} {wv5 : Value} {wv6 : Value} (h0 : isX8 G a0) (h1 : isX3 G a1) : gw C G mX8_goOn Q 2 [.ref a0, .ref a1, .int v2, wv3, wv4, wv5, wv6] [] σ = (if v2 < 30 then (if v2 < (σ a0 2) then (vp_in v2 30 ∧ (vp_in (σ (a0 + 2) v2.toNatClampNeg) 30 ∧ gw C G mX8_goOn Q 38 [.ref a0, .ref a1, .int v2, .int (σ (a0 + 2) v2.toNatClampNeg), .int (σ (a1 + 11) (σ (a0 + 2) v2.toNatClampNeg).toNatClampNeg), .int (σ (a1 + 11) (σ (a0 + 2) v2.toNatClampNeg).toNatClampNeg), wv6] [] σ)) else Q none σ) else Q none σ) := by
  refine Eq.trans (e_iload_n dX8_goOn_2 rfl) ?_
  refine Eq.trans (e_bipush (x := 30) dX8_goOn_3 (by decide)) ?_
  refine Eq.trans (e_ic_ge (t := 103) dX8_goOn_5 (by decide)) (g_ite ?_ ?_)
  · refine Eq.trans (e_iload_n dX8_goOn_8 rfl) ?_
    refine Eq.trans (e_aload_n dX8_goOn_9 rfl) ?_
    refine Eq.trans (e_geti dX8_goOn_10 fl_8_50 (kX8 h0)) ?_
    refine Eq.trans (e_ic_ge (t := 103) dX8_goOn_13 (by decide)) (g_ite ?_ ?_)
    · refine Eq.trans (e_aload_n dX8_goOn_16 rfl) ?_
      refine Eq.trans (e_getr (b := a0 + 2) dX8_goOn_17 fl_8_15 (kX8 h0) (sX8_1 h0)) ?_
      refine Eq.trans (e_iload_n dX8_goOn_20 rfl) ?_
      refine Eq.trans (e_iald dX8_goOn_21 (aX8_1 h0) (nX8_1 h0)) (g_cj ?_)
      refine Eq.trans (e_istore_n dX8_goOn_22 (Nat.le_of_ble_eq_true rfl)) ?_
      refine Eq.trans (e_aload_n dX8_goOn_23 rfl) ?_
      refine Eq.trans (e_getr (b := a1 + 8) dX8_goOn_24 fl_8_21 (kX3 h1) (sX3_4 h1)) ?_
      refine Eq.trans (e_getr (b := a1 + 11) dX8_goOn_27 fl_8_54 (kX0 (iX3_4 h1)) (sX0_2 (iX3_4 h1))) ?_
      refine Eq.trans (e_iload_n dX8_goOn_30 rfl) ?_
      refine Eq.trans (e_iald dX8_goOn_31 (aX0_2 (iX3_4 h1)) (nX0_2 (iX3_4 h1))) (g_cj ?_)
      refine Eq.trans (e_istore dX8_goOn_32 (Nat.le_of_ble_eq_true rfl)) ?_
      refine Eq.trans (e_iload dX8_goOn_34 rfl) ?_
      refine Eq.trans (e_istore dX8_goOn_36 (Nat.le_of_ble_eq_true rfl)) ?_
      rfl
    · exact e_ret dX8_goOn_103 rfl
  · exact e_ret dX8_goOn_103 rfl
theorem BX8_goOn_38 {C : gC} {G : gG} {Q : gK} {σ : gM} {a0 : Nat} {a1 : Nat} {v2 : Int32} {v3 : Int32} {v4 : Int32} {v5 : Int32} {wv6 : Value} (h0 : isX8 G a0) (h1 : isX3 G a1) : gw C G mX8_goOn Q 38 [.ref a0, .ref a1, .int v2, .int v3, .int v4, .int v5, wv6] [] σ = (vp_in v3 30 ∧ (if v5 < (v4 + (σ (a1 + 12) v3.toNatClampNeg)) then (vp_in v5 240 ∧ (g_inv C mX0_liveSlotOf [.ref (a1 + 8), .int (σ (a1 + 1) v5.toNatClampNeg)] σ fun r σ' => gw C G mX8_goOn Q 69 [.ref a0, .ref a1, .int v2, .int v3, .int v4, .int v5, wv6] (r.toList ++ []) σ')) else gw C G mX8_goOn Q 2 [.ref a0, .ref a1, .int (v2 + 1), .int v3, .int v4, .int v5, wv6] [] σ)) := by
  refine Eq.trans (e_iload dX8_goOn_38 rfl) ?_
  refine Eq.trans (e_iload dX8_goOn_40 rfl) ?_
  refine Eq.trans (e_aload_n dX8_goOn_42 rfl) ?_
  refine Eq.trans (e_getr (b := a1 + 8) dX8_goOn_43 fl_8_21 (kX3 h1) (sX3_4 h1)) ?_
  refine Eq.trans (e_getr (b := a1 + 12) dX8_goOn_46 fl_8_57 (kX0 (iX3_4 h1)) (sX0_3 (iX3_4 h1))) ?_
  refine Eq.trans (e_iload_n dX8_goOn_49 rfl) ?_
  refine Eq.trans (e_iald dX8_goOn_50 (aX0_3 (iX3_4 h1)) (nX0_3 (iX3_4 h1))) (g_cj ?_)
  refine Eq.trans (e_iadd dX8_goOn_51) ?_
  refine Eq.trans (e_ic_ge (t := 97) dX8_goOn_52 (by decide)) (g_ite ?_ ?_)
  · refine Eq.trans (e_aload_n dX8_goOn_55 rfl) ?_
    refine Eq.trans (e_getr (b := a1 + 8) dX8_goOn_56 fl_8_21 (kX3 h1) (sX3_4 h1)) ?_
    refine Eq.trans (e_aload_n dX8_goOn_59 rfl) ?_
    refine Eq.trans (e_getr (b := a1 + 1) dX8_goOn_60 fl_8_60 (kX3 h1) (sX3_1 h1)) ?_
    refine Eq.trans (e_iload dX8_goOn_63 rfl) ?_
    refine Eq.trans (e_iald dX8_goOn_65 (aX3_1 h1) (nX3_1 h1)) (g_cj ?_)
    exact e_invv dX8_goOn_66 cl_8_63 (kX0 (iX3_4 h1)) (by simp) rfl rfl (by simp)
  · refine Eq.trans (e_iinc (y := 1) dX8_goOn_97 rfl (by decide)) ?_
    refine Eq.trans (e_goto (t := 2) dX8_goOn_100 (by decide)) ?_
    rfl
theorem BX8_goOn_69 {C : gC} {G : gG} {Q : gK} {σ : gM} {a0 : Nat} {a1 : Nat} {v2 : Int32} {v3 : Int32} {v4 : Int32} {v5 : Int32} {wv6 : Value} {s0 : Int32} (h0 : isX8 G a0) (h1 : isX3 G a1) : gw C G mX8_goOn Q 69 [.ref a0, .ref a1, .int v2, .int v3, .int v4, .int v5, wv6] [.int s0] σ = (if s0 = (-1) then gw C G mX8_goOn Q 91 [.ref a0, .ref a1, .int v2, .int v3, .int v4, .int v5, .int s0] [] σ else (vp_in v3 30 ∧ (g_inv C mX8_comeTo [.ref a0, .int s0, .int ((σ (a0 + 1) v3.toNatClampNeg) + 1)] σ fun r σ' => gw C G mX8_goOn Q 91 [.ref a0, .ref a1, .int v2, .int v3, .int v4, .int v5, .int s0] (r.toList ++ []) σ'))) := by
  refine Eq.trans (e_istore dX8_goOn_69 (Nat.le_of_ble_eq_true rfl)) ?_
  refine Eq.trans (e_iload dX8_goOn_71 rfl) ?_
  refine Eq.trans (e_iconst (x := (-1)) dX8_goOn_73 (by decide)) ?_
  refine Eq.trans (e_ic_eq (t := 91) dX8_goOn_74 (by decide)) (g_ite ?_ ?_)
  · rfl
  · refine Eq.trans (e_aload_n dX8_goOn_77 rfl) ?_
    refine Eq.trans (e_iload dX8_goOn_78 rfl) ?_
    refine Eq.trans (e_aload_n dX8_goOn_80 rfl) ?_
    refine Eq.trans (e_getr (b := a0 + 1) dX8_goOn_81 fl_8_9 (kX8 h0) (sX8_0 h0)) ?_
    refine Eq.trans (e_iload_n dX8_goOn_84 rfl) ?_
    refine Eq.trans (e_iald dX8_goOn_85 (aX8_0 h0) (nX8_0 h0)) (g_cj ?_)
    refine Eq.trans (e_iconst (x := 1) dX8_goOn_86 (by decide)) ?_
    refine Eq.trans (e_iadd dX8_goOn_87) ?_
    exact e_invv dX8_goOn_88 cl_8_38 (kX8 h0) (by simp) rfl rfl (by simp)
theorem BX8_goOn_91 {C : gC} {G : gG} {Q : gK} {σ : gM} {a0 : Nat} {a1 : Nat} {v2 : Int32} {v3 : Int32} {v4 : Int32} {v5 : Int32} {v6 : Int32} (h0 : isX8 G a0) (h1 : isX3 G a1) : gw C G mX8_goOn Q 91 [.ref a0, .ref a1, .int v2, .int v3, .int v4, .int v5, .int v6] [] σ = gw C G mX8_goOn Q 38 [.ref a0, .ref a1, .int v2, .int v3, .int v4, .int (v5 + 1), .int v6] [] σ := by
  refine Eq.trans (e_iinc (y := 1) dX8_goOn_91 rfl (by decide)) ?_
  refine Eq.trans (e_goto (t := 38) dX8_goOn_94 (by decide)) ?_
  rfl
theorem BX0_liveOf_0 {C : gC} {G : gG} {Q : gK} {σ : gM} {a0 : Nat} {v1 : Int32} (h0 : isX0 G a0) : gw C G mX0_liveOf Q 0 [.ref a0, .int v1, .long 0, .long 0] [] σ = gw C G mX0_liveOf Q 4 [.ref a0, .int v1, .int 0, .int 0] [] σ := by
  refine Eq.trans (e_iconst (x := 0) dX0_liveOf_0 (by decide)) ?_
  refine Eq.trans (e_istore_n dX0_liveOf_1 (Nat.le_of_ble_eq_true rfl)) ?_
  refine Eq.trans (e_iconst (x := 0) dX0_liveOf_2 (by decide)) ?_
  refine Eq.trans (e_istore_n dX0_liveOf_3 (Nat.le_of_ble_eq_true rfl)) ?_
  rfl
theorem BX0_liveOf_4 {C : gC} {G : gG} {Q : gK} {σ : gM} {a0 : Nat} {v1 : Int32} {v2 : Int32} {v3 : Int32} (h0 : isX0 G a0) : gw C G mX0_liveOf Q 4 [.ref a0, .int v1, .int v2, .int v3] [] σ = (if v3 < 30 then (vp_in v3 30 ∧ (if (σ (a0 + 2) v3.toNatClampNeg) = 1 then (vp_in v3 30 ∧ (if (σ (a0 + 6) v3.toNatClampNeg) = v1 then gw C G mX0_liveOf Q 4 [.ref a0, .int v1, .int (v2 + 1), .int (v3 + 1)] [] σ else gw C G mX0_liveOf Q 4 [.ref a0, .int v1, .int v2, .int (v3 + 1)] [] σ)) else gw C G mX0_liveOf Q 4 [.ref a0, .int v1, .int v2, .int (v3 + 1)] [] σ)) else Q (some (.int v2)) σ) := by
  refine Eq.trans (e_iload_n dX0_liveOf_4 rfl) ?_
  refine Eq.trans (e_bipush (x := 30) dX0_liveOf_5 (by decide)) ?_
  refine Eq.trans (e_ic_ge (t := 39) dX0_liveOf_7 (by decide)) (g_ite ?_ ?_)
  · refine Eq.trans (e_aload_n dX0_liveOf_10 rfl) ?_
    refine Eq.trans (e_getr (b := a0 + 2) dX0_liveOf_11 fl_0_15 (kX0 h0) (sX0_1 h0)) ?_
    refine Eq.trans (e_iload_n dX0_liveOf_14 rfl) ?_
    refine Eq.trans (e_iald dX0_liveOf_15 (aX0_1 h0) (nX0_1 h0)) (g_cj ?_)
    refine Eq.trans (e_iconst (x := 1) dX0_liveOf_16 (by decide)) ?_
    refine Eq.trans (e_ic_ne (t := 33) dX0_liveOf_17 (by decide)) (g_ite ?_ ?_)
    · refine Eq.trans (e_aload_n dX0_liveOf_20 rfl) ?_
      refine Eq.trans (e_getr (b := a0 + 6) dX0_liveOf_21 fl_0_27 (kX0 h0) (sX0_5 h0)) ?_
      refine Eq.trans (e_iload_n dX0_liveOf_24 rfl) ?_
      refine Eq.trans (e_iald dX0_liveOf_25 (aX0_5 h0) (nX0_5 h0)) (g_cj ?_)
      refine Eq.trans (e_iload_n dX0_liveOf_26 rfl) ?_
      refine Eq.trans (e_ic_ne (t := 33) dX0_liveOf_27 (by decide)) (g_ite ?_ ?_)
      · refine Eq.trans (e_iinc (y := 1) dX0_liveOf_30 rfl (by decide)) ?_
        refine Eq.trans (e_iinc (y := 1) dX0_liveOf_33 rfl (by decide)) ?_
        refine Eq.trans (e_goto (t := 4) dX0_liveOf_36 (by decide)) ?_
        rfl
      · refine Eq.trans (e_iinc (y := 1) dX0_liveOf_33 rfl (by decide)) ?_
        refine Eq.trans (e_goto (t := 4) dX0_liveOf_36 (by decide)) ?_
        rfl
    · refine Eq.trans (e_iinc (y := 1) dX0_liveOf_33 rfl (by decide)) ?_
      refine Eq.trans (e_goto (t := 4) dX0_liveOf_36 (by decide)) ?_
      rfl
  · refine Eq.trans (e_iload_n dX0_liveOf_39 rfl) ?_
    exact e_ireti dX0_liveOf_40 rfl
theorem BX1_freeCells_0 {C : gC} {G : gG} {Q : gK} {σ : gM} {a0 : Nat} {v1 : Int32} {v2 : Int32} (h0 : isX1 G a0) : gw C G mX1_freeCells Q 0 [.ref a0, .int v1, .int v2, .long 0, .long 0] [] σ = gw C G mX1_freeCells Q 5 [.ref a0, .int v1, .int v2, .int 0, .int v1] [] σ := by
  refine Eq.trans (e_iconst (x := 0) dX1_freeCells_0 (by decide)) ?_
  refine Eq.trans (e_istore_n dX1_freeCells_1 (Nat.le_of_ble_eq_true rfl)) ?_
  refine Eq.trans (e_iload_n dX1_freeCells_2 rfl) ?_
  refine Eq.trans (e_istore dX1_freeCells_3 (Nat.le_of_ble_eq_true rfl)) ?_
  rfl
theorem BX1_freeCells_5 {C : gC} {G : gG} {Q : gK} {σ : gM} {a0 : Nat} {v1 : Int32} {v2 : Int32} {v3 : Int32} {v4 : Int32} (h0 : isX1 G a0) : gw C G mX1_freeCells Q 5 [.ref a0, .int v1, .int v2, .int v3, .int v4] [] σ = (if v4 < v2 then (vp_in v4 240 ∧ (if (σ (a0 + 1) v4.toNatClampNeg) = (-1) then gw C G mX1_freeCells Q 5 [.ref a0, .int v1, .int v2, .int (v3 + 1), .int (v4 + 1)] [] σ else gw C G mX1_freeCells Q 5 [.ref a0, .int v1, .int v2, .int v3, .int (v4 + 1)] [] σ)) else Q (some (.int v3)) σ) := by
  refine Eq.trans (e_iload dX1_freeCells_5 rfl) ?_
  refine Eq.trans (e_iload_n dX1_freeCells_7 rfl) ?_
  refine Eq.trans (e_ic_ge (t := 31) dX1_freeCells_8 (by decide)) (g_ite ?_ ?_)
  · refine Eq.trans (e_aload_n dX1_freeCells_11 rfl) ?_
    refine Eq.trans (e_getr (b := a0 + 1) dX1_freeCells_12 fl_1_9 (kX1 h0) (sX1_0 h0)) ?_
    refine Eq.trans (e_iload dX1_freeCells_15 rfl) ?_
    refine Eq.trans (e_iald dX1_freeCells_17 (aX1_0 h0) (nX1_0 h0)) (g_cj ?_)
    refine Eq.trans (e_iconst (x := (-1)) dX1_freeCells_18 (by decide)) ?_
    refine Eq.trans (e_ic_ne (t := 25) dX1_freeCells_19 (by decide)) (g_ite ?_ ?_)
    · refine Eq.trans (e_iinc (y := 1) dX1_freeCells_22 rfl (by decide)) ?_
      refine Eq.trans (e_iinc (y := 1) dX1_freeCells_25 rfl (by decide)) ?_
      refine Eq.trans (e_goto (t := 5) dX1_freeCells_28 (by decide)) ?_
      rfl
    · refine Eq.trans (e_iinc (y := 1) dX1_freeCells_25 rfl (by decide)) ?_
      refine Eq.trans (e_goto (t := 5) dX1_freeCells_28 (by decide)) ?_
      rfl
  · refine Eq.trans (e_iload_n dX1_freeCells_31 rfl) ?_
    exact e_ireti dX1_freeCells_32 rfl
theorem BX1_longestFreeRow_0 {C : gC} {G : gG} {Q : gK} {σ : gM} {a0 : Nat} {v1 : Int32} {v2 : Int32} (h0 : isX1 G a0) : gw C G mX1_longestFreeRow Q 0 [.ref a0, .int v1, .int v2, .long 0, .long 0, .long 0] [] σ = gw C G mX1_longestFreeRow Q 8 [.ref a0, .int v1, .int v2, .int 0, .int 0, .int v1] [] σ := by
  refine Eq.trans (e_iconst (x := 0) dX1_longestFreeRow_0 (by decide)) ?_
  refine Eq.trans (e_istore_n dX1_longestFreeRow_1 (Nat.le_of_ble_eq_true rfl)) ?_
  refine Eq.trans (e_iconst (x := 0) dX1_longestFreeRow_2 (by decide)) ?_
  refine Eq.trans (e_istore dX1_longestFreeRow_3 (Nat.le_of_ble_eq_true rfl)) ?_
  refine Eq.trans (e_iload_n dX1_longestFreeRow_5 rfl) ?_
  refine Eq.trans (e_istore dX1_longestFreeRow_6 (Nat.le_of_ble_eq_true rfl)) ?_
  rfl
theorem BX1_longestFreeRow_8 {C : gC} {G : gG} {Q : gK} {σ : gM} {a0 : Nat} {v1 : Int32} {v2 : Int32} {v3 : Int32} {v4 : Int32} {v5 : Int32} (h0 : isX1 G a0) : gw C G mX1_longestFreeRow Q 8 [.ref a0, .int v1, .int v2, .int v3, .int v4, .int v5] [] σ = (if v5 < v2 then (vp_in v5 240 ∧ (if (σ (a0 + 1) v5.toNatClampNeg) = (-1) then gw C G mX1_longestFreeRow Q 8 [.ref a0, .int v1, .int v2, .int (if v3 < (v4 + 1) then (v4 + 1) else v3), .int (v4 + 1), .int (v5 + 1)] [] σ else gw C G mX1_longestFreeRow Q 8 [.ref a0, .int v1, .int v2, .int (if v3 < 0 then 0 else v3), .int 0, .int (v5 + 1)] [] σ)) else Q (some (.int v3)) σ) := by
  refine Eq.trans (e_iload dX1_longestFreeRow_8 rfl) ?_
  refine Eq.trans (e_iload_n dX1_longestFreeRow_10 rfl) ?_
  refine Eq.trans (e_ic_ge (t := 48) dX1_longestFreeRow_11 (by decide)) (g_ite ?_ ?_)
  · refine Eq.trans (e_aload_n dX1_longestFreeRow_14 rfl) ?_
    refine Eq.trans (e_getr (b := a0 + 1) dX1_longestFreeRow_15 fl_1_9 (kX1 h0) (sX1_0 h0)) ?_
    refine Eq.trans (e_iload dX1_longestFreeRow_18 rfl) ?_
    refine Eq.trans (e_iald dX1_longestFreeRow_20 (aX1_0 h0) (nX1_0 h0)) (g_cj ?_)
    refine Eq.trans (e_iconst (x := (-1)) dX1_longestFreeRow_21 (by decide)) ?_
    refine Eq.trans (e_ic_ne (t := 32) dX1_longestFreeRow_22 (by decide)) (g_ite ?_ ?_)
    · refine Eq.trans (e_iload dX1_longestFreeRow_25 rfl) ?_
      refine Eq.trans (e_iconst (x := 1) dX1_longestFreeRow_27 (by decide)) ?_
      refine Eq.trans (e_iadd dX1_longestFreeRow_28) ?_
      refine Eq.trans (e_goto (t := 33) dX1_longestFreeRow_29 (by decide)) ?_
      refine Eq.trans (e_istore dX1_longestFreeRow_33 (Nat.le_of_ble_eq_true rfl)) ?_
      refine Eq.trans (e_iload_n dX1_longestFreeRow_35 rfl) ?_
      refine Eq.trans (e_iload dX1_longestFreeRow_36 rfl) ?_
      refine Eq.trans (e_max dX1_longestFreeRow_38 cl_1_42 (Nat.le_of_ble_eq_true rfl)) ?_
      refine Eq.trans (e_istore_n dX1_longestFreeRow_41 (Nat.le_of_ble_eq_true rfl)) ?_
      refine Eq.trans (e_iinc (y := 1) dX1_longestFreeRow_42 rfl (by decide)) ?_
      refine Eq.trans (e_goto (t := 8) dX1_longestFreeRow_45 (by decide)) ?_
      rfl
    · refine Eq.trans (e_iconst (x := 0) dX1_longestFreeRow_32 (by decide)) ?_
      refine Eq.trans (e_istore dX1_longestFreeRow_33 (Nat.le_of_ble_eq_true rfl)) ?_
      refine Eq.trans (e_iload_n dX1_longestFreeRow_35 rfl) ?_
      refine Eq.trans (e_iload dX1_longestFreeRow_36 rfl) ?_
      refine Eq.trans (e_max dX1_longestFreeRow_38 cl_1_42 (Nat.le_of_ble_eq_true rfl)) ?_
      refine Eq.trans (e_istore_n dX1_longestFreeRow_41 (Nat.le_of_ble_eq_true rfl)) ?_
      refine Eq.trans (e_iinc (y := 1) dX1_longestFreeRow_42 rfl (by decide)) ?_
      refine Eq.trans (e_goto (t := 8) dX1_longestFreeRow_45 (by decide)) ?_
      rfl
  · refine Eq.trans (e_iload_n dX1_longestFreeRow_48 rfl) ?_
    exact e_ireti dX1_longestFreeRow_49 rfl
theorem BX1_freeRows_0 {C : gC} {G : gG} {Q : gK} {σ : gM} {a0 : Nat} {v1 : Int32} {v2 : Int32} (h0 : isX1 G a0) : gw C G mX1_freeRows Q 0 [.ref a0, .int v1, .int v2, .long 0, .long 0, .long 0, .long 0] [] σ = gw C G mX1_freeRows Q 8 [.ref a0, .int v1, .int v2, .int 0, .int 0, .int v1, .long 0] [] σ := by
  refine Eq.trans (e_iconst (x := 0) dX1_freeRows_0 (by decide)) ?_
  refine Eq.trans (e_istore_n dX1_freeRows_1 (Nat.le_of_ble_eq_true rfl)) ?_
  refine Eq.trans (e_iconst (x := 0) dX1_freeRows_2 (by decide)) ?_
  refine Eq.trans (e_istore dX1_freeRows_3 (Nat.le_of_ble_eq_true rfl)) ?_
  refine Eq.trans (e_iload_n dX1_freeRows_5 rfl) ?_
  refine Eq.trans (e_istore dX1_freeRows_6 (Nat.le_of_ble_eq_true rfl)) ?_
  rfl
theorem BX1_freeRows_8 {C : gC} {G : gG} {Q : gK} {σ : gM} {a0 : Nat} {v1 : Int32} {v2 : Int32} {v3 : Int32} {v4 : Int32} {v5 : Int32} {wv6 : Value} (h0 : isX1 G a0) : gw C G mX1_freeRows Q 8 [.ref a0, .int v1, .int v2, .int v3, .int v4, .int v5, wv6] [] σ = (if v5 < v2 then (vp_in v5 240 ∧ (if (σ (a0 + 1) v5.toNatClampNeg) = (-1) then gw C G mX1_freeRows Q 30 [.ref a0, .int v1, .int v2, .int v3, .int v4, .int v5, wv6] [.int 1] σ else gw C G mX1_freeRows Q 30 [.ref a0, .int v1, .int v2, .int v3, .int v4, .int v5, wv6] [.int 0] σ)) else Q (some (.int v3)) σ) := by
  refine Eq.trans (e_iload dX1_freeRows_8 rfl) ?_
  refine Eq.trans (e_iload_n dX1_freeRows_10 rfl) ?_
  refine Eq.trans (e_ic_ge (t := 55) dX1_freeRows_11 (by decide)) (g_ite ?_ ?_)
  · refine Eq.trans (e_aload_n dX1_freeRows_14 rfl) ?_
    refine Eq.trans (e_getr (b := a0 + 1) dX1_freeRows_15 fl_1_9 (kX1 h0) (sX1_0 h0)) ?_
    refine Eq.trans (e_iload dX1_freeRows_18 rfl) ?_
    refine Eq.trans (e_iald dX1_freeRows_20 (aX1_0 h0) (nX1_0 h0)) (g_cj ?_)
    refine Eq.trans (e_iconst (x := (-1)) dX1_freeRows_21 (by decide)) ?_
    refine Eq.trans (e_ic_ne (t := 29) dX1_freeRows_22 (by decide)) (g_ite ?_ ?_)
    · refine Eq.trans (e_iconst (x := 1) dX1_freeRows_25 (by decide)) ?_
      refine Eq.trans (e_goto (t := 30) dX1_freeRows_26 (by decide)) ?_
      rfl
    · refine Eq.trans (e_iconst (x := 0) dX1_freeRows_29 (by decide)) ?_
      rfl
  · refine Eq.trans (e_iload_n dX1_freeRows_55 rfl) ?_
    exact e_ireti dX1_freeRows_56 rfl
theorem BX1_freeRows_30 {C : gC} {G : gG} {Q : gK} {σ : gM} {a0 : Nat} {v1 : Int32} {v2 : Int32} {v3 : Int32} {v4 : Int32} {v5 : Int32} {wv6 : Value} {s0 : Int32} (h0 : isX1 G a0) : gw C G mX1_freeRows Q 30 [.ref a0, .int v1, .int v2, .int v3, .int v4, .int v5, wv6] [.int s0] σ = (if s0 = 0 then gw C G mX1_freeRows Q 8 [.ref a0, .int v1, .int v2, .int v3, .int s0, .int (v5 + 1), .int s0] [] σ else (if v4 = 0 then gw C G mX1_freeRows Q 8 [.ref a0, .int v1, .int v2, .int (v3 + 1), .int s0, .int (v5 + 1), .int s0] [] σ else gw C G mX1_freeRows Q 8 [.ref a0, .int v1, .int v2, .int v3, .int s0, .int (v5 + 1), .int s0] [] σ)) := by
  refine Eq.trans (e_istore dX1_freeRows_30 (Nat.le_of_ble_eq_true rfl)) ?_
  refine Eq.trans (e_iload dX1_freeRows_32 rfl) ?_
  refine Eq.trans (e_if_eq (t := 45) dX1_freeRows_34 (by decide)) (g_ite ?_ ?_)
  · refine Eq.trans (e_iload dX1_freeRows_45 rfl) ?_
    refine Eq.trans (e_istore dX1_freeRows_47 (Nat.le_of_ble_eq_true rfl)) ?_
    refine Eq.trans (e_iinc (y := 1) dX1_freeRows_49 rfl (by decide)) ?_
    refine Eq.trans (e_goto (t := 8) dX1_freeRows_52 (by decide)) ?_
    rfl
  · refine Eq.trans (e_iload dX1_freeRows_37 rfl) ?_
    refine Eq.trans (e_if_ne (t := 45) dX1_freeRows_39 (by decide)) (g_ite ?_ ?_)
    · refine Eq.trans (e_iinc (y := 1) dX1_freeRows_42 rfl (by decide)) ?_
      refine Eq.trans (e_iload dX1_freeRows_45 rfl) ?_
      refine Eq.trans (e_istore dX1_freeRows_47 (Nat.le_of_ble_eq_true rfl)) ?_
      refine Eq.trans (e_iinc (y := 1) dX1_freeRows_49 rfl (by decide)) ?_
      refine Eq.trans (e_goto (t := 8) dX1_freeRows_52 (by decide)) ?_
      rfl
    · refine Eq.trans (e_iload dX1_freeRows_45 rfl) ?_
      refine Eq.trans (e_istore dX1_freeRows_47 (Nat.le_of_ble_eq_true rfl)) ?_
      refine Eq.trans (e_iinc (y := 1) dX1_freeRows_49 rfl (by decide)) ?_
      refine Eq.trans (e_goto (t := 8) dX1_freeRows_52 (by decide)) ?_
      rfl
theorem BX5_copyFrom_0 {C : gC} {G : gG} {Q : gK} {σ : gM} {a0 : Nat} {a1 : Nat} (h0 : isX5 G a0) (h1 : isX5 G a1) : gw C G mX5_copyFrom Q 0 [.ref a0, .ref a1] [] σ = gw C G mX5_copyFrom Q 8 [.ref a0, .ref a1] [] (g_up σ a0 0 (σ a1 0)) := by
  refine Eq.trans (e_aload_n dX5_copyFrom_0 rfl) ?_
  refine Eq.trans (e_aload_n dX5_copyFrom_1 rfl) ?_
  refine Eq.trans (e_geti dX5_copyFrom_2 fl_5_21 (kX5 h1)) ?_
  refine Eq.trans (e_puti dX5_copyFrom_5 fl_5_21 (kX5 h0)) ?_
  rfl
theorem BX5_copyFrom_8 {C : gC} {G : gG} {Q : gK} {σ : gM} {a0 : Nat} {a1 : Nat} (h0 : isX5 G a0) (h1 : isX5 G a1) : gw C G mX5_copyFrom Q 8 [.ref a0, .ref a1] [] σ = (g_inv C mX9_copyAll [.ref (a1 + 1), .ref (a0 + 1)] σ fun r σ' => gw C G mX5_copyFrom Q 19 [.ref a0, .ref a1] (r.toList ++ []) σ') := by
  refine Eq.trans (e_aload_n dX5_copyFrom_8 rfl) ?_
  refine Eq.trans (e_getr (b := a1 + 1) dX5_copyFrom_9 fl_5_9 (kX5 h1) (sX5_1 h1)) ?_
  refine Eq.trans (e_aload_n dX5_copyFrom_12 rfl) ?_
  refine Eq.trans (e_getr (b := a0 + 1) dX5_copyFrom_13 fl_5_9 (kX5 h0) (sX5_1 h0)) ?_
  exact e_invs dX5_copyFrom_16 cl_5_37 (by decide) (by simp) rfl rfl (by simp)
theorem BX5_copyFrom_19 {C : gC} {G : gG} {Q : gK} {σ : gM} {a0 : Nat} {a1 : Nat} (h0 : isX5 G a0) (h1 : isX5 G a1) : gw C G mX5_copyFrom Q 19 [.ref a0, .ref a1] [] σ = (g_inv C mX9_copyAll [.ref (a1 + 2), .ref (a0 + 2)] σ fun r σ' => gw C G mX5_copyFrom Q 30 [.ref a0, .ref a1] (r.toList ++ []) σ') := by
  refine Eq.trans (e_aload_n dX5_copyFrom_19 rfl) ?_
  refine Eq.trans (e_getr (b := a1 + 2) dX5_copyFrom_20 fl_5_15 (kX5 h1) (sX5_2 h1)) ?_
  refine Eq.trans (e_aload_n dX5_copyFrom_23 rfl) ?_
  refine Eq.trans (e_getr (b := a0 + 2) dX5_copyFrom_24 fl_5_15 (kX5 h0) (sX5_2 h0)) ?_
  exact e_invs dX5_copyFrom_27 cl_5_37 (by decide) (by simp) rfl rfl (by simp)
theorem BX5_copyFrom_30 {C : gC} {G : gG} {Q : gK} {σ : gM} {a0 : Nat} {a1 : Nat} (h0 : isX5 G a0) (h1 : isX5 G a1) : gw C G mX5_copyFrom Q 30 [.ref a0, .ref a1] [] σ = (g_inv C mX9_copyAll [.ref (a1 + 3), .ref (a0 + 3)] σ fun r σ' => gw C G mX5_copyFrom Q 41 [.ref a0, .ref a1] (r.toList ++ []) σ') := by
  refine Eq.trans (e_aload_n dX5_copyFrom_30 rfl) ?_
  refine Eq.trans (e_getr (b := a1 + 3) dX5_copyFrom_31 fl_5_18 (kX5 h1) (sX5_3 h1)) ?_
  refine Eq.trans (e_aload_n dX5_copyFrom_34 rfl) ?_
  refine Eq.trans (e_getr (b := a0 + 3) dX5_copyFrom_35 fl_5_18 (kX5 h0) (sX5_3 h0)) ?_
  exact e_invs dX5_copyFrom_38 cl_5_37 (by decide) (by simp) rfl rfl (by simp)
theorem BX5_copyFrom_41 {C : gC} {G : gG} {Q : gK} {σ : gM} {a0 : Nat} {a1 : Nat} (h0 : isX5 G a0) (h1 : isX5 G a1) : gw C G mX5_copyFrom Q 41 [.ref a0, .ref a1] [] σ = Q none σ := by
  exact e_ret dX5_copyFrom_41 rfl
theorem BX1_copyFrom_0 {C : gC} {G : gG} {Q : gK} {σ : gM} {a0 : Nat} {a1 : Nat} (h0 : isX1 G a0) (h1 : isX1 G a1) : gw C G mX1_copyFrom Q 0 [.ref a0, .ref a1] [] σ = (g_inv C mX9_copyAll [.ref (a1 + 1), .ref (a0 + 1)] σ fun r σ' => gw C G mX1_copyFrom Q 11 [.ref a0, .ref a1] (r.toList ++ []) σ') := by
  refine Eq.trans (e_aload_n dX1_copyFrom_0 rfl) ?_
  refine Eq.trans (e_getr (b := a1 + 1) dX1_copyFrom_1 fl_1_9 (kX1 h1) (sX1_0 h1)) ?_
  refine Eq.trans (e_aload_n dX1_copyFrom_4 rfl) ?_
  refine Eq.trans (e_getr (b := a0 + 1) dX1_copyFrom_5 fl_1_9 (kX1 h0) (sX1_0 h0)) ?_
  exact e_invs dX1_copyFrom_8 cl_1_48 (by decide) (by simp) rfl rfl (by simp)
theorem BX1_copyFrom_11 {C : gC} {G : gG} {Q : gK} {σ : gM} {a0 : Nat} {a1 : Nat} (h0 : isX1 G a0) (h1 : isX1 G a1) : gw C G mX1_copyFrom Q 11 [.ref a0, .ref a1] [] σ = Q none σ := by
  exact e_ret dX1_copyFrom_11 rfl
theorem BX0_copyFrom_0 {C : gC} {G : gG} {Q : gK} {σ : gM} {a0 : Nat} {a1 : Nat} (h0 : isX0 G a0) (h1 : isX0 G a1) : gw C G mX0_copyFrom Q 0 [.ref a0, .ref a1] [] σ = (g_inv C mX9_copyAll [.ref (a1 + 1), .ref (a0 + 1)] σ fun r σ' => gw C G mX0_copyFrom Q 11 [.ref a0, .ref a1] (r.toList ++ []) σ') := by
  refine Eq.trans (e_aload_n dX0_copyFrom_0 rfl) ?_
  refine Eq.trans (e_getr (b := a1 + 1) dX0_copyFrom_1 fl_0_9 (kX0 h1) (sX0_0 h1)) ?_
  refine Eq.trans (e_aload_n dX0_copyFrom_4 rfl) ?_
  refine Eq.trans (e_getr (b := a0 + 1) dX0_copyFrom_5 fl_0_9 (kX0 h0) (sX0_0 h0)) ?_
  exact e_invs dX0_copyFrom_8 cl_0_46 (by decide) (by simp) rfl rfl (by simp)
theorem BX0_copyFrom_11 {C : gC} {G : gG} {Q : gK} {σ : gM} {a0 : Nat} {a1 : Nat} (h0 : isX0 G a0) (h1 : isX0 G a1) : gw C G mX0_copyFrom Q 11 [.ref a0, .ref a1] [] σ = (g_inv C mX9_copyAll [.ref (a1 + 2), .ref (a0 + 2)] σ fun r σ' => gw C G mX0_copyFrom Q 22 [.ref a0, .ref a1] (r.toList ++ []) σ') := by
  refine Eq.trans (e_aload_n dX0_copyFrom_11 rfl) ?_
  refine Eq.trans (e_getr (b := a1 + 2) dX0_copyFrom_12 fl_0_15 (kX0 h1) (sX0_1 h1)) ?_
  refine Eq.trans (e_aload_n dX0_copyFrom_15 rfl) ?_
  refine Eq.trans (e_getr (b := a0 + 2) dX0_copyFrom_16 fl_0_15 (kX0 h0) (sX0_1 h0)) ?_
  exact e_invs dX0_copyFrom_19 cl_0_46 (by decide) (by simp) rfl rfl (by simp)
theorem BX0_copyFrom_22 {C : gC} {G : gG} {Q : gK} {σ : gM} {a0 : Nat} {a1 : Nat} (h0 : isX0 G a0) (h1 : isX0 G a1) : gw C G mX0_copyFrom Q 22 [.ref a0, .ref a1] [] σ = (g_inv C mX9_copyAll [.ref (a1 + 3), .ref (a0 + 3)] σ fun r σ' => gw C G mX0_copyFrom Q 33 [.ref a0, .ref a1] (r.toList ++ []) σ') := by
  refine Eq.trans (e_aload_n dX0_copyFrom_22 rfl) ?_
  refine Eq.trans (e_getr (b := a1 + 3) dX0_copyFrom_23 fl_0_18 (kX0 h1) (sX0_2 h1)) ?_
  refine Eq.trans (e_aload_n dX0_copyFrom_26 rfl) ?_
  refine Eq.trans (e_getr (b := a0 + 3) dX0_copyFrom_27 fl_0_18 (kX0 h0) (sX0_2 h0)) ?_
  exact e_invs dX0_copyFrom_30 cl_0_46 (by decide) (by simp) rfl rfl (by simp)
theorem BX0_copyFrom_33 {C : gC} {G : gG} {Q : gK} {σ : gM} {a0 : Nat} {a1 : Nat} (h0 : isX0 G a0) (h1 : isX0 G a1) : gw C G mX0_copyFrom Q 33 [.ref a0, .ref a1] [] σ = (g_inv C mX9_copyAll [.ref (a1 + 4), .ref (a0 + 4)] σ fun r σ' => gw C G mX0_copyFrom Q 44 [.ref a0, .ref a1] (r.toList ++ []) σ') := by
  refine Eq.trans (e_aload_n dX0_copyFrom_33 rfl) ?_
  refine Eq.trans (e_getr (b := a1 + 4) dX0_copyFrom_34 fl_0_21 (kX0 h1) (sX0_3 h1)) ?_
  refine Eq.trans (e_aload_n dX0_copyFrom_37 rfl) ?_
  refine Eq.trans (e_getr (b := a0 + 4) dX0_copyFrom_38 fl_0_21 (kX0 h0) (sX0_3 h0)) ?_
  exact e_invs dX0_copyFrom_41 cl_0_46 (by decide) (by simp) rfl rfl (by simp)
theorem BX0_copyFrom_44 {C : gC} {G : gG} {Q : gK} {σ : gM} {a0 : Nat} {a1 : Nat} (h0 : isX0 G a0) (h1 : isX0 G a1) : gw C G mX0_copyFrom Q 44 [.ref a0, .ref a1] [] σ = (g_inv C mX9_copyAll [.ref (a1 + 5), .ref (a0 + 5)] σ fun r σ' => gw C G mX0_copyFrom Q 55 [.ref a0, .ref a1] (r.toList ++ []) σ') := by
  refine Eq.trans (e_aload_n dX0_copyFrom_44 rfl) ?_
  refine Eq.trans (e_getr (b := a1 + 5) dX0_copyFrom_45 fl_0_24 (kX0 h1) (sX0_4 h1)) ?_
  refine Eq.trans (e_aload_n dX0_copyFrom_48 rfl) ?_
  refine Eq.trans (e_getr (b := a0 + 5) dX0_copyFrom_49 fl_0_24 (kX0 h0) (sX0_4 h0)) ?_
  exact e_invs dX0_copyFrom_52 cl_0_46 (by decide) (by simp) rfl rfl (by simp)
theorem BX0_copyFrom_55 {C : gC} {G : gG} {Q : gK} {σ : gM} {a0 : Nat} {a1 : Nat} (h0 : isX0 G a0) (h1 : isX0 G a1) : gw C G mX0_copyFrom Q 55 [.ref a0, .ref a1] [] σ = (g_inv C mX9_copyAll [.ref (a1 + 6), .ref (a0 + 6)] σ fun r σ' => gw C G mX0_copyFrom Q 66 [.ref a0, .ref a1] (r.toList ++ []) σ') := by
  refine Eq.trans (e_aload_n dX0_copyFrom_55 rfl) ?_
  refine Eq.trans (e_getr (b := a1 + 6) dX0_copyFrom_56 fl_0_27 (kX0 h1) (sX0_5 h1)) ?_
  refine Eq.trans (e_aload_n dX0_copyFrom_59 rfl) ?_
  refine Eq.trans (e_getr (b := a0 + 6) dX0_copyFrom_60 fl_0_27 (kX0 h0) (sX0_5 h0)) ?_
  exact e_invs dX0_copyFrom_63 cl_0_46 (by decide) (by simp) rfl rfl (by simp)
theorem BX0_copyFrom_66 {C : gC} {G : gG} {Q : gK} {σ : gM} {a0 : Nat} {a1 : Nat} (h0 : isX0 G a0) (h1 : isX0 G a1) : gw C G mX0_copyFrom Q 66 [.ref a0, .ref a1] [] σ = (g_inv C mX9_copyAll [.ref (a1 + 7), .ref (a0 + 7)] σ fun r σ' => gw C G mX0_copyFrom Q 77 [.ref a0, .ref a1] (r.toList ++ []) σ') := by
  refine Eq.trans (e_aload_n dX0_copyFrom_66 rfl) ?_
  refine Eq.trans (e_getr (b := a1 + 7) dX0_copyFrom_67 fl_0_30 (kX0 h1) (sX0_6 h1)) ?_
  refine Eq.trans (e_aload_n dX0_copyFrom_70 rfl) ?_
  refine Eq.trans (e_getr (b := a0 + 7) dX0_copyFrom_71 fl_0_30 (kX0 h0) (sX0_6 h0)) ?_
  exact e_invs dX0_copyFrom_74 cl_0_46 (by decide) (by simp) rfl rfl (by simp)
theorem BX0_copyFrom_77 {C : gC} {G : gG} {Q : gK} {σ : gM} {a0 : Nat} {a1 : Nat} (h0 : isX0 G a0) (h1 : isX0 G a1) : gw C G mX0_copyFrom Q 77 [.ref a0, .ref a1] [] σ = (g_inv C mX9_copyAll [.ref (a1 + 8), .ref (a0 + 8)] σ fun r σ' => gw C G mX0_copyFrom Q 88 [.ref a0, .ref a1] (r.toList ++ []) σ') := by
  refine Eq.trans (e_aload_n dX0_copyFrom_77 rfl) ?_
  refine Eq.trans (e_getr (b := a1 + 8) dX0_copyFrom_78 fl_0_33 (kX0 h1) (sX0_7 h1)) ?_
  refine Eq.trans (e_aload_n dX0_copyFrom_81 rfl) ?_
  refine Eq.trans (e_getr (b := a0 + 8) dX0_copyFrom_82 fl_0_33 (kX0 h0) (sX0_7 h0)) ?_
  exact e_invs dX0_copyFrom_85 cl_0_46 (by decide) (by simp) rfl rfl (by simp)
theorem BX0_copyFrom_88 {C : gC} {G : gG} {Q : gK} {σ : gM} {a0 : Nat} {a1 : Nat} (h0 : isX0 G a0) (h1 : isX0 G a1) : gw C G mX0_copyFrom Q 88 [.ref a0, .ref a1] [] σ = (g_inv C mX9_copyAll [.ref (a1 + 9), .ref (a0 + 9)] σ fun r σ' => gw C G mX0_copyFrom Q 99 [.ref a0, .ref a1] (r.toList ++ []) σ') := by
  refine Eq.trans (e_aload_n dX0_copyFrom_88 rfl) ?_
  refine Eq.trans (e_getr (b := a1 + 9) dX0_copyFrom_89 fl_0_36 (kX0 h1) (sX0_8 h1)) ?_
  refine Eq.trans (e_aload_n dX0_copyFrom_92 rfl) ?_
  refine Eq.trans (e_getr (b := a0 + 9) dX0_copyFrom_93 fl_0_36 (kX0 h0) (sX0_8 h0)) ?_
  exact e_invs dX0_copyFrom_96 cl_0_46 (by decide) (by simp) rfl rfl (by simp)
theorem BX0_copyFrom_99 {C : gC} {G : gG} {Q : gK} {σ : gM} {a0 : Nat} {a1 : Nat} (h0 : isX0 G a0) (h1 : isX0 G a1) : gw C G mX0_copyFrom Q 99 [.ref a0, .ref a1] [] σ = Q none σ := by
  exact e_ret dX0_copyFrom_99 rfl
theorem BX6_copyFrom_0 {C : gC} {G : gG} {Q : gK} {σ : gM} {a0 : Nat} {a1 : Nat} (h0 : isX6 G a0) (h1 : isX6 G a1) : gw C G mX6_copyFrom Q 0 [.ref a0, .ref a1] [] σ = gw C G mX6_copyFrom Q 8 [.ref a0, .ref a1] [] (g_up σ a0 0 (σ a1 0)) := by
  refine Eq.trans (e_aload_n dX6_copyFrom_0 rfl) ?_
  refine Eq.trans (e_aload_n dX6_copyFrom_1 rfl) ?_
  refine Eq.trans (e_geti dX6_copyFrom_2 fl_6_15 (kX6 h1)) ?_
  refine Eq.trans (e_puti dX6_copyFrom_5 fl_6_15 (kX6 h0)) ?_
  rfl
theorem BX6_copyFrom_8 {C : gC} {G : gG} {Q : gK} {σ : gM} {a0 : Nat} {a1 : Nat} (h0 : isX6 G a0) (h1 : isX6 G a1) : gw C G mX6_copyFrom Q 8 [.ref a0, .ref a1] [] σ = (g_inv C mX9_copyAll [.ref (a1 + 1), .ref (a0 + 1)] σ fun r σ' => gw C G mX6_copyFrom Q 19 [.ref a0, .ref a1] (r.toList ++ []) σ') := by
  refine Eq.trans (e_aload_n dX6_copyFrom_8 rfl) ?_
  refine Eq.trans (e_getr (b := a1 + 1) dX6_copyFrom_9 fl_6_9 (kX6 h1) (sX6_1 h1)) ?_
  refine Eq.trans (e_aload_n dX6_copyFrom_12 rfl) ?_
  refine Eq.trans (e_getr (b := a0 + 1) dX6_copyFrom_13 fl_6_9 (kX6 h0) (sX6_1 h0)) ?_
  exact e_invs dX6_copyFrom_16 cl_6_19 (by decide) (by simp) rfl rfl (by simp)
theorem BX6_copyFrom_19 {C : gC} {G : gG} {Q : gK} {σ : gM} {a0 : Nat} {a1 : Nat} (h0 : isX6 G a0) (h1 : isX6 G a1) : gw C G mX6_copyFrom Q 19 [.ref a0, .ref a1] [] σ = Q none σ := by
  exact e_ret dX6_copyFrom_19 rfl
theorem BX8_from_0 {C : gC} {G : gG} {Q : gK} {σ : gM} {a0 : Nat} {a1 : Nat} {v2 : Int32} (h0 : isX8 G a0) (h1 : isX3 G a1) : gw C G mX8_from Q 0 [.ref a0, .ref a1, .int v2] [] σ = (g_inv C mX8_begin [.ref a0] σ fun r σ' => gw C G mX8_from Q 4 [.ref a0, .ref a1, .int v2] (r.toList ++ []) σ') := by
  refine Eq.trans (e_aload_n dX8_from_0 rfl) ?_
  exact e_invv dX8_from_1 cl_8_18 (kX8 h0) (by simp) rfl rfl (by simp)
theorem BX8_from_4 {C : gC} {G : gG} {Q : gK} {σ : gM} {a0 : Nat} {a1 : Nat} {v2 : Int32} (h0 : isX8 G a0) (h1 : isX3 G a1) : gw C G mX8_from Q 4 [.ref a0, .ref a1, .int v2] [] σ = (g_inv C mX8_comeTo [.ref a0, .int v2, .int 0] σ fun r σ' => gw C G mX8_from Q 10 [.ref a0, .ref a1, .int v2] (r.toList ++ []) σ') := by
  refine Eq.trans (e_aload_n dX8_from_4 rfl) ?_
  refine Eq.trans (e_iload_n dX8_from_5 rfl) ?_
  refine Eq.trans (e_iconst (x := 0) dX8_from_6 (by decide)) ?_
  exact e_invv dX8_from_7 cl_8_38 (kX8 h0) (by simp) rfl rfl (by simp)
theorem BX8_from_10 {C : gC} {G : gG} {Q : gK} {σ : gM} {a0 : Nat} {a1 : Nat} {v2 : Int32} (h0 : isX8 G a0) (h1 : isX3 G a1) : gw C G mX8_from Q 10 [.ref a0, .ref a1, .int v2] [] σ = (g_inv C mX8_goOn [.ref a0, .ref a1] σ fun r σ' => gw C G mX8_from Q 15 [.ref a0, .ref a1, .int v2] (r.toList ++ []) σ') := by
  refine Eq.trans (e_aload_n dX8_from_10 rfl) ?_
  refine Eq.trans (e_aload_n dX8_from_11 rfl) ?_
  exact e_invv dX8_from_12 cl_8_42 (kX8 h0) (by simp) rfl rfl (by simp)
theorem BX8_from_15 {C : gC} {G : gG} {Q : gK} {σ : gM} {a0 : Nat} {a1 : Nat} {v2 : Int32} (h0 : isX8 G a0) (h1 : isX3 G a1) : gw C G mX8_from Q 15 [.ref a0, .ref a1, .int v2] [] σ = Q none σ := by
  exact e_ret dX8_from_15 rfl
theorem BX2_faultAsRow_0 {C : gC} {G : gG} {Q : gK} {σ : gM} {a0 : Nat} {v1 : Int32} (h0 : isX2 G a0) : gw C G mX2_faultAsRow Q 0 [.ref a0, .int v1] [] σ = (vp_in v1 6 ∧ (if (σ (a0 + 1) v1.toNatClampNeg) = 2 then Q (some (.int 0)) σ else (vp_in v1 6 ∧ (if (σ (a0 + 1) v1.toNatClampNeg) = 0 then Q (some (.int (-11))) σ else Q (some (.int (-12))) σ)))) := by
  refine Eq.trans (e_aload_n dX2_faultAsRow_0 rfl) ?_
  refine Eq.trans (e_getr (b := a0 + 1) dX2_faultAsRow_1 fl_2_9 (kX2 h0) (sX2_0 h0)) ?_
  refine Eq.trans (e_iload_n dX2_faultAsRow_4 rfl) ?_
  refine Eq.trans (e_iald dX2_faultAsRow_5 (aX2_0 h0) (nX2_0 h0)) (g_cj ?_)
  refine Eq.trans (e_iconst (x := 2) dX2_faultAsRow_6 (by decide)) ?_
  refine Eq.trans (e_ic_ne (t := 12) dX2_faultAsRow_7 (by decide)) (g_ite ?_ ?_)
  · refine Eq.trans (e_iconst (x := 0) dX2_faultAsRow_10 (by decide)) ?_
    exact e_ireti dX2_faultAsRow_11 rfl
  · refine Eq.trans (e_aload_n dX2_faultAsRow_12 rfl) ?_
    refine Eq.trans (e_getr (b := a0 + 1) dX2_faultAsRow_13 fl_2_9 (kX2 h0) (sX2_0 h0)) ?_
    refine Eq.trans (e_iload_n dX2_faultAsRow_16 rfl) ?_
    refine Eq.trans (e_iald dX2_faultAsRow_17 (aX2_0 h0) (nX2_0 h0)) (g_cj ?_)
    refine Eq.trans (e_if_ne (t := 26) dX2_faultAsRow_18 (by decide)) (g_ite ?_ ?_)
    · refine Eq.trans (e_bipush (x := (-11)) dX2_faultAsRow_21 (by decide)) ?_
      refine Eq.trans (e_goto (t := 28) dX2_faultAsRow_23 (by decide)) ?_
      exact e_ireti dX2_faultAsRow_28 rfl
    · refine Eq.trans (e_bipush (x := (-12)) dX2_faultAsRow_26 (by decide)) ?_
      exact e_ireti dX2_faultAsRow_28 rfl
theorem BX2_item_0 {C : gC} {G : gG} {Q : gK} {σ : gM} {a0 : Nat} {v1 : Int32} {v2 : Int32} (h0 : isX2 G a0) : gw C G mX2_item Q 0 [.ref a0, .int v1, .int v2] [] σ = (vp_in ((60 * v1) + v2) 360 ∧ Q (some (.int (σ (a0 + 4) ((60 * v1) + v2).toNatClampNeg))) σ) := by
  refine Eq.trans (e_aload_n dX2_item_0 rfl) ?_
  refine Eq.trans (e_getr (b := a0 + 4) dX2_item_1 fl_2_21 (kX2 h0) (sX2_3 h0)) ?_
  refine Eq.trans (e_bipush (x := 60) dX2_item_4 (by decide)) ?_
  refine Eq.trans (e_iload_n dX2_item_6 rfl) ?_
  refine Eq.trans (e_imul dX2_item_7) ?_
  refine Eq.trans (e_iload_n dX2_item_8 rfl) ?_
  refine Eq.trans (e_iadd dX2_item_9) ?_
  refine Eq.trans (e_iald dX2_item_10 (aX2_3 h0) (nX2_3 h0)) (g_cj ?_)
  exact e_ireti dX2_item_11 rfl
theorem BX4_dropFrom_0 {C : gC} {G : gG} {Q : gK} {σ : gM} {a0 : Nat} {a1 : Nat} {v2 : Int32} (h0 : isX4 G a0) (h1 : isX1 G a1) : gw C G mX4_dropFrom Q 0 [.ref a0, .ref a1, .int v2, .long 0] [] σ = (if v2 < 0 then (if v2 < (-(σ a0 0)) then Q (some (.int 0)) σ else (vp_in ((-1) - v2) 60 ∧ (if (σ (a0 + 2) ((-1) - v2).toNatClampNeg) = 0 then Q (some (.int 0)) σ else (vp_in ((-1) - v2) 60 ∧ (vp_in ((-1) - v2) 60 ∧ (g_inv C mX1_release [.ref a1, .int (σ (a0 + 1) ((-1) - v2).toNatClampNeg), .int (σ (a0 + 2) ((-1) - v2).toNatClampNeg)] σ fun r σ' => gw C G mX4_dropFrom Q 46 [.ref a0, .ref a1, .int v2, .int ((-1) - v2)] (r.toList ++ []) σ')))))) else Q (some (.int 0)) σ) := by
  refine Eq.trans (e_iload_n dX4_dropFrom_0 rfl) ?_
  refine Eq.trans (e_if_ge (t := 13) dX4_dropFrom_1 (by decide)) (g_ite ?_ ?_)
  · refine Eq.trans (e_iload_n dX4_dropFrom_4 rfl) ?_
    refine Eq.trans (e_aload_n dX4_dropFrom_5 rfl) ?_
    refine Eq.trans (e_geti dX4_dropFrom_6 fl_4_18 (kX4 h0)) ?_
    refine Eq.trans (e_ineg dX4_dropFrom_9) ?_
    refine Eq.trans (e_ic_ge (t := 15) dX4_dropFrom_10 (by decide)) (g_ite ?_ ?_)
    · refine Eq.trans (e_iconst (x := 0) dX4_dropFrom_13 (by decide)) ?_
      exact Eq.trans (e_iretz dX4_dropFrom_14 rfl) (g_and (by decide))
    · refine Eq.trans (e_iconst (x := (-1)) dX4_dropFrom_15 (by decide)) ?_
      refine Eq.trans (e_iload_n dX4_dropFrom_16 rfl) ?_
      refine Eq.trans (e_isub dX4_dropFrom_17) ?_
      refine Eq.trans (e_istore_n dX4_dropFrom_18 (Nat.le_of_ble_eq_true rfl)) ?_
      refine Eq.trans (e_aload_n dX4_dropFrom_19 rfl) ?_
      refine Eq.trans (e_getr (b := a0 + 2) dX4_dropFrom_20 fl_4_15 (kX4 h0) (sX4_2 h0)) ?_
      refine Eq.trans (e_iload_n dX4_dropFrom_23 rfl) ?_
      refine Eq.trans (e_iald dX4_dropFrom_24 (aX4_2 h0) (nX4_2 h0)) (g_cj ?_)
      refine Eq.trans (e_if_ne (t := 30) dX4_dropFrom_25 (by decide)) (g_ite ?_ ?_)
      · refine Eq.trans (e_iconst (x := 0) dX4_dropFrom_28 (by decide)) ?_
        exact Eq.trans (e_iretz dX4_dropFrom_29 rfl) (g_and (by decide))
      · refine Eq.trans (e_aload_n dX4_dropFrom_30 rfl) ?_
        refine Eq.trans (e_aload_n dX4_dropFrom_31 rfl) ?_
        refine Eq.trans (e_getr (b := a0 + 1) dX4_dropFrom_32 fl_4_9 (kX4 h0) (sX4_1 h0)) ?_
        refine Eq.trans (e_iload_n dX4_dropFrom_35 rfl) ?_
        refine Eq.trans (e_iald dX4_dropFrom_36 (aX4_1 h0) (nX4_1 h0)) (g_cj ?_)
        refine Eq.trans (e_aload_n dX4_dropFrom_37 rfl) ?_
        refine Eq.trans (e_getr (b := a0 + 2) dX4_dropFrom_38 fl_4_15 (kX4 h0) (sX4_2 h0)) ?_
        refine Eq.trans (e_iload_n dX4_dropFrom_41 rfl) ?_
        refine Eq.trans (e_iald dX4_dropFrom_42 (aX4_2 h0) (nX4_2 h0)) (g_cj ?_)
        exact e_invv dX4_dropFrom_43 cl_4_28 (kX1 h1) (by simp) rfl rfl (by simp)
  · refine Eq.trans (e_iconst (x := 0) dX4_dropFrom_13 (by decide)) ?_
    exact Eq.trans (e_iretz dX4_dropFrom_14 rfl) (g_and (by decide))
theorem BX4_dropFrom_46 {C : gC} {G : gG} {Q : gK} {σ : gM} {a0 : Nat} {a1 : Nat} {v2 : Int32} {v3 : Int32} (h0 : isX4 G a0) (h1 : isX1 G a1) : gw C G mX4_dropFrom Q 46 [.ref a0, .ref a1, .int v2, .int v3] [] σ = (vp_in v3 60 ∧ Q (some (.int 1)) (g_up σ (a0 + 2) v3.toNatClampNeg 0)) := by
  refine Eq.trans (e_aload_n dX4_dropFrom_46 rfl) ?_
  refine Eq.trans (e_getr (b := a0 + 2) dX4_dropFrom_47 fl_4_15 (kX4 h0) (sX4_2 h0)) ?_
  refine Eq.trans (e_iload_n dX4_dropFrom_50 rfl) ?_
  refine Eq.trans (e_iconst (x := 0) dX4_dropFrom_51 (by decide)) ?_
  refine Eq.trans (e_iast dX4_dropFrom_52 (aX4_2 h0) (nX4_2 h0)) (g_cj ?_)
  refine Eq.trans (e_iconst (x := 1) dX4_dropFrom_53 (by decide)) ?_
  exact Eq.trans (e_iretz dX4_dropFrom_54 rfl) (g_and (by decide))
theorem BX4_putOn_0 {C : gC} {G : gG} {Q : gK} {σ : gM} {a0 : Nat} {a1 : Nat} {v2 : Int32} {v3 : Int32} (h0 : isX4 G a0) (h1 : isX1 G a1) : gw C G mX4_putOn Q 0 [.ref a0, .ref a1, .int v2, .int v3] [] σ = (if (σ a0 0) < 60 then (vp_in (σ a0 0) 60 ∧ gw C G mX4_putOn Q 21 [.ref a0, .ref a1, .int v2, .int v3] [] (g_up σ (a0 + 1) (σ a0 0).toNatClampNeg v2)) else Q (some (.int 0)) σ) := by
  refine Eq.trans (e_aload_n dX4_putOn_0 rfl) ?_
  refine Eq.trans (e_geti dX4_putOn_1 fl_4_18 (kX4 h0)) ?_
  refine Eq.trans (e_bipush (x := 60) dX4_putOn_4 (by decide)) ?_
  refine Eq.trans (e_ic_lt (t := 11) dX4_putOn_6 (by decide)) (g_ite ?_ ?_)
  · refine Eq.trans (e_aload_n dX4_putOn_11 rfl) ?_
    refine Eq.trans (e_getr (b := a0 + 1) dX4_putOn_12 fl_4_9 (kX4 h0) (sX4_1 h0)) ?_
    refine Eq.trans (e_aload_n dX4_putOn_15 rfl) ?_
    refine Eq.trans (e_geti dX4_putOn_16 fl_4_18 (kX4 h0)) ?_
    refine Eq.trans (e_iload_n dX4_putOn_19 rfl) ?_
    refine Eq.trans (e_iast dX4_putOn_20 (aX4_1 h0) (nX4_1 h0)) (g_cj ?_)
    rfl
  · refine Eq.trans (e_iconst (x := 0) dX4_putOn_9 (by decide)) ?_
    exact Eq.trans (e_iretz dX4_putOn_10 rfl) (g_and (by decide))
theorem BX4_putOn_21 {C : gC} {G : gG} {Q : gK} {σ : gM} {a0 : Nat} {a1 : Nat} {v2 : Int32} {v3 : Int32} (h0 : isX4 G a0) (h1 : isX1 G a1) : gw C G mX4_putOn Q 21 [.ref a0, .ref a1, .int v2, .int v3] [] σ = (vp_in (σ a0 0) 60 ∧ gw C G mX4_putOn Q 31 [.ref a0, .ref a1, .int v2, .int v3] [] (g_up σ (a0 + 2) (σ a0 0).toNatClampNeg v3)) := by
  refine Eq.trans (e_aload_n dX4_putOn_21 rfl) ?_
  refine Eq.trans (e_getr (b := a0 + 2) dX4_putOn_22 fl_4_15 (kX4 h0) (sX4_2 h0)) ?_
  refine Eq.trans (e_aload_n dX4_putOn_25 rfl) ?_
  refine Eq.trans (e_geti dX4_putOn_26 fl_4_18 (kX4 h0)) ?_
  refine Eq.trans (e_iload_n dX4_putOn_29 rfl) ?_
  refine Eq.trans (e_iast dX4_putOn_30 (aX4_2 h0) (nX4_2 h0)) (g_cj ?_)
  rfl
theorem BX4_putOn_31 {C : gC} {G : gG} {Q : gK} {σ : gM} {a0 : Nat} {a1 : Nat} {v2 : Int32} {v3 : Int32} (h0 : isX4 G a0) (h1 : isX1 G a1) : gw C G mX4_putOn Q 31 [.ref a0, .ref a1, .int v2, .int v3] [] σ = gw C G mX4_putOn Q 41 [.ref a0, .ref a1, .int v2, .int v3] [] (g_up σ a0 0 ((σ a0 0) + 1)) := by
  refine Eq.trans (e_aload_n dX4_putOn_31 rfl) ?_
  refine Eq.trans (e_dup dX4_putOn_32) ?_
  refine Eq.trans (e_geti dX4_putOn_33 fl_4_18 (kX4 h0)) ?_
  refine Eq.trans (e_iconst (x := 1) dX4_putOn_36 (by decide)) ?_
  refine Eq.trans (e_iadd dX4_putOn_37) ?_
  refine Eq.trans (e_puti dX4_putOn_38 fl_4_18 (kX4 h0)) ?_
  rfl
theorem BX4_putOn_41 {C : gC} {G : gG} {Q : gK} {σ : gM} {a0 : Nat} {a1 : Nat} {v2 : Int32} {v3 : Int32} (h0 : isX4 G a0) (h1 : isX1 G a1) : gw C G mX4_putOn Q 41 [.ref a0, .ref a1, .int v2, .int v3] [] σ = (g_inv C mX1_take [.ref a1, .int v2, .int v3, .int 30] σ fun r σ' => gw C G mX4_putOn Q 49 [.ref a0, .ref a1, .int v2, .int v3] (r.toList ++ []) σ') := by
  refine Eq.trans (e_aload_n dX4_putOn_41 rfl) ?_
  refine Eq.trans (e_iload_n dX4_putOn_42 rfl) ?_
  refine Eq.trans (e_iload_n dX4_putOn_43 rfl) ?_
  refine Eq.trans (e_bipush (x := 30) dX4_putOn_44 (by decide)) ?_
  exact e_invv dX4_putOn_46 cl_4_22 (kX1 h1) (by simp) rfl rfl (by simp)
theorem BX4_putOn_49 {C : gC} {G : gG} {Q : gK} {σ : gM} {a0 : Nat} {a1 : Nat} {v2 : Int32} {v3 : Int32} (h0 : isX4 G a0) (h1 : isX1 G a1) : gw C G mX4_putOn Q 49 [.ref a0, .ref a1, .int v2, .int v3] [] σ = Q (some (.int 1)) σ := by
  refine Eq.trans (e_iconst (x := 1) dX4_putOn_49 (by decide)) ?_
  exact Eq.trans (e_iretz dX4_putOn_50 rfl) (g_and (by decide))
theorem BX7_append_0 {C : gC} {G : gG} {Q : gK} {σ : gM} {a0 : Nat} {v1 : Int32} (h0 : isX7 G a0) : gw C G mX7_append Q 0 [.ref a0, .int v1] [] σ = (if (σ a0 0) < 120 then (vp_in (σ a0 0) 120 ∧ gw C G mX7_append Q 21 [.ref a0, .int v1] [] (g_up σ (a0 + 1) (σ a0 0).toNatClampNeg v1)) else Q (some (.int 0)) σ) := by
  refine Eq.trans (e_aload_n dX7_append_0 rfl) ?_
  refine Eq.trans (e_geti dX7_append_1 fl_7_21 (kX7 h0)) ?_
  refine Eq.trans (e_bipush (x := 120) dX7_append_4 (by decide)) ?_
  refine Eq.trans (e_ic_lt (t := 11) dX7_append_6 (by decide)) (g_ite ?_ ?_)
  · refine Eq.trans (e_aload_n dX7_append_11 rfl) ?_
    refine Eq.trans (e_getr (b := a0 + 1) dX7_append_12 fl_7_9 (kX7 h0) (sX7_1 h0)) ?_
    refine Eq.trans (e_aload_n dX7_append_15 rfl) ?_
    refine Eq.trans (e_geti dX7_append_16 fl_7_21 (kX7 h0)) ?_
    refine Eq.trans (e_iload_n dX7_append_19 rfl) ?_
    refine Eq.trans (e_iast dX7_append_20 (aX7_1 h0) (nX7_1 h0)) (g_cj ?_)
    rfl
  · refine Eq.trans (e_iconst (x := 0) dX7_append_9 (by decide)) ?_
    exact Eq.trans (e_iretz dX7_append_10 rfl) (g_and (by decide))
theorem BX7_append_21 {C : gC} {G : gG} {Q : gK} {σ : gM} {a0 : Nat} {v1 : Int32} (h0 : isX7 G a0) : gw C G mX7_append Q 21 [.ref a0, .int v1] [] σ = Q (some (.int 1)) (g_up σ a0 0 ((σ a0 0) + 1)) := by
  refine Eq.trans (e_aload_n dX7_append_21 rfl) ?_
  refine Eq.trans (e_dup dX7_append_22) ?_
  refine Eq.trans (e_geti dX7_append_23 fl_7_21 (kX7 h0)) ?_
  refine Eq.trans (e_iconst (x := 1) dX7_append_26 (by decide)) ?_
  refine Eq.trans (e_iadd dX7_append_27) ?_
  refine Eq.trans (e_puti dX7_append_28 fl_7_21 (kX7 h0)) ?_
  refine Eq.trans (e_iconst (x := 1) dX7_append_31 (by decide)) ?_
  exact Eq.trans (e_iretz dX7_append_32 rfl) (g_and (by decide))
theorem BX7_hasForm_0 {C : gC} {G : gG} {Q : gK} {σ : gM} {a0 : Nat} (h0 : isX7 G a0) : gw C G mX7_hasForm Q 0 [.ref a0, .long 0] [] σ = gw C G mX7_hasForm Q 5 [.ref a0, .long 0] [] (g_up σ a0 2 0) := by
  refine Eq.trans (e_aload_n dX7_hasForm_0 rfl) ?_
  refine Eq.trans (e_iconst (x := 0) dX7_hasForm_1 (by decide)) ?_
  refine Eq.trans (e_puti dX7_hasForm_2 fl_7_25 (kX7 h0)) ?_
  rfl
theorem BX7_hasForm_5 {C : gC} {G : gG} {Q : gK} {σ : gM} {a0 : Nat} {wv1 : Value} (h0 : isX7 G a0) : gw C G mX7_hasForm Q 5 [.ref a0, wv1] [] σ = gw C G mX7_hasForm Q 12 [.ref a0, .int 0] [] (g_up σ a0 3 0) := by
  refine Eq.trans (e_aload_n dX7_hasForm_5 rfl) ?_
  refine Eq.trans (e_iconst (x := 0) dX7_hasForm_6 (by decide)) ?_
  refine Eq.trans (e_puti dX7_hasForm_7 fl_7_28 (kX7 h0)) ?_
  refine Eq.trans (e_iconst (x := 0) dX7_hasForm_10 (by decide)) ?_
  refine Eq.trans (e_istore_n dX7_hasForm_11 (Nat.le_of_ble_eq_true rfl)) ?_
  rfl
theorem BX7_hasForm_12 {C : gC} {G : gG} {Q : gK} {σ : gM} {a0 : Nat} {v1 : Int32} (h0 : isX7 G a0) : gw C G mX7_hasForm Q 12 [.ref a0, .int v1] [] σ = (if v1 < 60 then (g_inv C mX7_readLine [.ref a0] σ fun r σ' => gw C G mX7_hasForm Q 22 [.ref a0, .int v1] (r.toList ++ []) σ') else Q (some (.int 0)) σ) := by
  refine Eq.trans (e_iload_n dX7_hasForm_12 rfl) ?_
  refine Eq.trans (e_bipush (x := 60) dX7_hasForm_13 (by decide)) ?_
  refine Eq.trans (e_ic_ge (t := 57) dX7_hasForm_15 (by decide)) (g_ite ?_ ?_)
  · refine Eq.trans (e_aload_n dX7_hasForm_18 rfl) ?_
    exact e_invv dX7_hasForm_19 cl_7_31 (kX7 h0) (by simp) rfl rfl (by simp)
  · refine Eq.trans (e_iconst (x := 0) dX7_hasForm_57 (by decide)) ?_
    exact Eq.trans (e_iretz dX7_hasForm_58 rfl) (g_and (by decide))
theorem BX7_hasForm_22 {C : gC} {G : gG} {Q : gK} {σ : gM} {a0 : Nat} {v1 : Int32} {s0 : Int32} (h0 : isX7 G a0) : gw C G mX7_hasForm Q 22 [.ref a0, .int v1] [.int s0] σ = (if s0 = 0 then Q (some (.int 0)) σ else (if (σ a0 2) = (σ a0 0) then Q (some (.int 1)) σ else (g_inv C mX7_readSign [.ref a0, .int 59] σ fun r σ' => gw C G mX7_hasForm Q 46 [.ref a0, .int v1] (r.toList ++ []) σ'))) := by
  refine Eq.trans (e_if_ne (t := 27) dX7_hasForm_22 (by decide)) (g_ite ?_ ?_)
  · refine Eq.trans (e_iconst (x := 0) dX7_hasForm_25 (by decide)) ?_
    exact Eq.trans (e_iretz dX7_hasForm_26 rfl) (g_and (by decide))
  · refine Eq.trans (e_aload_n dX7_hasForm_27 rfl) ?_
    refine Eq.trans (e_geti dX7_hasForm_28 fl_7_25 (kX7 h0)) ?_
    refine Eq.trans (e_aload_n dX7_hasForm_31 rfl) ?_
    refine Eq.trans (e_geti dX7_hasForm_32 fl_7_21 (kX7 h0)) ?_
    refine Eq.trans (e_ic_ne (t := 40) dX7_hasForm_35 (by decide)) (g_ite ?_ ?_)
    · refine Eq.trans (e_iconst (x := 1) dX7_hasForm_38 (by decide)) ?_
      exact Eq.trans (e_iretz dX7_hasForm_39 rfl) (g_and (by decide))
    · refine Eq.trans (e_aload_n dX7_hasForm_40 rfl) ?_
      refine Eq.trans (e_bipush (x := 59) dX7_hasForm_41 (by decide)) ?_
      exact e_invv dX7_hasForm_43 cl_7_35 (kX7 h0) (by simp) rfl rfl (by simp)
theorem BX7_hasForm_46 {C : gC} {G : gG} {Q : gK} {σ : gM} {a0 : Nat} {v1 : Int32} {s0 : Int32} (h0 : isX7 G a0) : gw C G mX7_hasForm Q 46 [.ref a0, .int v1] [.int s0] σ = (if s0 = 0 then Q (some (.int 0)) σ else gw C G mX7_hasForm Q 12 [.ref a0, .int (v1 + 1)] [] σ) := by
  refine Eq.trans (e_if_ne (t := 51) dX7_hasForm_46 (by decide)) (g_ite ?_ ?_)
  · refine Eq.trans (e_iconst (x := 0) dX7_hasForm_49 (by decide)) ?_
    exact Eq.trans (e_iretz dX7_hasForm_50 rfl) (g_and (by decide))
  · refine Eq.trans (e_iinc (y := 1) dX7_hasForm_51 rfl (by decide)) ?_
    refine Eq.trans (e_goto (t := 12) dX7_hasForm_54 (by decide)) ?_
    rfl
theorem BX7_readLine_0 {C : gC} {G : gG} {Q : gK} {σ : gM} {a0 : Nat} (h0 : isX7 G a0) : gw C G mX7_readLine Q 0 [.ref a0, .long 0, .long 0] [] σ = (g_inv C mX7_nextByte [.ref a0] σ fun r σ' => gw C G mX7_readLine Q 4 [.ref a0, .long 0, .long 0] (r.toList ++ []) σ') := by
  refine Eq.trans (e_aload_n dX7_readLine_0 rfl) ?_
  exact e_invv dX7_readLine_1 cl_7_39 (kX7 h0) (by simp) rfl rfl (by simp)
theorem BX7_readLine_4 {C : gC} {G : gG} {Q : gK} {σ : gM} {a0 : Nat} {wv1 : Value} {wv2 : Value} {s0 : Int32} (h0 : isX7 G a0) : gw C G mX7_readLine Q 4 [.ref a0, wv1, wv2] [.int s0] σ = (g_inv C mX7_numbersBehind [.int s0] σ fun r σ' => gw C G mX7_readLine Q 7 [.ref a0, wv1, wv2] (r.toList ++ []) σ') := by
  exact e_invs dX7_readLine_4 cl_7_43 (by decide) (by simp) rfl rfl (by simp)
theorem BX7_readLine_7 {C : gC} {G : gG} {Q : gK} {σ : gM} {a0 : Nat} {wv1 : Value} {wv2 : Value} {s0 : Int32} (h0 : isX7 G a0) : gw C G mX7_readLine Q 7 [.ref a0, wv1, wv2] [.int s0] σ = (if s0 = (-1) then Q (some (.int 0)) σ else (g_inv C mX7_nextByte [.ref a0] σ fun r σ' => gw C G mX7_readLine Q 27 [.ref a0, .int s0, wv2] (r.toList ++ [.int (σ a0 3), .ref (a0 + 2)]) σ')) := by
  refine Eq.trans (e_istore_n dX7_readLine_7 (Nat.le_of_ble_eq_true rfl)) ?_
  refine Eq.trans (e_iload_n dX7_readLine_8 rfl) ?_
  refine Eq.trans (e_iconst (x := (-1)) dX7_readLine_9 (by decide)) ?_
  refine Eq.trans (e_ic_ne (t := 15) dX7_readLine_10 (by decide)) (g_ite ?_ ?_)
  · refine Eq.trans (e_iconst (x := 0) dX7_readLine_13 (by decide)) ?_
    exact Eq.trans (e_iretz dX7_readLine_14 rfl) (g_and (by decide))
  · refine Eq.trans (e_aload_n dX7_readLine_15 rfl) ?_
    refine Eq.trans (e_getr (b := a0 + 2) dX7_readLine_16 fl_7_15 (kX7 h0) (sX7_4 h0)) ?_
    refine Eq.trans (e_aload_n dX7_readLine_19 rfl) ?_
    refine Eq.trans (e_geti dX7_readLine_20 fl_7_28 (kX7 h0)) ?_
    refine Eq.trans (e_aload_n dX7_readLine_23 rfl) ?_
    exact e_invv dX7_readLine_24 cl_7_39 (kX7 h0) (by simp) rfl rfl (by simp)
theorem BX7_readLine_27 {C : gC} {G : gG} {Q : gK} {σ : gM} {a0 : Nat} {v1 : Int32} {wv2 : Value} {s1 : Int32} {s2 : Int32} (h0 : isX7 G a0) : gw C G mX7_readLine Q 27 [.ref a0, .int v1, wv2] [.int s2, .int s1, .ref (a0 + 2)] σ = (vp_in s1 60 ∧ gw C G mX7_readLine Q 28 [.ref a0, .int v1, wv2] [] (g_up σ (a0 + 2) s1.toNatClampNeg s2)) := by
  refine Eq.trans (e_iast dX7_readLine_27 (aX7_4 h0) (nX7_4 h0)) (g_cj ?_)
  rfl
theorem BX7_readLine_28 {C : gC} {G : gG} {Q : gK} {σ : gM} {a0 : Nat} {v1 : Int32} {wv2 : Value} (h0 : isX7 G a0) : gw C G mX7_readLine Q 28 [.ref a0, .int v1, wv2] [] σ = gw C G mX7_readLine Q 40 [.ref a0, .int v1, .int 0] [] (g_up σ a0 2 ((σ a0 2) + 1)) := by
  refine Eq.trans (e_aload_n dX7_readLine_28 rfl) ?_
  refine Eq.trans (e_dup dX7_readLine_29) ?_
  refine Eq.trans (e_geti dX7_readLine_30 fl_7_25 (kX7 h0)) ?_
  refine Eq.trans (e_iconst (x := 1) dX7_readLine_33 (by decide)) ?_
  refine Eq.trans (e_iadd dX7_readLine_34) ?_
  refine Eq.trans (e_puti dX7_readLine_35 fl_7_25 (kX7 h0)) ?_
  refine Eq.trans (e_iconst (x := 0) dX7_readLine_38 (by decide)) ?_
  refine Eq.trans (e_istore_n dX7_readLine_39 (Nat.le_of_ble_eq_true rfl)) ?_
  rfl
theorem BX7_readLine_40 {C : gC} {G : gG} {Q : gK} {σ : gM} {a0 : Nat} {v1 : Int32} {v2 : Int32} (h0 : isX7 G a0) : gw C G mX7_readLine Q 40 [.ref a0, .int v1, .int v2] [] σ = (if v2 < v1 then (g_inv C mX7_readSign [.ref a0, .int 32] σ fun r σ' => gw C G mX7_readLine Q 51 [.ref a0, .int v1, .int v2] (r.toList ++ []) σ') else Q (some (.int 1)) (g_up σ a0 3 ((σ a0 3) + 1))) := by
  refine Eq.trans (e_iload_n dX7_readLine_40 rfl) ?_
  refine Eq.trans (e_iload_n dX7_readLine_41 rfl) ?_
  refine Eq.trans (e_ic_ge (t := 77) dX7_readLine_42 (by decide)) (g_ite ?_ ?_)
  · refine Eq.trans (e_aload_n dX7_readLine_45 rfl) ?_
    refine Eq.trans (e_bipush (x := 32) dX7_readLine_46 (by decide)) ?_
    exact e_invv dX7_readLine_48 cl_7_35 (kX7 h0) (by simp) rfl rfl (by simp)
  · refine Eq.trans (e_aload_n dX7_readLine_77 rfl) ?_
    refine Eq.trans (e_dup dX7_readLine_78) ?_
    refine Eq.trans (e_geti dX7_readLine_79 fl_7_28 (kX7 h0)) ?_
    refine Eq.trans (e_iconst (x := 1) dX7_readLine_82 (by decide)) ?_
    refine Eq.trans (e_iadd dX7_readLine_83) ?_
    refine Eq.trans (e_puti dX7_readLine_84 fl_7_28 (kX7 h0)) ?_
    refine Eq.trans (e_iconst (x := 1) dX7_readLine_87 (by decide)) ?_
    exact Eq.trans (e_iretz dX7_readLine_88 rfl) (g_and (by decide))
theorem BX7_readLine_51 {C : gC} {G : gG} {Q : gK} {σ : gM} {a0 : Nat} {v1 : Int32} {v2 : Int32} {s0 : Int32} (h0 : isX7 G a0) : gw C G mX7_readLine Q 51 [.ref a0, .int v1, .int v2] [.int s0] σ = (if s0 = 0 then Q (some (.int 0)) σ else (g_inv C mX7_readNumber [.ref a0, .int ((3 * (σ a0 3)) + v2)] σ fun r σ' => gw C G mX7_readLine Q 66 [.ref a0, .int v1, .int v2] (r.toList ++ []) σ')) := by
  refine Eq.trans (e_if_eq (t := 69) dX7_readLine_51 (by decide)) (g_ite ?_ ?_)
  · refine Eq.trans (e_iconst (x := 0) dX7_readLine_69 (by decide)) ?_
    exact Eq.trans (e_iretz dX7_readLine_70 rfl) (g_and (by decide))
  · refine Eq.trans (e_aload_n dX7_readLine_54 rfl) ?_
    refine Eq.trans (e_iconst (x := 3) dX7_readLine_55 (by decide)) ?_
    refine Eq.trans (e_aload_n dX7_readLine_56 rfl) ?_
    refine Eq.trans (e_geti dX7_readLine_57 fl_7_28 (kX7 h0)) ?_
    refine Eq.trans (e_imul dX7_readLine_60) ?_
    refine Eq.trans (e_iload_n dX7_readLine_61 rfl) ?_
    refine Eq.trans (e_iadd dX7_readLine_62) ?_
    exact e_invv dX7_readLine_63 cl_7_47 (kX7 h0) (by simp) rfl rfl (by simp)
theorem BX7_readLine_66 {C : gC} {G : gG} {Q : gK} {σ : gM} {a0 : Nat} {v1 : Int32} {v2 : Int32} {s0 : Int32} (h0 : isX7 G a0) : gw C G mX7_readLine Q 66 [.ref a0, .int v1, .int v2] [.int s0] σ = (if s0 = 0 then Q (some (.int 0)) σ else gw C G mX7_readLine Q 40 [.ref a0, .int v1, .int (v2 + 1)] [] σ) := by
  refine Eq.trans (e_if_ne (t := 71) dX7_readLine_66 (by decide)) (g_ite ?_ ?_)
  · refine Eq.trans (e_iconst (x := 0) dX7_readLine_69 (by decide)) ?_
    exact Eq.trans (e_iretz dX7_readLine_70 rfl) (g_and (by decide))
  · refine Eq.trans (e_iinc (y := 1) dX7_readLine_71 rfl (by decide)) ?_
    refine Eq.trans (e_goto (t := 40) dX7_readLine_74 (by decide)) ?_
    rfl
theorem BX7_nextByte_0 {C : gC} {G : gG} {Q : gK} {σ : gM} {a0 : Nat} (h0 : isX7 G a0) : gw C G mX7_nextByte Q 0 [.ref a0] [] σ = (if (σ a0 2) < 0 then Q (some (.int (-1))) σ else (if (σ a0 2) < (σ a0 0) then (if (σ a0 2) < 120 then (vp_in (σ a0 2) 120 ∧ Q (some (.int (σ (a0 + 1) (σ a0 2).toNatClampNeg))) σ) else Q (some (.int (-1))) σ) else Q (some (.int (-1))) σ)) := by
  refine Eq.trans (e_aload_n dX7_nextByte_0 rfl) ?_
  refine Eq.trans (e_geti dX7_nextByte_1 fl_7_25 (kX7 h0)) ?_
  refine Eq.trans (e_if_lt (t := 39) dX7_nextByte_4 (by decide)) (g_ite ?_ ?_)
  · refine Eq.trans (e_iconst (x := (-1)) dX7_nextByte_39 (by decide)) ?_
    exact e_ireti dX7_nextByte_40 rfl
  · refine Eq.trans (e_aload_n dX7_nextByte_7 rfl) ?_
    refine Eq.trans (e_geti dX7_nextByte_8 fl_7_25 (kX7 h0)) ?_
    refine Eq.trans (e_aload_n dX7_nextByte_11 rfl) ?_
    refine Eq.trans (e_geti dX7_nextByte_12 fl_7_21 (kX7 h0)) ?_
    refine Eq.trans (e_ic_ge (t := 39) dX7_nextByte_15 (by decide)) (g_ite ?_ ?_)
    · refine Eq.trans (e_aload_n dX7_nextByte_18 rfl) ?_
      refine Eq.trans (e_geti dX7_nextByte_19 fl_7_25 (kX7 h0)) ?_
      refine Eq.trans (e_bipush (x := 120) dX7_nextByte_22 (by decide)) ?_
      refine Eq.trans (e_ic_ge (t := 39) dX7_nextByte_24 (by decide)) (g_ite ?_ ?_)
      · refine Eq.trans (e_aload_n dX7_nextByte_27 rfl) ?_
        refine Eq.trans (e_getr (b := a0 + 1) dX7_nextByte_28 fl_7_9 (kX7 h0) (sX7_1 h0)) ?_
        refine Eq.trans (e_aload_n dX7_nextByte_31 rfl) ?_
        refine Eq.trans (e_geti dX7_nextByte_32 fl_7_25 (kX7 h0)) ?_
        refine Eq.trans (e_iald dX7_nextByte_35 (aX7_1 h0) (nX7_1 h0)) (g_cj ?_)
        refine Eq.trans (e_goto (t := 40) dX7_nextByte_36 (by decide)) ?_
        exact e_ireti dX7_nextByte_40 rfl
      · refine Eq.trans (e_iconst (x := (-1)) dX7_nextByte_39 (by decide)) ?_
        exact e_ireti dX7_nextByte_40 rfl
    · refine Eq.trans (e_iconst (x := (-1)) dX7_nextByte_39 (by decide)) ?_
      exact e_ireti dX7_nextByte_40 rfl
theorem BX7_numbersBehind_0 {C : gC} {G : gG} {Q : gK} {σ : gM} {v0 : Int32}  : gw C G mX7_numbersBehind Q 0 [.int v0] [] σ = (if v0 = 98 then Q (some (.int 3)) σ else (if v0 = 99 then Q (some (.int (-1))) σ else (if v0 = 100 then Q (some (.int (-1))) σ else (if v0 = 101 then Q (some (.int 0)) σ else (if v0 = 102 then Q (some (.int 1)) σ else (if v0 = 103 then Q (some (.int (-1))) σ else (if v0 = 104 then Q (some (.int (-1))) σ else (if v0 = 105 then Q (some (.int 1)) σ else (if v0 = 106 then Q (some (.int (-1))) σ else (if v0 = 107 then Q (some (.int (-1))) σ else (if v0 = 108 then Q (some (.int (-1))) σ else (if v0 = 109 then Q (some (.int 2)) σ else (if v0 = 110 then Q (some (.int (-1))) σ else (if v0 = 111 then Q (some (.int 1)) σ else (if v0 = 112 then Q (some (.int 1)) σ else (if v0 = 113 then Q (some (.int (-1))) σ else (if v0 = 114 then Q (some (.int 2)) σ else (if v0 = 115 then Q (some (.int (-1))) σ else (if v0 = 116 then Q (some (.int 3)) σ else (if v0 = 117 then Q (some (.int 1)) σ else Q (some (.int (-1))) σ)))))))))))))))))))) := by
  refine Eq.trans (e_iload_n dX7_numbersBehind_0 rfl) ?_
  refine Eq.trans (e_switch dX7_numbersBehind_1 (by decide)) ?_
  refine Eq.trans (g_sw1 (y := 98) (t := 102) (by decide) (by decide) (g_sw1 (y := 99) (t := 104) (by decide) (by decide) (g_sw1 (y := 100) (t := 104) (by decide) (by decide) (g_sw1 (y := 101) (t := 96) (by decide) (by decide) (g_sw1 (y := 102) (t := 98) (by decide) (by decide) (g_sw1 (y := 103) (t := 104) (by decide) (by decide) (g_sw1 (y := 104) (t := 104) (by decide) (by decide) (g_sw1 (y := 105) (t := 98) (by decide) (by decide) (g_sw1 (y := 106) (t := 104) (by decide) (by decide) (g_sw1 (y := 107) (t := 104) (by decide) (by decide) (g_sw1 (y := 108) (t := 104) (by decide) (by decide) (g_sw1 (y := 109) (t := 100) (by decide) (by decide) (g_sw1 (y := 110) (t := 104) (by decide) (by decide) (g_sw1 (y := 111) (t := 98) (by decide) (by decide) (g_sw1 (y := 112) (t := 98) (by decide) (by decide) (g_sw1 (y := 113) (t := 104) (by decide) (by decide) (g_sw1 (y := 114) (t := 100) (by decide) (by decide) (g_sw1 (y := 115) (t := 104) (by decide) (by decide) (g_sw1 (y := 116) (t := 102) (by decide) (by decide) (g_sw1 (y := 117) (t := 98) (by decide) (by decide) (g_sw0 (t := 104) (by decide)))))))))))))))))))))) ?_
  refine g_ite ?_ (g_ite ?_ (g_ite ?_ (g_ite ?_ (g_ite ?_ (g_ite ?_ (g_ite ?_ (g_ite ?_ (g_ite ?_ (g_ite ?_ (g_ite ?_ (g_ite ?_ (g_ite ?_ (g_ite ?_ (g_ite ?_ (g_ite ?_ (g_ite ?_ (g_ite ?_ (g_ite ?_ (g_ite ?_ (?_))))))))))))))))))))
  · refine Eq.trans (e_iconst (x := 3) dX7_numbersBehind_102 (by decide)) ?_
    exact e_ireti dX7_numbersBehind_103 rfl
  · refine Eq.trans (e_iconst (x := (-1)) dX7_numbersBehind_104 (by decide)) ?_
    exact e_ireti dX7_numbersBehind_105 rfl
  · refine Eq.trans (e_iconst (x := (-1)) dX7_numbersBehind_104 (by decide)) ?_
    exact e_ireti dX7_numbersBehind_105 rfl
  · refine Eq.trans (e_iconst (x := 0) dX7_numbersBehind_96 (by decide)) ?_
    exact e_ireti dX7_numbersBehind_97 rfl
  · refine Eq.trans (e_iconst (x := 1) dX7_numbersBehind_98 (by decide)) ?_
    exact e_ireti dX7_numbersBehind_99 rfl
  · refine Eq.trans (e_iconst (x := (-1)) dX7_numbersBehind_104 (by decide)) ?_
    exact e_ireti dX7_numbersBehind_105 rfl
  · refine Eq.trans (e_iconst (x := (-1)) dX7_numbersBehind_104 (by decide)) ?_
    exact e_ireti dX7_numbersBehind_105 rfl
  · refine Eq.trans (e_iconst (x := 1) dX7_numbersBehind_98 (by decide)) ?_
    exact e_ireti dX7_numbersBehind_99 rfl
  · refine Eq.trans (e_iconst (x := (-1)) dX7_numbersBehind_104 (by decide)) ?_
    exact e_ireti dX7_numbersBehind_105 rfl
  · refine Eq.trans (e_iconst (x := (-1)) dX7_numbersBehind_104 (by decide)) ?_
    exact e_ireti dX7_numbersBehind_105 rfl
  · refine Eq.trans (e_iconst (x := (-1)) dX7_numbersBehind_104 (by decide)) ?_
    exact e_ireti dX7_numbersBehind_105 rfl
  · refine Eq.trans (e_iconst (x := 2) dX7_numbersBehind_100 (by decide)) ?_
    exact e_ireti dX7_numbersBehind_101 rfl
  · refine Eq.trans (e_iconst (x := (-1)) dX7_numbersBehind_104 (by decide)) ?_
    exact e_ireti dX7_numbersBehind_105 rfl
  · refine Eq.trans (e_iconst (x := 1) dX7_numbersBehind_98 (by decide)) ?_
    exact e_ireti dX7_numbersBehind_99 rfl
  · refine Eq.trans (e_iconst (x := 1) dX7_numbersBehind_98 (by decide)) ?_
    exact e_ireti dX7_numbersBehind_99 rfl
  · refine Eq.trans (e_iconst (x := (-1)) dX7_numbersBehind_104 (by decide)) ?_
    exact e_ireti dX7_numbersBehind_105 rfl
  · refine Eq.trans (e_iconst (x := 2) dX7_numbersBehind_100 (by decide)) ?_
    exact e_ireti dX7_numbersBehind_101 rfl
  · refine Eq.trans (e_iconst (x := (-1)) dX7_numbersBehind_104 (by decide)) ?_
    exact e_ireti dX7_numbersBehind_105 rfl
  · refine Eq.trans (e_iconst (x := 3) dX7_numbersBehind_102 (by decide)) ?_
    exact e_ireti dX7_numbersBehind_103 rfl
  · refine Eq.trans (e_iconst (x := 1) dX7_numbersBehind_98 (by decide)) ?_
    exact e_ireti dX7_numbersBehind_99 rfl
  · refine Eq.trans (e_iconst (x := (-1)) dX7_numbersBehind_104 (by decide)) ?_
    exact e_ireti dX7_numbersBehind_105 rfl
theorem BX7_readSign_0 {C : gC} {G : gG} {Q : gK} {σ : gM} {a0 : Nat} {v1 : Int32} (h0 : isX7 G a0) : gw C G mX7_readSign Q 0 [.ref a0, .int v1] [] σ = (g_inv C mX7_nextByte [.ref a0] σ fun r σ' => gw C G mX7_readSign Q 4 [.ref a0, .int v1] (r.toList ++ []) σ') := by
  refine Eq.trans (e_aload_n dX7_readSign_0 rfl) ?_
  exact e_invv dX7_readSign_1 cl_7_39 (kX7 h0) (by simp) rfl rfl (by simp)
theorem BX7_readSign_4 {C : gC} {G : gG} {Q : gK} {σ : gM} {a0 : Nat} {v1 : Int32} {s0 : Int32} (h0 : isX7 G a0) : gw C G mX7_readSign Q 4 [.ref a0, .int v1] [.int s0] σ = (if s0 = v1 then Q (some (.int 1)) (g_up σ a0 2 ((σ a0 2) + 1)) else Q (some (.int 0)) σ) := by
  refine Eq.trans (e_iload_n dX7_readSign_4 rfl) ?_
  refine Eq.trans (e_ic_eq (t := 10) dX7_readSign_5 (by decide)) (g_ite ?_ ?_)
  · refine Eq.trans (e_aload_n dX7_readSign_10 rfl) ?_
    refine Eq.trans (e_dup dX7_readSign_11) ?_
    refine Eq.trans (e_geti dX7_readSign_12 fl_7_25 (kX7 h0)) ?_
    refine Eq.trans (e_iconst (x := 1) dX7_readSign_15 (by decide)) ?_
    refine Eq.trans (e_iadd dX7_readSign_16) ?_
    refine Eq.trans (e_puti dX7_readSign_17 fl_7_25 (kX7 h0)) ?_
    refine Eq.trans (e_iconst (x := 1) dX7_readSign_20 (by decide)) ?_
    exact Eq.trans (e_iretz dX7_readSign_21 rfl) (g_and (by decide))
  · refine Eq.trans (e_iconst (x := 0) dX7_readSign_8 (by decide)) ?_
    exact Eq.trans (e_iretz dX7_readSign_9 rfl) (g_and (by decide))
theorem BX7_readNumber_0 {C : gC} {G : gG} {Q : gK} {σ : gM} {a0 : Nat} {v1 : Int32} (h0 : isX7 G a0) : gw C G mX7_readNumber Q 0 [.ref a0, .int v1, .long 0, .long 0] [] σ = gw C G mX7_readNumber Q 4 [.ref a0, .int v1, .int 0, .int 0] [] σ := by
  refine Eq.trans (e_iconst (x := 0) dX7_readNumber_0 (by decide)) ?_
  refine Eq.trans (e_istore_n dX7_readNumber_1 (Nat.le_of_ble_eq_true rfl)) ?_
  refine Eq.trans (e_iconst (x := 0) dX7_readNumber_2 (by decide)) ?_
  refine Eq.trans (e_istore_n dX7_readNumber_3 (Nat.le_of_ble_eq_true rfl)) ?_
  rfl
theorem BX7_readNumber_4 {C : gC} {G : gG} {Q : gK} {σ : gM} {a0 : Nat} {v1 : Int32} {v2 : Int32} {v3 : Int32} (h0 : isX7 G a0) : gw C G mX7_readNumber Q 4 [.ref a0, .int v1, .int v2, .int v3] [] σ = (if v2 < 3 then (g_inv C mX7_nextByte [.ref a0] σ fun r σ' => gw C G mX7_readNumber Q 13 [.ref a0, .int v1, .int v2, .int v3] (r.toList ++ []) σ') else gw C G mX7_readNumber Q 56 [.ref a0, .int v1, .int v2, .int v3] [] σ) := by
  refine Eq.trans (e_iload_n dX7_readNumber_4 rfl) ?_
  refine Eq.trans (e_iconst (x := 3) dX7_readNumber_5 (by decide)) ?_
  refine Eq.trans (e_ic_ge (t := 56) dX7_readNumber_6 (by decide)) (g_ite ?_ ?_)
  · refine Eq.trans (e_aload_n dX7_readNumber_9 rfl) ?_
    exact e_invv dX7_readNumber_10 cl_7_39 (kX7 h0) (by simp) rfl rfl (by simp)
  · rfl
theorem BX7_readNumber_13 {C : gC} {G : gG} {Q : gK} {σ : gM} {a0 : Nat} {v1 : Int32} {v2 : Int32} {v3 : Int32} {s0 : Int32} (h0 : isX7 G a0) : gw C G mX7_readNumber Q 13 [.ref a0, .int v1, .int v2, .int v3] [.int s0] σ = (if s0 < 48 then gw C G mX7_readNumber Q 56 [.ref a0, .int v1, .int v2, .int v3] [] σ else (g_inv C mX7_nextByte [.ref a0] σ fun r σ' => gw C G mX7_readNumber Q 22 [.ref a0, .int v1, .int v2, .int v3] (r.toList ++ []) σ')) := by
  refine Eq.trans (e_bipush (x := 48) dX7_readNumber_13 (by decide)) ?_
  refine Eq.trans (e_ic_lt (t := 56) dX7_readNumber_15 (by decide)) (g_ite ?_ ?_)
  · rfl
  · refine Eq.trans (e_aload_n dX7_readNumber_18 rfl) ?_
    exact e_invv dX7_readNumber_19 cl_7_39 (kX7 h0) (by simp) rfl rfl (by simp)
theorem BX7_readNumber_22 {C : gC} {G : gG} {Q : gK} {σ : gM} {a0 : Nat} {v1 : Int32} {v2 : Int32} {v3 : Int32} {s0 : Int32} (h0 : isX7 G a0) : gw C G mX7_readNumber Q 22 [.ref a0, .int v1, .int v2, .int v3] [.int s0] σ = (if 57 < s0 then gw C G mX7_readNumber Q 56 [.ref a0, .int v1, .int v2, .int v3] [] σ else (g_inv C mX7_nextByte [.ref a0] σ fun r σ' => gw C G mX7_readNumber Q 35 [.ref a0, .int v1, .int v2, .int v3] (r.toList ++ [.int (10 * v3)]) σ')) := by
  refine Eq.trans (e_bipush (x := 57) dX7_readNumber_22 (by decide)) ?_
  refine Eq.trans (e_ic_gt (t := 56) dX7_readNumber_24 (by decide)) (g_ite ?_ ?_)
  · rfl
  · refine Eq.trans (e_bipush (x := 10) dX7_readNumber_27 (by decide)) ?_
    refine Eq.trans (e_iload_n dX7_readNumber_29 rfl) ?_
    refine Eq.trans (e_imul dX7_readNumber_30) ?_
    refine Eq.trans (e_aload_n dX7_readNumber_31 rfl) ?_
    exact e_invv dX7_readNumber_32 cl_7_39 (kX7 h0) (by simp) rfl rfl (by simp)
theorem BX7_readNumber_35 {C : gC} {G : gG} {Q : gK} {σ : gM} {a0 : Nat} {v1 : Int32} {v2 : Int32} {v3 : Int32} {s0 : Int32} {s1 : Int32} (h0 : isX7 G a0) : gw C G mX7_readNumber Q 35 [.ref a0, .int v1, .int v2, .int v3] [.int s1, .int s0] σ = gw C G mX7_readNumber Q 4 [.ref a0, .int v1, .int (v2 + 1), .int ((s0 + s1) - 48)] [] (g_up σ a0 2 ((σ a0 2) + 1)) := by
  refine Eq.trans (e_iadd dX7_readNumber_35) ?_
  refine Eq.trans (e_bipush (x := 48) dX7_readNumber_36 (by decide)) ?_
  refine Eq.trans (e_isub dX7_readNumber_38) ?_
  refine Eq.trans (e_istore_n dX7_readNumber_39 (Nat.le_of_ble_eq_true rfl)) ?_
  refine Eq.trans (e_aload_n dX7_readNumber_40 rfl) ?_
  refine Eq.trans (e_dup dX7_readNumber_41) ?_
  refine Eq.trans (e_geti dX7_readNumber_42 fl_7_25 (kX7 h0)) ?_
  refine Eq.trans (e_iconst (x := 1) dX7_readNumber_45 (by decide)) ?_
  refine Eq.trans (e_iadd dX7_readNumber_46) ?_
  refine Eq.trans (e_puti dX7_readNumber_47 fl_7_25 (kX7 h0)) ?_
  refine Eq.trans (e_iinc (y := 1) dX7_readNumber_50 rfl (by decide)) ?_
  refine Eq.trans (e_goto (t := 4) dX7_readNumber_53 (by decide)) ?_
  rfl
theorem BX7_readNumber_56 {C : gC} {G : gG} {Q : gK} {σ : gM} {a0 : Nat} {v1 : Int32} {v2 : Int32} {v3 : Int32} (h0 : isX7 G a0) : gw C G mX7_readNumber Q 56 [.ref a0, .int v1, .int v2, .int v3] [] σ = (vp_in v1 180 ∧ gw C G mX7_readNumber Q 63 [.ref a0, .int v1, .int v2, .int v3] [] (g_up σ (a0 + 3) v1.toNatClampNeg v3)) := by
  refine Eq.trans (e_aload_n dX7_readNumber_56 rfl) ?_
  refine Eq.trans (e_getr (b := a0 + 3) dX7_readNumber_57 fl_7_18 (kX7 h0) (sX7_5 h0)) ?_
  refine Eq.trans (e_iload_n dX7_readNumber_60 rfl) ?_
  refine Eq.trans (e_iload_n dX7_readNumber_61 rfl) ?_
  refine Eq.trans (e_iast dX7_readNumber_62 (aX7_5 h0) (nX7_5 h0)) (g_cj ?_)
  rfl
theorem BX7_readNumber_63 {C : gC} {G : gG} {Q : gK} {σ : gM} {a0 : Nat} {v1 : Int32} {v2 : Int32} {v3 : Int32} (h0 : isX7 G a0) : gw C G mX7_readNumber Q 63 [.ref a0, .int v1, .int v2, .int v3] [] σ = (if 0 < v2 then Q (some (.int 1)) σ else Q (some (.int 0)) σ) := by
  refine Eq.trans (e_iload_n dX7_readNumber_63 rfl) ?_
  refine Eq.trans (e_if_le (t := 71) dX7_readNumber_64 (by decide)) (g_ite ?_ ?_)
  · refine Eq.trans (e_iconst (x := 1) dX7_readNumber_67 (by decide)) ?_
    refine Eq.trans (e_goto (t := 72) dX7_readNumber_68 (by decide)) ?_
    exact Eq.trans (e_iretz dX7_readNumber_72 rfl) (g_and (by decide))
  · refine Eq.trans (e_iconst (x := 0) dX7_readNumber_71 (by decide)) ?_
    exact Eq.trans (e_iretz dX7_readNumber_72 rfl) (g_and (by decide))
theorem BX7_number_0 {C : gC} {G : gG} {Q : gK} {σ : gM} {a0 : Nat} {v1 : Int32} {v2 : Int32} (h0 : isX7 G a0) : gw C G mX7_number Q 0 [.ref a0, .int v1, .int v2] [] σ = (vp_in ((3 * v1) + v2) 180 ∧ Q (some (.int (σ (a0 + 3) ((3 * v1) + v2).toNatClampNeg))) σ) := by
  refine Eq.trans (e_aload_n dX7_number_0 rfl) ?_
  refine Eq.trans (e_getr (b := a0 + 3) dX7_number_1 fl_7_18 (kX7 h0) (sX7_5 h0)) ?_
  refine Eq.trans (e_iconst (x := 3) dX7_number_4 (by decide)) ?_
  refine Eq.trans (e_iload_n dX7_number_5 rfl) ?_
  refine Eq.trans (e_imul dX7_number_6) ?_
  refine Eq.trans (e_iload_n dX7_number_7 rfl) ?_
  refine Eq.trans (e_iadd dX7_number_8) ?_
  refine Eq.trans (e_iald dX7_number_9 (aX7_5 h0) (nX7_5 h0)) (g_cj ?_)
  exact e_ireti dX7_number_10 rfl
theorem BX0_manyOf_0 {C : gC} {G : gG} {Q : gK} {σ : gM} {a0 : Nat} {v1 : Int32} (h0 : isX0 G a0) : gw C G mX0_manyOf Q 0 [.ref a0, .int v1, .long 0, .long 0] [] σ = gw C G mX0_manyOf Q 4 [.ref a0, .int v1, .int 0, .int 0] [] σ := by
  refine Eq.trans (e_iconst (x := 0) dX0_manyOf_0 (by decide)) ?_
  refine Eq.trans (e_istore_n dX0_manyOf_1 (Nat.le_of_ble_eq_true rfl)) ?_
  refine Eq.trans (e_iconst (x := 0) dX0_manyOf_2 (by decide)) ?_
  refine Eq.trans (e_istore_n dX0_manyOf_3 (Nat.le_of_ble_eq_true rfl)) ?_
  rfl
theorem BX0_manyOf_4 {C : gC} {G : gG} {Q : gK} {σ : gM} {a0 : Nat} {v1 : Int32} {v2 : Int32} {v3 : Int32} (h0 : isX0 G a0) : gw C G mX0_manyOf Q 4 [.ref a0, .int v1, .int v2, .int v3] [] σ = (if v3 < 30 then (vp_in v3 30 ∧ (if (σ (a0 + 2) v3.toNatClampNeg) = v1 then gw C G mX0_manyOf Q 4 [.ref a0, .int v1, .int (v2 + 1), .int (v3 + 1)] [] σ else gw C G mX0_manyOf Q 4 [.ref a0, .int v1, .int v2, .int (v3 + 1)] [] σ)) else Q (some (.int v2)) σ) := by
  refine Eq.trans (e_iload_n dX0_manyOf_4 rfl) ?_
  refine Eq.trans (e_bipush (x := 30) dX0_manyOf_5 (by decide)) ?_
  refine Eq.trans (e_ic_ge (t := 29) dX0_manyOf_7 (by decide)) (g_ite ?_ ?_)
  · refine Eq.trans (e_aload_n dX0_manyOf_10 rfl) ?_
    refine Eq.trans (e_getr (b := a0 + 2) dX0_manyOf_11 fl_0_15 (kX0 h0) (sX0_1 h0)) ?_
    refine Eq.trans (e_iload_n dX0_manyOf_14 rfl) ?_
    refine Eq.trans (e_iald dX0_manyOf_15 (aX0_1 h0) (nX0_1 h0)) (g_cj ?_)
    refine Eq.trans (e_iload_n dX0_manyOf_16 rfl) ?_
    refine Eq.trans (e_ic_ne (t := 23) dX0_manyOf_17 (by decide)) (g_ite ?_ ?_)
    · refine Eq.trans (e_iinc (y := 1) dX0_manyOf_20 rfl (by decide)) ?_
      refine Eq.trans (e_iinc (y := 1) dX0_manyOf_23 rfl (by decide)) ?_
      refine Eq.trans (e_goto (t := 4) dX0_manyOf_26 (by decide)) ?_
      rfl
    · refine Eq.trans (e_iinc (y := 1) dX0_manyOf_23 rfl (by decide)) ?_
      refine Eq.trans (e_goto (t := 4) dX0_manyOf_26 (by decide)) ?_
      rfl
  · refine Eq.trans (e_iload_n dX0_manyOf_29 rfl) ?_
    exact e_ireti dX0_manyOf_30 rfl
theorem BX2_takeRow_0 {C : gC} {G : gG} {Q : gK} {σ : gM} {a0 : Nat} {v1 : Int32} {v2 : Int32} (h0 : isX2 G a0) : gw C G mX2_takeRow Q 0 [.ref a0, .int v1, .int v2] [] σ = (vp_in v1 6 ∧ gw C G mX2_takeRow Q 7 [.ref a0, .int v1, .int v2] [] (g_up σ (a0 + 1) v1.toNatClampNeg 2)) := by
  refine Eq.trans (e_aload_n dX2_takeRow_0 rfl) ?_
  refine Eq.trans (e_getr (b := a0 + 1) dX2_takeRow_1 fl_2_9 (kX2 h0) (sX2_0 h0)) ?_
  refine Eq.trans (e_iload_n dX2_takeRow_4 rfl) ?_
  refine Eq.trans (e_iconst (x := 2) dX2_takeRow_5 (by decide)) ?_
  refine Eq.trans (e_iast dX2_takeRow_6 (aX2_0 h0) (nX2_0 h0)) (g_cj ?_)
  rfl
theorem BX2_takeRow_7 {C : gC} {G : gG} {Q : gK} {σ : gM} {a0 : Nat} {v1 : Int32} {v2 : Int32} (h0 : isX2 G a0) : gw C G mX2_takeRow Q 7 [.ref a0, .int v1, .int v2] [] σ = (vp_in v1 6 ∧ gw C G mX2_takeRow Q 14 [.ref a0, .int v1, .int v2] [] (g_up σ (a0 + 3) v1.toNatClampNeg v2)) := by
  refine Eq.trans (e_aload_n dX2_takeRow_7 rfl) ?_
  refine Eq.trans (e_getr (b := a0 + 3) dX2_takeRow_8 fl_2_18 (kX2 h0) (sX2_2 h0)) ?_
  refine Eq.trans (e_iload_n dX2_takeRow_11 rfl) ?_
  refine Eq.trans (e_iload_n dX2_takeRow_12 rfl) ?_
  refine Eq.trans (e_iast dX2_takeRow_13 (aX2_2 h0) (nX2_2 h0)) (g_cj ?_)
  rfl
theorem BX2_takeRow_14 {C : gC} {G : gG} {Q : gK} {σ : gM} {a0 : Nat} {v1 : Int32} {v2 : Int32} (h0 : isX2 G a0) : gw C G mX2_takeRow Q 14 [.ref a0, .int v1, .int v2] [] σ = (g_inv C mX9_fill [.ref (a0 + 4), .int (60 * v1), .int v2, .int 0] σ fun r σ' => gw C G mX2_takeRow Q 27 [.ref a0, .int v1, .int v2] (r.toList ++ []) σ') := by
  refine Eq.trans (e_aload_n dX2_takeRow_14 rfl) ?_
  refine Eq.trans (e_getr (b := a0 + 4) dX2_takeRow_15 fl_2_21 (kX2 h0) (sX2_3 h0)) ?_
  refine Eq.trans (e_bipush (x := 60) dX2_takeRow_18 (by decide)) ?_
  refine Eq.trans (e_iload_n dX2_takeRow_20 rfl) ?_
  refine Eq.trans (e_imul dX2_takeRow_21) ?_
  refine Eq.trans (e_iload_n dX2_takeRow_22 rfl) ?_
  refine Eq.trans (e_iconst (x := 0) dX2_takeRow_23 (by decide)) ?_
  exact e_invs dX2_takeRow_24 cl_2_24 (by decide) (by simp) rfl rfl (by simp)
theorem BX2_takeRow_27 {C : gC} {G : gG} {Q : gK} {σ : gM} {a0 : Nat} {v1 : Int32} {v2 : Int32} (h0 : isX2 G a0) : gw C G mX2_takeRow Q 27 [.ref a0, .int v1, .int v2] [] σ = Q none σ := by
  exact e_ret dX2_takeRow_27 rfl
theorem BX2_hasItem_0 {C : gC} {G : gG} {Q : gK} {σ : gM} {a0 : Nat} {v1 : Int32} {v2 : Int32} (h0 : isX2 G a0) : gw C G mX2_hasItem Q 0 [.ref a0, .int v1, .int v2] [] σ = (vp_in v1 6 ∧ (if (σ (a0 + 1) v1.toNatClampNeg) = 2 then (if v2 < 0 then Q (some (.int 0)) σ else (vp_in v1 6 ∧ (if v2 < (σ (a0 + 3) v1.toNatClampNeg) then Q (some (.int 1)) σ else Q (some (.int 0)) σ))) else Q (some (.int 0)) σ)) := by
  refine Eq.trans (e_aload_n dX2_hasItem_0 rfl) ?_
  refine Eq.trans (e_getr (b := a0 + 1) dX2_hasItem_1 fl_2_9 (kX2 h0) (sX2_0 h0)) ?_
  refine Eq.trans (e_iload_n dX2_hasItem_4 rfl) ?_
  refine Eq.trans (e_iald dX2_hasItem_5 (aX2_0 h0) (nX2_0 h0)) (g_cj ?_)
  refine Eq.trans (e_iconst (x := 2) dX2_hasItem_6 (by decide)) ?_
  refine Eq.trans (e_ic_ne (t := 28) dX2_hasItem_7 (by decide)) (g_ite ?_ ?_)
  · refine Eq.trans (e_iload_n dX2_hasItem_10 rfl) ?_
    refine Eq.trans (e_if_lt (t := 28) dX2_hasItem_11 (by decide)) (g_ite ?_ ?_)
    · refine Eq.trans (e_iconst (x := 0) dX2_hasItem_28 (by decide)) ?_
      exact Eq.trans (e_iretz dX2_hasItem_29 rfl) (g_and (by decide))
    · refine Eq.trans (e_iload_n dX2_hasItem_14 rfl) ?_
      refine Eq.trans (e_aload_n dX2_hasItem_15 rfl) ?_
      refine Eq.trans (e_getr (b := a0 + 3) dX2_hasItem_16 fl_2_18 (kX2 h0) (sX2_2 h0)) ?_
      refine Eq.trans (e_iload_n dX2_hasItem_19 rfl) ?_
      refine Eq.trans (e_iald dX2_hasItem_20 (aX2_2 h0) (nX2_2 h0)) (g_cj ?_)
      refine Eq.trans (e_ic_ge (t := 28) dX2_hasItem_21 (by decide)) (g_ite ?_ ?_)
      · refine Eq.trans (e_iconst (x := 1) dX2_hasItem_24 (by decide)) ?_
        refine Eq.trans (e_goto (t := 29) dX2_hasItem_25 (by decide)) ?_
        exact Eq.trans (e_iretz dX2_hasItem_29 rfl) (g_and (by decide))
      · refine Eq.trans (e_iconst (x := 0) dX2_hasItem_28 (by decide)) ?_
        exact Eq.trans (e_iretz dX2_hasItem_29 rfl) (g_and (by decide))
  · refine Eq.trans (e_iconst (x := 0) dX2_hasItem_28 (by decide)) ?_
    exact Eq.trans (e_iretz dX2_hasItem_29 rfl) (g_and (by decide))
theorem BX2_setItem_0 {C : gC} {G : gG} {Q : gK} {σ : gM} {a0 : Nat} {v1 : Int32} {v2 : Int32} {v3 : Int32} (h0 : isX2 G a0) : gw C G mX2_setItem Q 0 [.ref a0, .int v1, .int v2, .int v3] [] σ = (vp_in ((60 * v1) + v2) 360 ∧ Q none (g_up σ (a0 + 4) ((60 * v1) + v2).toNatClampNeg v3)) := by
  refine Eq.trans (e_aload_n dX2_setItem_0 rfl) ?_
  refine Eq.trans (e_getr (b := a0 + 4) dX2_setItem_1 fl_2_21 (kX2 h0) (sX2_3 h0)) ?_
  refine Eq.trans (e_bipush (x := 60) dX2_setItem_4 (by decide)) ?_
  refine Eq.trans (e_iload_n dX2_setItem_6 rfl) ?_
  refine Eq.trans (e_imul dX2_setItem_7) ?_
  refine Eq.trans (e_iload_n dX2_setItem_8 rfl) ?_
  refine Eq.trans (e_iadd dX2_setItem_9) ?_
  refine Eq.trans (e_iload_n dX2_setItem_10 rfl) ?_
  refine Eq.trans (e_iast dX2_setItem_11 (aX2_3 h0) (nX2_3 h0)) (g_cj ?_)
  exact e_ret dX2_setItem_12 rfl
theorem BX0_cellsInAll_0 {C : gC} {G : gG} {Q : gK} {σ : gM} {a0 : Nat} (h0 : isX0 G a0) : gw C G mX0_cellsInAll Q 0 [.ref a0, .long 0, .long 0] [] σ = gw C G mX0_cellsInAll Q 4 [.ref a0, .int 0, .int 0] [] σ := by
  refine Eq.trans (e_iconst (x := 0) dX0_cellsInAll_0 (by decide)) ?_
  refine Eq.trans (e_istore_n dX0_cellsInAll_1 (Nat.le_of_ble_eq_true rfl)) ?_
  refine Eq.trans (e_iconst (x := 0) dX0_cellsInAll_2 (by decide)) ?_
  refine Eq.trans (e_istore_n dX0_cellsInAll_3 (Nat.le_of_ble_eq_true rfl)) ?_
  rfl
theorem BX0_cellsInAll_4 {C : gC} {G : gG} {Q : gK} {σ : gM} {a0 : Nat} {v1 : Int32} {v2 : Int32} (h0 : isX0 G a0) : gw C G mX0_cellsInAll Q 4 [.ref a0, .int v1, .int v2] [] σ = (if v2 < 30 then (vp_in v2 30 ∧ (if (σ (a0 + 2) v2.toNatClampNeg) = 0 then gw C G mX0_cellsInAll Q 4 [.ref a0, .int v1, .int (v2 + 1)] [] σ else (vp_in v2 30 ∧ gw C G mX0_cellsInAll Q 4 [.ref a0, .int (v1 + (σ (a0 + 4) v2.toNatClampNeg)), .int (v2 + 1)] [] σ))) else Q (some (.int v1)) σ) := by
  refine Eq.trans (e_iload_n dX0_cellsInAll_4 rfl) ?_
  refine Eq.trans (e_bipush (x := 30) dX0_cellsInAll_5 (by decide)) ?_
  refine Eq.trans (e_ic_ge (t := 34) dX0_cellsInAll_7 (by decide)) (g_ite ?_ ?_)
  · refine Eq.trans (e_aload_n dX0_cellsInAll_10 rfl) ?_
    refine Eq.trans (e_getr (b := a0 + 2) dX0_cellsInAll_11 fl_0_15 (kX0 h0) (sX0_1 h0)) ?_
    refine Eq.trans (e_iload_n dX0_cellsInAll_14 rfl) ?_
    refine Eq.trans (e_iald dX0_cellsInAll_15 (aX0_1 h0) (nX0_1 h0)) (g_cj ?_)
    refine Eq.trans (e_if_eq (t := 28) dX0_cellsInAll_16 (by decide)) (g_ite ?_ ?_)
    · refine Eq.trans (e_iinc (y := 1) dX0_cellsInAll_28 rfl (by decide)) ?_
      refine Eq.trans (e_goto (t := 4) dX0_cellsInAll_31 (by decide)) ?_
      rfl
    · refine Eq.trans (e_iload_n dX0_cellsInAll_19 rfl) ?_
      refine Eq.trans (e_aload_n dX0_cellsInAll_20 rfl) ?_
      refine Eq.trans (e_getr (b := a0 + 4) dX0_cellsInAll_21 fl_0_21 (kX0 h0) (sX0_3 h0)) ?_
      refine Eq.trans (e_iload_n dX0_cellsInAll_24 rfl) ?_
      refine Eq.trans (e_iald dX0_cellsInAll_25 (aX0_3 h0) (nX0_3 h0)) (g_cj ?_)
      refine Eq.trans (e_iadd dX0_cellsInAll_26) ?_
      refine Eq.trans (e_istore_n dX0_cellsInAll_27 (Nat.le_of_ble_eq_true rfl)) ?_
      refine Eq.trans (e_iinc (y := 1) dX0_cellsInAll_28 rfl (by decide)) ?_
      refine Eq.trans (e_goto (t := 4) dX0_cellsInAll_31 (by decide)) ?_
      rfl
  · refine Eq.trans (e_iload_n dX0_cellsInAll_34 rfl) ?_
    exact e_ireti dX0_cellsInAll_35 rfl
theorem BX2_manyHolding_0 {C : gC} {G : gG} {Q : gK} {σ : gM} {a0 : Nat} (h0 : isX2 G a0) : gw C G mX2_manyHolding Q 0 [.ref a0, .long 0, .long 0] [] σ = gw C G mX2_manyHolding Q 4 [.ref a0, .int 0, .int 0] [] σ := by
  refine Eq.trans (e_iconst (x := 0) dX2_manyHolding_0 (by decide)) ?_
  refine Eq.trans (e_istore_n dX2_manyHolding_1 (Nat.le_of_ble_eq_true rfl)) ?_
  refine Eq.trans (e_iconst (x := 0) dX2_manyHolding_2 (by decide)) ?_
  refine Eq.trans (e_istore_n dX2_manyHolding_3 (Nat.le_of_ble_eq_true rfl)) ?_
  rfl
theorem BX2_manyHolding_4 {C : gC} {G : gG} {Q : gK} {σ : gM} {a0 : Nat} {v1 : Int32} {v2 : Int32} (h0 : isX2 G a0) : gw C G mX2_manyHolding Q 4 [.ref a0, .int v1, .int v2] [] σ = (if v2 < 6 then (vp_in v2 6 ∧ (if (σ (a0 + 1) v2.toNatClampNeg) = 0 then gw C G mX2_manyHolding Q 4 [.ref a0, .int v1, .int (v2 + 1)] [] σ else gw C G mX2_manyHolding Q 4 [.ref a0, .int (v1 + 1), .int (v2 + 1)] [] σ)) else Q (some (.int v1)) σ) := by
  refine Eq.trans (e_iload_n dX2_manyHolding_4 rfl) ?_
  refine Eq.trans (e_bipush (x := 6) dX2_manyHolding_5 (by decide)) ?_
  refine Eq.trans (e_ic_ge (t := 28) dX2_manyHolding_7 (by decide)) (g_ite ?_ ?_)
  · refine Eq.trans (e_aload_n dX2_manyHolding_10 rfl) ?_
    refine Eq.trans (e_getr (b := a0 + 1) dX2_manyHolding_11 fl_2_9 (kX2 h0) (sX2_0 h0)) ?_
    refine Eq.trans (e_iload_n dX2_manyHolding_14 rfl) ?_
    refine Eq.trans (e_iald dX2_manyHolding_15 (aX2_0 h0) (nX2_0 h0)) (g_cj ?_)
    refine Eq.trans (e_if_eq (t := 22) dX2_manyHolding_16 (by decide)) (g_ite ?_ ?_)
    · refine Eq.trans (e_iinc (y := 1) dX2_manyHolding_22 rfl (by decide)) ?_
      refine Eq.trans (e_goto (t := 4) dX2_manyHolding_25 (by decide)) ?_
      rfl
    · refine Eq.trans (e_iinc (y := 1) dX2_manyHolding_19 rfl (by decide)) ?_
      refine Eq.trans (e_iinc (y := 1) dX2_manyHolding_22 rfl (by decide)) ?_
      refine Eq.trans (e_goto (t := 4) dX2_manyHolding_25 (by decide)) ?_
      rfl
  · refine Eq.trans (e_iload_n dX2_manyHolding_28 rfl) ?_
    exact e_ireti dX2_manyHolding_29 rfl
