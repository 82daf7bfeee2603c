theorem BX9_fill_0 {C : gC} {G : gG} {Q : gK} {σ : gM} {a0 n0 : Nat} {v1 : Int32} {v2 : Int32} {v3 : Int32} (h0 : (G a0).1 = 11) (m0 : (G a0).2.1 = n0) : gw C G mX9_fill Q 0 [.ref a0, .int v1, .int v2, .int v3, .long 0] [] σ = (if v1 < 0 then Q none σ else gw C G mX9_fill Q 8 [.ref a0, .int v1, .int v2, .int v3, .int v1] [] σ) := by
  refine Eq.trans (e_iload_n dX9_fill_0 rfl) ?_
  refine Eq.trans (e_if_ge (t := 5) dX9_fill_1 (by decide)) (g_ite ?_ ?_)
  · exact e_ret dX9_fill_4 rfl
  · refine Eq.trans (e_iload_n dX9_fill_5 rfl) ?_
    refine Eq.trans (e_istore dX9_fill_6 (Nat.le_of_ble_eq_true rfl)) ?_
    rfl
theorem BX9_fill_8 {C : gC} {G : gG} {Q : gK} {σ : gM} {a0 n0 : Nat} {v1 : Int32} {v2 : Int32} {v3 : Int32} {v4 : Int32} (h0 : (G a0).1 = 11) (m0 : (G a0).2.1 = n0) : gw C G mX9_fill Q 8 [.ref a0, .int v1, .int v2, .int v3, .int v4] [] σ = (if v4 < (v1 + v2) then (if v4 < (Int32.ofNat n0) then (vp_in v4 n0 ∧ gw C G mX9_fill Q 8 [.ref a0, .int v1, .int v2, .int v3, .int (v4 + 1)] [] (g_up σ a0 v4.toNatClampNeg v3)) else Q none σ) else Q none σ) := by
  refine Eq.trans (e_iload dX9_fill_8 rfl) ?_
  refine Eq.trans (e_iload_n dX9_fill_10 rfl) ?_
  refine Eq.trans (e_iload_n dX9_fill_11 rfl) ?_
  refine Eq.trans (e_iadd dX9_fill_12) ?_
  refine Eq.trans (e_ic_ge (t := 34) dX9_fill_13 (by decide)) (g_ite ?_ ?_)
  · refine Eq.trans (e_iload dX9_fill_16 rfl) ?_
    refine Eq.trans (e_aload_n dX9_fill_18 rfl) ?_
    refine Eq.trans (e_alen dX9_fill_19 (Or.inl h0) m0) ?_
    refine Eq.trans (e_ic_ge (t := 34) dX9_fill_20 (by decide)) (g_ite ?_ ?_)
    · refine Eq.trans (e_aload_n dX9_fill_23 rfl) ?_
      refine Eq.trans (e_iload dX9_fill_24 rfl) ?_
      refine Eq.trans (e_iload_n dX9_fill_26 rfl) ?_
      refine Eq.trans (e_iast dX9_fill_27 h0 m0) (g_cj ?_)
      refine Eq.trans (e_iinc (y := 1) dX9_fill_28 rfl (by decide)) ?_
      refine Eq.trans (e_goto (t := 8) dX9_fill_31 (by decide)) ?_
      rfl
    · exact e_ret dX9_fill_34 rfl
  · exact e_ret dX9_fill_34 rfl
theorem BX9_region_0 {C : gC} {G : gG} {Q : gK} {σ : gM} {a0 : Nat} {v1 : Int32} {v2 : Int32} (h0 : isX9 G a0) : gw C G mX9_region Q 0 [.ref a0, .int v1, .int v2, .long 0] [] σ = (if v1 < 8 then Q (some (.int (-1))) σ else (if 120 < v1 then Q (some (.int (-1))) σ else (if v2 = 0 then gw C G mX9_region Q 25 [.ref a0, .int v1, .int v2, .long 0] [] σ else (if v2 = 1 then gw C G mX9_region Q 25 [.ref a0, .int v1, .int v2, .long 0] [] σ else Q (some (.int (-1))) σ)))) := by
  refine Eq.trans (e_iload_n dX9_region_0 rfl) ?_
  refine Eq.trans (e_bipush (x := 8) dX9_region_1 (by decide)) ?_
  refine Eq.trans (e_ic_lt (t := 12) dX9_region_3 (by decide)) (g_ite ?_ ?_)
  · refine Eq.trans (e_iconst (x := (-1)) dX9_region_12 (by decide)) ?_
    exact e_ireti dX9_region_13 rfl
  · refine Eq.trans (e_iload_n dX9_region_6 rfl) ?_
    refine Eq.trans (e_bipush (x := 120) dX9_region_7 (by decide)) ?_
    refine Eq.trans (e_ic_le (t := 14) dX9_region_9 (by decide)) (g_ite ?_ ?_)
    · refine Eq.trans (e_iconst (x := (-1)) dX9_region_12 (by decide)) ?_
      exact e_ireti dX9_region_13 rfl
    · refine Eq.trans (e_iload_n dX9_region_14 rfl) ?_
      refine Eq.trans (e_if_eq (t := 25) dX9_region_15 (by decide)) (g_ite ?_ ?_)
      · rfl
      · refine Eq.trans (e_iload_n dX9_region_18 rfl) ?_
        refine Eq.trans (e_iconst (x := 1) dX9_region_19 (by decide)) ?_
        refine Eq.trans (e_ic_eq (t := 25) dX9_region_20 (by decide)) (g_ite ?_ ?_)
        · rfl
        · refine Eq.trans (e_iconst (x := (-1)) dX9_region_23 (by decide)) ?_
          exact e_ireti dX9_region_24 rfl
theorem BX9_region_25 {C : gC} {G : gG} {Q : gK} {σ : gM} {a0 : Nat} {v1 : Int32} {v2 : Int32} {wv3 : Value} (h0 : isX9 G a0) : gw C G mX9_region Q 25 [.ref a0, .int v1, .int v2, wv3] [] σ = (g_inv C mX5_addNext [.ref (a0 + 3), .int v1, .int v2] σ fun r σ' => gw C G mX9_region Q 37 [.ref a0, .int v1, .int v2, wv3] (r.toList ++ []) σ') := by
  refine Eq.trans (e_aload_n dX9_region_25 rfl) ?_
  refine Eq.trans (e_getr (b := a0 + 1) dX9_region_26 fl_9_10 (kX9 h0) (sX9_0 h0)) ?_
  refine Eq.trans (e_getr (b := a0 + 3) dX9_region_29 fl_9_57 (kX3 (iX9_0 h0)) (sX3_2 (iX9_0 h0))) ?_
  refine Eq.trans (e_iload_n dX9_region_32 rfl) ?_
  refine Eq.trans (e_iload_n dX9_region_33 rfl) ?_
  exact e_invv dX9_region_34 cl_9_61 (kX5 (iX3_2 (iX9_0 h0))) (by simp) rfl rfl (by simp)
theorem BX9_region_37 {C : gC} {G : gG} {Q : gK} {σ : gM} {a0 : Nat} {v1 : Int32} {v2 : Int32} {wv3 : Value} {s0 : Int32} (h0 : isX9 G a0) : gw C G mX9_region Q 37 [.ref a0, .int v1, .int v2, wv3] [.int s0] σ = (if s0 = (-1) then Q (some (.int (-3))) σ else Q (some (.int s0)) σ) := by
  refine Eq.trans (e_istore_n dX9_region_37 (Nat.le_of_ble_eq_true rfl)) ?_
  refine Eq.trans (e_iload_n dX9_region_38 rfl) ?_
  refine Eq.trans (e_iconst (x := (-1)) dX9_region_39 (by decide)) ?_
  refine Eq.trans (e_ic_ne (t := 48) dX9_region_40 (by decide)) (g_ite ?_ ?_)
  · refine Eq.trans (e_bipush (x := (-3)) dX9_region_43 (by decide)) ?_
    refine Eq.trans (e_goto (t := 49) dX9_region_45 (by decide)) ?_
    exact e_ireti dX9_region_49 rfl
  · refine Eq.trans (e_iload_n dX9_region_48 rfl) ?_
    exact e_ireti dX9_region_49 rfl
theorem BX9_block_0 {C : gC} {G : gG} {Q : gK} {σ : gM} {a0 : Nat} {v1 : Int32} {v2 : Int32} {v3 : Int32} (h0 : isX9 G a0) : gw C G mX9_block Q 0 [.ref a0, .int v1, .int v2, .int v3, .long 0, .long 0] [] σ = (g_inv C mX5_has [.ref (a0 + 3), .int v1] σ fun r σ' => gw C G mX9_block Q 11 [.ref a0, .int v1, .int v2, .int v3, .long 0, .long 0] (r.toList ++ []) σ') := by
  refine Eq.trans (e_aload_n dX9_block_0 rfl) ?_
  refine Eq.trans (e_getr (b := a0 + 1) dX9_block_1 fl_9_10 (kX9 h0) (sX9_0 h0)) ?_
  refine Eq.trans (e_getr (b := a0 + 3) dX9_block_4 fl_9_57 (kX3 (iX9_0 h0)) (sX3_2 (iX9_0 h0))) ?_
  refine Eq.trans (e_iload_n dX9_block_7 rfl) ?_
  exact e_invv dX9_block_8 cl_9_67 (kX5 (iX3_2 (iX9_0 h0))) (by simp) rfl rfl (by simp)
theorem BX9_block_11 {C : gC} {G : gG} {Q : gK} {σ : gM} {a0 : Nat} {v1 : Int32} {v2 : Int32} {v3 : Int32} {wv4 : Value} {wv5 : Value} {s0 : Int32} (h0 : isX9 G a0) : gw C G mX9_block Q 11 [.ref a0, .int v1, .int v2, .int v3, wv4, wv5] [.int s0] σ = (if s0 = 0 then Q (some (.int (-1))) σ else (g_inv C mX9_isBlockLength [.int v2] σ fun r σ' => gw C G mX9_block Q 18 [.ref a0, .int v1, .int v2, .int v3, wv4, wv5] (r.toList ++ []) σ')) := by
  refine Eq.trans (e_if_eq (t := 28) dX9_block_11 (by decide)) (g_ite ?_ ?_)
  · refine Eq.trans (e_iconst (x := (-1)) dX9_block_28 (by decide)) ?_
    exact e_ireti dX9_block_29 rfl
  · refine Eq.trans (e_iload_n dX9_block_14 rfl) ?_
    exact e_invs dX9_block_15 cl_9_71 (by decide) (by simp) rfl rfl (by simp)
theorem BX9_block_18 {C : gC} {G : gG} {Q : gK} {σ : gM} {a0 : Nat} {v1 : Int32} {v2 : Int32} {v3 : Int32} {wv4 : Value} {wv5 : Value} {s0 : Int32} (h0 : isX9 G a0) : gw C G mX9_block Q 18 [.ref a0, .int v1, .int v2, .int v3, wv4, wv5] [.int s0] σ = (if s0 = 0 then Q (some (.int (-1))) σ else (g_inv C mX9_isOwner [.int v3] σ fun r σ' => gw C G mX9_block Q 25 [.ref a0, .int v1, .int v2, .int v3, wv4, wv5] (r.toList ++ []) σ')) := by
  refine Eq.trans (e_if_eq (t := 28) dX9_block_18 (by decide)) (g_ite ?_ ?_)
  · refine Eq.trans (e_iconst (x := (-1)) dX9_block_28 (by decide)) ?_
    exact e_ireti dX9_block_29 rfl
  · refine Eq.trans (e_iload_n dX9_block_21 rfl) ?_
    exact e_invs dX9_block_22 cl_9_74 (by decide) (by simp) rfl rfl (by simp)
theorem BX9_block_25 {C : gC} {G : gG} {Q : gK} {σ : gM} {a0 : Nat} {v1 : Int32} {v2 : Int32} {v3 : Int32} {wv4 : Value} {wv5 : Value} {s0 : Int32} (h0 : isX9 G a0) : gw C G mX9_block Q 25 [.ref a0, .int v1, .int v2, .int v3, wv4, wv5] [.int s0] σ = (if s0 = 0 then Q (some (.int (-1))) σ else (g_inv C mX3_quotaAllows [.ref (a0 + 1), .int v3, .int v2] σ fun r σ' => gw C G mX9_block Q 39 [.ref a0, .int v1, .int v2, .int v3, wv4, wv5] (r.toList ++ []) σ')) := by
  refine Eq.trans (e_if_ne (t := 30) dX9_block_25 (by decide)) (g_ite ?_ ?_)
  · refine Eq.trans (e_iconst (x := (-1)) dX9_block_28 (by decide)) ?_
    exact e_ireti dX9_block_29 rfl
  · refine Eq.trans (e_aload_n dX9_block_30 rfl) ?_
    refine Eq.trans (e_getr (b := a0 + 1) dX9_block_31 fl_9_10 (kX9 h0) (sX9_0 h0)) ?_
    refine Eq.trans (e_iload_n dX9_block_34 rfl) ?_
    refine Eq.trans (e_iload_n dX9_block_35 rfl) ?_
    exact e_invv dX9_block_36 cl_9_77 (kX3 (iX9_0 h0)) (by simp) rfl rfl (by simp)
theorem BX9_block_39 {C : gC} {G : gG} {Q : gK} {σ : gM} {a0 : Nat} {v1 : Int32} {v2 : Int32} {v3 : Int32} {wv4 : Value} {wv5 : Value} {s0 : Int32} (h0 : isX9 G a0) : gw C G mX9_block Q 39 [.ref a0, .int v1, .int v2, .int v3, wv4, wv5] [.int s0] σ = (if s0 = 0 then Q (some (.int (-6))) σ else (g_inv C mX0_leastUnusedSlot [.ref (a0 + 9)] σ fun r σ' => gw C G mX9_block Q 55 [.ref a0, .int v1, .int v2, .int v3, wv4, wv5] (r.toList ++ []) σ')) := by
  refine Eq.trans (e_if_ne (t := 45) dX9_block_39 (by decide)) (g_ite ?_ ?_)
  · refine Eq.trans (e_bipush (x := (-6)) dX9_block_42 (by decide)) ?_
    exact e_ireti dX9_block_44 rfl
  · refine Eq.trans (e_aload_n dX9_block_45 rfl) ?_
    refine Eq.trans (e_getr (b := a0 + 1) dX9_block_46 fl_9_10 (kX9 h0) (sX9_0 h0)) ?_
    refine Eq.trans (e_getr (b := a0 + 9) dX9_block_49 fl_9_81 (kX3 (iX9_0 h0)) (sX3_4 (iX9_0 h0))) ?_
    exact e_invv dX9_block_52 cl_9_85 (kX0 (iX3_4 (iX9_0 h0))) (by simp) rfl rfl (by simp)
theorem BX9_block_55 {C : gC} {G : gG} {Q : gK} {σ : gM} {a0 : Nat} {v1 : Int32} {v2 : Int32} {v3 : Int32} {wv4 : Value} {wv5 : Value} {s0 : Int32} (h0 : isX9 G a0) : gw C G mX9_block Q 55 [.ref a0, .int v1, .int v2, .int v3, wv4, wv5] [.int s0] σ = (g_inv C mX3_placeFor [.ref (a0 + 1), .int v1, .int v2] σ fun r σ' => gw C G mX9_block Q 66 [.ref a0, .int v1, .int v2, .int v3, .int s0, wv5] (r.toList ++ []) σ') := by
  refine Eq.trans (e_istore dX9_block_55 (Nat.le_of_ble_eq_true rfl)) ?_
  refine Eq.trans (e_aload_n dX9_block_57 rfl) ?_
  refine Eq.trans (e_getr (b := a0 + 1) dX9_block_58 fl_9_10 (kX9 h0) (sX9_0 h0)) ?_
  refine Eq.trans (e_iload_n dX9_block_61 rfl) ?_
  refine Eq.trans (e_iload_n dX9_block_62 rfl) ?_
  exact e_invv dX9_block_63 cl_9_91 (kX3 (iX9_0 h0)) (by simp) rfl rfl (by simp)
theorem BX9_block_66 {C : gC} {G : gG} {Q : gK} {σ : gM} {a0 : Nat} {v1 : Int32} {v2 : Int32} {v3 : Int32} {v4 : Int32} {wv5 : Value} {s0 : Int32} (h0 : isX9 G a0) : gw C G mX9_block Q 66 [.ref a0, .int v1, .int v2, .int v3, .int v4, wv5] [.int s0] σ = (if v4 = (-1) then Q (some (.int (-3))) σ else (if s0 = (-1) then Q (some (.int (-3))) σ else (g_inv C mX3_makeBlock [.ref (a0 + 1), .int v4, .int v1, .int s0, .int v2, .int v3] σ fun r σ' => gw C G mX9_block Q 97 [.ref a0, .int v1, .int v2, .int v3, .int v4, .int s0] (r.toList ++ []) σ'))) := by
  refine Eq.trans (e_istore dX9_block_66 (Nat.le_of_ble_eq_true rfl)) ?_
  refine Eq.trans (e_iload dX9_block_68 rfl) ?_
  refine Eq.trans (e_iconst (x := (-1)) dX9_block_70 (by decide)) ?_
  refine Eq.trans (e_ic_eq (t := 80) dX9_block_71 (by decide)) (g_ite ?_ ?_)
  · refine Eq.trans (e_bipush (x := (-3)) dX9_block_80 (by decide)) ?_
    exact e_ireti dX9_block_82 rfl
  · refine Eq.trans (e_iload dX9_block_74 rfl) ?_
    refine Eq.trans (e_iconst (x := (-1)) dX9_block_76 (by decide)) ?_
    refine Eq.trans (e_ic_ne (t := 83) dX9_block_77 (by decide)) (g_ite ?_ ?_)
    · refine Eq.trans (e_bipush (x := (-3)) dX9_block_80 (by decide)) ?_
      exact e_ireti dX9_block_82 rfl
    · refine Eq.trans (e_aload_n dX9_block_83 rfl) ?_
      refine Eq.trans (e_getr (b := a0 + 1) dX9_block_84 fl_9_10 (kX9 h0) (sX9_0 h0)) ?_
      refine Eq.trans (e_iload dX9_block_87 rfl) ?_
      refine Eq.trans (e_iload_n dX9_block_89 rfl) ?_
      refine Eq.trans (e_iload dX9_block_90 rfl) ?_
      refine Eq.trans (e_iload_n dX9_block_92 rfl) ?_
      refine Eq.trans (e_iload_n dX9_block_93 rfl) ?_
      exact e_invv dX9_block_94 cl_9_94 (kX3 (iX9_0 h0)) (by simp) rfl rfl (by simp)
theorem BX9_block_97 {C : gC} {G : gG} {Q : gK} {σ : gM} {a0 : Nat} {v1 : Int32} {v2 : Int32} {v3 : Int32} {v4 : Int32} {v5 : Int32} (h0 : isX9 G a0) : gw C G mX9_block Q 97 [.ref a0, .int v1, .int v2, .int v3, .int v4, .int v5] [] σ = (g_inv C mX0_handleOf [.ref (a0 + 9), .int v4] σ fun r σ' => gw C G mX9_block Q 109 [.ref a0, .int v1, .int v2, .int v3, .int v4, .int v5] (r.toList ++ []) σ') := by
  refine Eq.trans (e_aload_n dX9_block_97 rfl) ?_
  refine Eq.trans (e_getr (b := a0 + 1) dX9_block_98 fl_9_10 (kX9 h0) (sX9_0 h0)) ?_
  refine Eq.trans (e_getr (b := a0 + 9) dX9_block_101 fl_9_81 (kX3 (iX9_0 h0)) (sX3_4 (iX9_0 h0))) ?_
  refine Eq.trans (e_iload dX9_block_104 rfl) ?_
  exact e_invv dX9_block_106 cl_9_98 (kX0 (iX3_4 (iX9_0 h0))) (by simp) rfl rfl (by simp)
theorem BX9_block_109 {C : gC} {G : gG} {Q : gK} {σ : gM} {a0 : Nat} {v1 : Int32} {v2 : Int32} {v3 : Int32} {v4 : Int32} {v5 : Int32} {s0 : Int32} (h0 : isX9 G a0) : gw C G mX9_block Q 109 [.ref a0, .int v1, .int v2, .int v3, .int v4, .int v5] [.int s0] σ = Q (some (.int s0)) σ := by
  exact e_ireti dX9_block_109 rfl
theorem BX9_isBlockLength_0 {C : gC} {G : gG} {Q : gK} {σ : gM} {v0 : Int32}  : gw C G mX9_isBlockLength Q 0 [.int v0] [] σ = (if v0 < 1 then Q (some (.int 0)) σ else (if 40 < v0 then Q (some (.int 0)) σ else Q (some (.int 1)) σ)) := by
  refine Eq.trans (e_iload_n dX9_isBlockLength_0 rfl) ?_
  refine Eq.trans (e_iconst (x := 1) dX9_isBlockLength_1 (by decide)) ?_
  refine Eq.trans (e_ic_lt (t := 15) dX9_isBlockLength_2 (by decide)) (g_ite ?_ ?_)
  · refine Eq.trans (e_iconst (x := 0) dX9_isBlockLength_15 (by decide)) ?_
    exact Eq.trans (e_iretz dX9_isBlockLength_16 rfl) (g_and (by decide))
  · refine Eq.trans (e_iload_n dX9_isBlockLength_5 rfl) ?_
    refine Eq.trans (e_bipush (x := 40) dX9_isBlockLength_6 (by decide)) ?_
    refine Eq.trans (e_ic_gt (t := 15) dX9_isBlockLength_8 (by decide)) (g_ite ?_ ?_)
    · refine Eq.trans (e_iconst (x := 0) dX9_isBlockLength_15 (by decide)) ?_
      exact Eq.trans (e_iretz dX9_isBlockLength_16 rfl) (g_and (by decide))
    · refine Eq.trans (e_iconst (x := 1) dX9_isBlockLength_11 (by decide)) ?_
      refine Eq.trans (e_goto (t := 16) dX9_isBlockLength_12 (by decide)) ?_
      exact Eq.trans (e_iretz dX9_isBlockLength_16 rfl) (g_and (by decide))
theorem BX9_isOwner_0 {C : gC} {G : gG} {Q : gK} {σ : gM} {v0 : Int32}  : gw C G mX9_isOwner Q 0 [.int v0] [] σ = (if v0 < 0 then Q (some (.int 0)) σ else (if v0 < 10 then Q (some (.int 1)) σ else Q (some (.int 0)) σ)) := by
  refine Eq.trans (e_iload_n dX9_isOwner_0 rfl) ?_
  refine Eq.trans (e_if_lt (t := 14) dX9_isOwner_1 (by decide)) (g_ite ?_ ?_)
  · refine Eq.trans (e_iconst (x := 0) dX9_isOwner_14 (by decide)) ?_
    exact Eq.trans (e_iretz dX9_isOwner_15 rfl) (g_and (by decide))
  · refine Eq.trans (e_iload_n dX9_isOwner_4 rfl) ?_
    refine Eq.trans (e_bipush (x := 10) dX9_isOwner_5 (by decide)) ?_
    refine Eq.trans (e_ic_ge (t := 14) dX9_isOwner_7 (by decide)) (g_ite ?_ ?_)
    · refine Eq.trans (e_iconst (x := 1) dX9_isOwner_10 (by decide)) ?_
      refine Eq.trans (e_goto (t := 15) dX9_isOwner_11 (by decide)) ?_
      exact Eq.trans (e_iretz dX9_isOwner_15 rfl) (g_and (by decide))
    · refine Eq.trans (e_iconst (x := 0) dX9_isOwner_14 (by decide)) ?_
      exact Eq.trans (e_iretz dX9_isOwner_15 rfl) (g_and (by decide))
theorem BX9_free_0 {C : gC} {G : gG} {Q : gK} {σ : gM} {a0 : Nat} {v1 : Int32} (h0 : isX9 G a0) : gw C G mX9_free Q 0 [.ref a0, .int v1, .long 0] [] σ = (g_inv C mX0_liveSlotOf [.ref (a0 + 9), .int v1] σ fun r σ' => gw C G mX9_free Q 11 [.ref a0, .int v1, .long 0] (r.toList ++ []) σ') := by
  refine Eq.trans (e_aload_n dX9_free_0 rfl) ?_
  refine Eq.trans (e_getr (b := a0 + 1) dX9_free_1 fl_9_10 (kX9 h0) (sX9_0 h0)) ?_
  refine Eq.trans (e_getr (b := a0 + 9) dX9_free_4 fl_9_81 (kX3 (iX9_0 h0)) (sX3_4 (iX9_0 h0))) ?_
  refine Eq.trans (e_iload_n dX9_free_7 rfl) ?_
  exact e_invv dX9_free_8 cl_9_102 (kX0 (iX3_4 (iX9_0 h0))) (by simp) rfl rfl (by simp)
theorem BX9_free_11 {C : gC} {G : gG} {Q : gK} {σ : gM} {a0 : Nat} {v1 : Int32} {wv2 : Value} {s0 : Int32} (h0 : isX9 G a0) : gw C G mX9_free Q 11 [.ref a0, .int v1, wv2] [.int s0] σ = (if s0 = (-1) then Q (some (.int (-4))) σ else (vp_in s0 30 ∧ (if 0 < (σ (a0 + 16) s0.toNatClampNeg) then Q (some (.int (-5))) σ else (g_inv C mX3_doom [.ref (a0 + 1), .int s0] σ fun r σ' => gw C G mX9_free Q 46 [.ref a0, .int v1, .int s0] (r.toList ++ []) σ')))) := by
  refine Eq.trans (e_istore_n dX9_free_11 (Nat.le_of_ble_eq_true rfl)) ?_
  refine Eq.trans (e_iload_n dX9_free_12 rfl) ?_
  refine Eq.trans (e_iconst (x := (-1)) dX9_free_13 (by decide)) ?_
  refine Eq.trans (e_ic_ne (t := 20) dX9_free_14 (by decide)) (g_ite ?_ ?_)
  · refine Eq.trans (e_bipush (x := (-4)) dX9_free_17 (by decide)) ?_
    exact e_ireti dX9_free_19 rfl
  · refine Eq.trans (e_aload_n dX9_free_20 rfl) ?_
    refine Eq.trans (e_getr (b := a0 + 1) dX9_free_21 fl_9_10 (kX9 h0) (sX9_0 h0)) ?_
    refine Eq.trans (e_getr (b := a0 + 9) dX9_free_24 fl_9_81 (kX3 (iX9_0 h0)) (sX3_4 (iX9_0 h0))) ?_
    refine Eq.trans (e_getr (b := a0 + 16) dX9_free_27 fl_9_105 (kX0 (iX3_4 (iX9_0 h0))) (sX0_6 (iX3_4 (iX9_0 h0)))) ?_
    refine Eq.trans (e_iload_n dX9_free_30 rfl) ?_
    refine Eq.trans (e_iald dX9_free_31 (aX0_6 (iX3_4 (iX9_0 h0))) (nX0_6 (iX3_4 (iX9_0 h0)))) (g_cj ?_)
    refine Eq.trans (e_if_le (t := 38) dX9_free_32 (by decide)) (g_ite ?_ ?_)
    · refine Eq.trans (e_bipush (x := (-5)) dX9_free_35 (by decide)) ?_
      exact e_ireti dX9_free_37 rfl
    · refine Eq.trans (e_aload_n dX9_free_38 rfl) ?_
      refine Eq.trans (e_getr (b := a0 + 1) dX9_free_39 fl_9_10 (kX9 h0) (sX9_0 h0)) ?_
      refine Eq.trans (e_iload_n dX9_free_42 rfl) ?_
      exact e_invv dX9_free_43 cl_9_109 (kX3 (iX9_0 h0)) (by simp) rfl rfl (by simp)
theorem BX9_free_46 {C : gC} {G : gG} {Q : gK} {σ : gM} {a0 : Nat} {v1 : Int32} {v2 : Int32} (h0 : isX9 G a0) : gw C G mX9_free Q 46 [.ref a0, .int v1, .int v2] [] σ = Q (some (.int (σ (a0 + 1) 0))) σ := by
  refine Eq.trans (e_aload_n dX9_free_46 rfl) ?_
  refine Eq.trans (e_getr (b := a0 + 1) dX9_free_47 fl_9_10 (kX9 h0) (sX9_0 h0)) ?_
  refine Eq.trans (e_geti dX9_free_50 fl_9_113 (kX3 (iX9_0 h0))) ?_
  exact e_ireti dX9_free_53 rfl
theorem BX9_pin_0 {C : gC} {G : gG} {Q : gK} {σ : gM} {a0 : Nat} {v1 : Int32} {v2 : Int32} (h0 : isX9 G a0) : gw C G mX9_pin Q 0 [.ref a0, .int v1, .int v2, .long 0, .long 0] [] σ = (if v2 = 1 then gw C G mX9_pin Q 12 [.ref a0, .int v1, .int v2, .long 0, .long 0] [] σ else (if v2 = (-1) then gw C G mX9_pin Q 12 [.ref a0, .int v1, .int v2, .long 0, .long 0] [] σ else Q (some (.int (-1))) σ)) := by
  refine Eq.trans (e_iload_n dX9_pin_0 rfl) ?_
  refine Eq.trans (e_iconst (x := 1) dX9_pin_1 (by decide)) ?_
  refine Eq.trans (e_ic_eq (t := 12) dX9_pin_2 (by decide)) (g_ite ?_ ?_)
  · rfl
  · refine Eq.trans (e_iload_n dX9_pin_5 rfl) ?_
    refine Eq.trans (e_iconst (x := (-1)) dX9_pin_6 (by decide)) ?_
    refine Eq.trans (e_ic_eq (t := 12) dX9_pin_7 (by decide)) (g_ite ?_ ?_)
    · rfl
    · refine Eq.trans (e_iconst (x := (-1)) dX9_pin_10 (by decide)) ?_
      exact e_ireti dX9_pin_11 rfl
theorem BX9_pin_12 {C : gC} {G : gG} {Q : gK} {σ : gM} {a0 : Nat} {v1 : Int32} {v2 : Int32} {wv3 : Value} {wv4 : Value} (h0 : isX9 G a0) : gw C G mX9_pin Q 12 [.ref a0, .int v1, .int v2, wv3, wv4] [] σ = (g_inv C mX0_liveSlotOf [.ref (a0 + 9), .int v1] σ fun r σ' => gw C G mX9_pin Q 23 [.ref a0, .int v1, .int v2, wv3, wv4] (r.toList ++ []) σ') := by
  refine Eq.trans (e_aload_n dX9_pin_12 rfl) ?_
  refine Eq.trans (e_getr (b := a0 + 1) dX9_pin_13 fl_9_10 (kX9 h0) (sX9_0 h0)) ?_
  refine Eq.trans (e_getr (b := a0 + 9) dX9_pin_16 fl_9_81 (kX3 (iX9_0 h0)) (sX3_4 (iX9_0 h0))) ?_
  refine Eq.trans (e_iload_n dX9_pin_19 rfl) ?_
  exact e_invv dX9_pin_20 cl_9_102 (kX0 (iX3_4 (iX9_0 h0))) (by simp) rfl rfl (by simp)
theorem BX9_pin_23 {C : gC} {G : gG} {Q : gK} {σ : gM} {a0 : Nat} {v1 : Int32} {v2 : Int32} {wv3 : Value} {wv4 : Value} {s0 : Int32} (h0 : isX9 G a0) : gw C G mX9_pin Q 23 [.ref a0, .int v1, .int v2, wv3, wv4] [.int s0] σ = (if s0 = (-1) then Q (some (.int (-4))) σ else (vp_in s0 30 ∧ (if ((σ (a0 + 16) s0.toNatClampNeg) + v2) < 0 then Q (some (.int (-5))) σ else (if 9 < ((σ (a0 + 16) s0.toNatClampNeg) + v2) then Q (some (.int (-5))) σ else (vp_in s0 30 ∧ Q (some (.int ((σ (a0 + 16) s0.toNatClampNeg) + v2))) (g_up σ (a0 + 16) s0.toNatClampNeg ((σ (a0 + 16) s0.toNatClampNeg) + v2))))))) := by
  refine Eq.trans (e_istore_n dX9_pin_23 (Nat.le_of_ble_eq_true rfl)) ?_
  refine Eq.trans (e_iload_n dX9_pin_24 rfl) ?_
  refine Eq.trans (e_iconst (x := (-1)) dX9_pin_25 (by decide)) ?_
  refine Eq.trans (e_ic_ne (t := 32) dX9_pin_26 (by decide)) (g_ite ?_ ?_)
  · refine Eq.trans (e_bipush (x := (-4)) dX9_pin_29 (by decide)) ?_
    exact e_ireti dX9_pin_31 rfl
  · refine Eq.trans (e_aload_n dX9_pin_32 rfl) ?_
    refine Eq.trans (e_getr (b := a0 + 1) dX9_pin_33 fl_9_10 (kX9 h0) (sX9_0 h0)) ?_
    refine Eq.trans (e_getr (b := a0 + 9) dX9_pin_36 fl_9_81 (kX3 (iX9_0 h0)) (sX3_4 (iX9_0 h0))) ?_
    refine Eq.trans (e_getr (b := a0 + 16) dX9_pin_39 fl_9_105 (kX0 (iX3_4 (iX9_0 h0))) (sX0_6 (iX3_4 (iX9_0 h0)))) ?_
    refine Eq.trans (e_iload_n dX9_pin_42 rfl) ?_
    refine Eq.trans (e_iald dX9_pin_43 (aX0_6 (iX3_4 (iX9_0 h0))) (nX0_6 (iX3_4 (iX9_0 h0)))) (g_cj ?_)
    refine Eq.trans (e_iload_n dX9_pin_44 rfl) ?_
    refine Eq.trans (e_iadd dX9_pin_45) ?_
    refine Eq.trans (e_istore dX9_pin_46 (Nat.le_of_ble_eq_true rfl)) ?_
    refine Eq.trans (e_iload dX9_pin_48 rfl) ?_
    refine Eq.trans (e_if_lt (t := 60) dX9_pin_50 (by decide)) (g_ite ?_ ?_)
    · refine Eq.trans (e_bipush (x := (-5)) dX9_pin_60 (by decide)) ?_
      exact e_ireti dX9_pin_62 rfl
    · refine Eq.trans (e_iload dX9_pin_53 rfl) ?_
      refine Eq.trans (e_bipush (x := 9) dX9_pin_55 (by decide)) ?_
      refine Eq.trans (e_ic_le (t := 63) dX9_pin_57 (by decide)) (g_ite ?_ ?_)
      · refine Eq.trans (e_bipush (x := (-5)) dX9_pin_60 (by decide)) ?_
        exact e_ireti dX9_pin_62 rfl
      · refine Eq.trans (e_aload_n dX9_pin_63 rfl) ?_
        refine Eq.trans (e_getr (b := a0 + 1) dX9_pin_64 fl_9_10 (kX9 h0) (sX9_0 h0)) ?_
        refine Eq.trans (e_getr (b := a0 + 9) dX9_pin_67 fl_9_81 (kX3 (iX9_0 h0)) (sX3_4 (iX9_0 h0))) ?_
        refine Eq.trans (e_getr (b := a0 + 16) dX9_pin_70 fl_9_105 (kX0 (iX3_4 (iX9_0 h0))) (sX0_6 (iX3_4 (iX9_0 h0)))) ?_
        refine Eq.trans (e_iload_n dX9_pin_73 rfl) ?_
        refine Eq.trans (e_iload dX9_pin_74 rfl) ?_
        refine Eq.trans (e_iast dX9_pin_76 (aX0_6 (iX3_4 (iX9_0 h0))) (nX0_6 (iX3_4 (iX9_0 h0)))) (g_cj ?_)
        refine Eq.trans (e_iload dX9_pin_77 rfl) ?_
        exact e_ireti dX9_pin_79 rfl
theorem BX9_grow_0 {C : gC} {G : gG} {Q : gK} {σ : gM} {a0 : Nat} {v1 : Int32} {v2 : Int32} (h0 : isX9 G a0) : gw C G mX9_grow Q 0 [.ref a0, .int v1, .int v2, .long 0] [] σ = (if v2 < 1 then Q (some (.int (-1))) σ else (if v2 < 40 then (g_inv C mX0_liveSlotOf [.ref (a0 + 9), .int v1] σ fun r σ' => gw C G mX9_grow Q 24 [.ref a0, .int v1, .int v2, .long 0] (r.toList ++ []) σ') else Q (some (.int (-1))) σ)) := by
  refine Eq.trans (e_iload_n dX9_grow_0 rfl) ?_
  refine Eq.trans (e_iconst (x := 1) dX9_grow_1 (by decide)) ?_
  refine Eq.trans (e_ic_lt (t := 11) dX9_grow_2 (by decide)) (g_ite ?_ ?_)
  · refine Eq.trans (e_iconst (x := (-1)) dX9_grow_11 (by decide)) ?_
    exact e_ireti dX9_grow_12 rfl
  · refine Eq.trans (e_iload_n dX9_grow_5 rfl) ?_
    refine Eq.trans (e_bipush (x := 40) dX9_grow_6 (by decide)) ?_
    refine Eq.trans (e_ic_lt (t := 13) dX9_grow_8 (by decide)) (g_ite ?_ ?_)
    · refine Eq.trans (e_aload_n dX9_grow_13 rfl) ?_
      refine Eq.trans (e_getr (b := a0 + 1) dX9_grow_14 fl_9_10 (kX9 h0) (sX9_0 h0)) ?_
      refine Eq.trans (e_getr (b := a0 + 9) dX9_grow_17 fl_9_81 (kX3 (iX9_0 h0)) (sX3_4 (iX9_0 h0))) ?_
      refine Eq.trans (e_iload_n dX9_grow_20 rfl) ?_
      exact e_invv dX9_grow_21 cl_9_102 (kX0 (iX3_4 (iX9_0 h0))) (by simp) rfl rfl (by simp)
    · refine Eq.trans (e_iconst (x := (-1)) dX9_grow_11 (by decide)) ?_
      exact e_ireti dX9_grow_12 rfl
theorem BX9_grow_24 {C : gC} {G : gG} {Q : gK} {σ : gM} {a0 : Nat} {v1 : Int32} {v2 : Int32} {wv3 : Value} {s0 : Int32} (h0 : isX9 G a0) : gw C G mX9_grow Q 24 [.ref a0, .int v1, .int v2, wv3] [.int s0] σ = (if s0 = (-1) then Q (some (.int (-4))) σ else (vp_in s0 30 ∧ (if 0 < (σ (a0 + 16) s0.toNatClampNeg) then Q (some (.int (-5))) σ else (vp_in s0 30 ∧ (g_inv C mX3_quotaAllows [.ref (a0 + 1), .int (σ (a0 + 15) s0.toNatClampNeg), .int v2] σ fun r σ' => gw C G mX9_grow Q 71 [.ref a0, .int v1, .int v2, .int s0] (r.toList ++ []) σ'))))) := by
  refine Eq.trans (e_istore_n dX9_grow_24 (Nat.le_of_ble_eq_true rfl)) ?_
  refine Eq.trans (e_iload_n dX9_grow_25 rfl) ?_
  refine Eq.trans (e_iconst (x := (-1)) dX9_grow_26 (by decide)) ?_
  refine Eq.trans (e_ic_ne (t := 33) dX9_grow_27 (by decide)) (g_ite ?_ ?_)
  · refine Eq.trans (e_bipush (x := (-4)) dX9_grow_30 (by decide)) ?_
    exact e_ireti dX9_grow_32 rfl
  · refine Eq.trans (e_aload_n dX9_grow_33 rfl) ?_
    refine Eq.trans (e_getr (b := a0 + 1) dX9_grow_34 fl_9_10 (kX9 h0) (sX9_0 h0)) ?_
    refine Eq.trans (e_getr (b := a0 + 9) dX9_grow_37 fl_9_81 (kX3 (iX9_0 h0)) (sX3_4 (iX9_0 h0))) ?_
    refine Eq.trans (e_getr (b := a0 + 16) dX9_grow_40 fl_9_105 (kX0 (iX3_4 (iX9_0 h0))) (sX0_6 (iX3_4 (iX9_0 h0)))) ?_
    refine Eq.trans (e_iload_n dX9_grow_43 rfl) ?_
    refine Eq.trans (e_iald dX9_grow_44 (aX0_6 (iX3_4 (iX9_0 h0))) (nX0_6 (iX3_4 (iX9_0 h0)))) (g_cj ?_)
    refine Eq.trans (e_if_le (t := 51) dX9_grow_45 (by decide)) (g_ite ?_ ?_)
    · refine Eq.trans (e_bipush (x := (-5)) dX9_grow_48 (by decide)) ?_
      exact e_ireti dX9_grow_50 rfl
    · refine Eq.trans (e_aload_n dX9_grow_51 rfl) ?_
      refine Eq.trans (e_getr (b := a0 + 1) dX9_grow_52 fl_9_10 (kX9 h0) (sX9_0 h0)) ?_
      refine Eq.trans (e_aload_n dX9_grow_55 rfl) ?_
      refine Eq.trans (e_getr (b := a0 + 1) dX9_grow_56 fl_9_10 (kX9 h0) (sX9_0 h0)) ?_
      refine Eq.trans (e_getr (b := a0 + 9) dX9_grow_59 fl_9_81 (kX3 (iX9_0 h0)) (sX3_4 (iX9_0 h0))) ?_
      refine Eq.trans (e_getr (b := a0 + 15) dX9_grow_62 fl_9_117 (kX0 (iX3_4 (iX9_0 h0))) (sX0_5 (iX3_4 (iX9_0 h0)))) ?_
      refine Eq.trans (e_iload_n dX9_grow_65 rfl) ?_
      refine Eq.trans (e_iald dX9_grow_66 (aX0_5 (iX3_4 (iX9_0 h0))) (nX0_5 (iX3_4 (iX9_0 h0)))) (g_cj ?_)
      refine Eq.trans (e_iload_n dX9_grow_67 rfl) ?_
      exact e_invv dX9_grow_68 cl_9_77 (kX3 (iX9_0 h0)) (by simp) rfl rfl (by simp)
theorem BX9_grow_71 {C : gC} {G : gG} {Q : gK} {σ : gM} {a0 : Nat} {v1 : Int32} {v2 : Int32} {v3 : Int32} {s0 : Int32} (h0 : isX9 G a0) : gw C G mX9_grow Q 71 [.ref a0, .int v1, .int v2, .int v3] [.int s0] σ = (if s0 = 0 then Q (some (.int (-6))) σ else (vp_in v3 30 ∧ (g_inv C mX9_isBlockLength [.int ((σ (a0 + 13) v3.toNatClampNeg) + v2)] σ fun r σ' => gw C G mX9_grow Q 94 [.ref a0, .int v1, .int v2, .int v3] (r.toList ++ []) σ'))) := by
  refine Eq.trans (e_if_ne (t := 77) dX9_grow_71 (by decide)) (g_ite ?_ ?_)
  · refine Eq.trans (e_bipush (x := (-6)) dX9_grow_74 (by decide)) ?_
    exact e_ireti dX9_grow_76 rfl
  · refine Eq.trans (e_aload_n dX9_grow_77 rfl) ?_
    refine Eq.trans (e_getr (b := a0 + 1) dX9_grow_78 fl_9_10 (kX9 h0) (sX9_0 h0)) ?_
    refine Eq.trans (e_getr (b := a0 + 9) dX9_grow_81 fl_9_81 (kX3 (iX9_0 h0)) (sX3_4 (iX9_0 h0))) ?_
    refine Eq.trans (e_getr (b := a0 + 13) dX9_grow_84 fl_9_120 (kX0 (iX3_4 (iX9_0 h0))) (sX0_3 (iX3_4 (iX9_0 h0)))) ?_
    refine Eq.trans (e_iload_n dX9_grow_87 rfl) ?_
    refine Eq.trans (e_iald dX9_grow_88 (aX0_3 (iX3_4 (iX9_0 h0))) (nX0_3 (iX3_4 (iX9_0 h0)))) (g_cj ?_)
    refine Eq.trans (e_iload_n dX9_grow_89 rfl) ?_
    refine Eq.trans (e_iadd dX9_grow_90) ?_
    exact e_invs dX9_grow_91 cl_9_71 (by decide) (by simp) rfl rfl (by simp)
theorem BX9_grow_94 {C : gC} {G : gG} {Q : gK} {σ : gM} {a0 : Nat} {v1 : Int32} {v2 : Int32} {v3 : Int32} {s0 : Int32} (h0 : isX9 G a0) : gw C G mX9_grow Q 94 [.ref a0, .int v1, .int v2, .int v3] [.int s0] σ = (if s0 = 0 then Q (some (.int (-3))) σ else (g_inv C mX3_growInPlace [.ref (a0 + 1), .int v3, .int v2] σ fun r σ' => gw C G mX9_grow Q 109 [.ref a0, .int v1, .int v2, .int v3] (r.toList ++ []) σ')) := by
  refine Eq.trans (e_if_ne (t := 100) dX9_grow_94 (by decide)) (g_ite ?_ ?_)
  · refine Eq.trans (e_bipush (x := (-3)) dX9_grow_97 (by decide)) ?_
    exact e_ireti dX9_grow_99 rfl
  · refine Eq.trans (e_aload_n dX9_grow_100 rfl) ?_
    refine Eq.trans (e_getr (b := a0 + 1) dX9_grow_101 fl_9_10 (kX9 h0) (sX9_0 h0)) ?_
    refine Eq.trans (e_iload_n dX9_grow_104 rfl) ?_
    refine Eq.trans (e_iload_n dX9_grow_105 rfl) ?_
    exact e_invv dX9_grow_106 cl_9_123 (kX3 (iX9_0 h0)) (by simp) rfl rfl (by simp)
theorem BX9_grow_109 {C : gC} {G : gG} {Q : gK} {σ : gM} {a0 : Nat} {v1 : Int32} {v2 : Int32} {v3 : Int32} {s0 : Int32} (h0 : isX9 G a0) : gw C G mX9_grow Q 109 [.ref a0, .int v1, .int v2, .int v3] [.int s0] σ = (if s0 = 0 then (g_inv C mX3_growElsewhere [.ref (a0 + 1), .int v3, .int v2] σ fun r σ' => gw C G mX9_grow Q 121 [.ref a0, .int v1, .int v2, .int v3] (r.toList ++ []) σ') else (vp_in v3 30 ∧ Q (some (.int (σ (a0 + 13) v3.toNatClampNeg))) σ)) := by
  refine Eq.trans (e_if_ne (t := 127) dX9_grow_109 (by decide)) (g_ite ?_ ?_)
  · refine Eq.trans (e_aload_n dX9_grow_112 rfl) ?_
    refine Eq.trans (e_getr (b := a0 + 1) dX9_grow_113 fl_9_10 (kX9 h0) (sX9_0 h0)) ?_
    refine Eq.trans (e_iload_n dX9_grow_116 rfl) ?_
    refine Eq.trans (e_iload_n dX9_grow_117 rfl) ?_
    exact e_invv dX9_grow_118 cl_9_126 (kX3 (iX9_0 h0)) (by simp) rfl rfl (by simp)
  · refine Eq.trans (e_aload_n dX9_grow_127 rfl) ?_
    refine Eq.trans (e_getr (b := a0 + 1) dX9_grow_128 fl_9_10 (kX9 h0) (sX9_0 h0)) ?_
    refine Eq.trans (e_getr (b := a0 + 9) dX9_grow_131 fl_9_81 (kX3 (iX9_0 h0)) (sX3_4 (iX9_0 h0))) ?_
    refine Eq.trans (e_getr (b := a0 + 13) dX9_grow_134 fl_9_120 (kX0 (iX3_4 (iX9_0 h0))) (sX0_3 (iX3_4 (iX9_0 h0)))) ?_
    refine Eq.trans (e_iload_n dX9_grow_137 rfl) ?_
    refine Eq.trans (e_iald dX9_grow_138 (aX0_3 (iX3_4 (iX9_0 h0))) (nX0_3 (iX3_4 (iX9_0 h0)))) (g_cj ?_)
    exact e_ireti dX9_grow_139 rfl
theorem BX9_grow_121 {C : gC} {G : gG} {Q : gK} {σ : gM} {a0 : Nat} {v1 : Int32} {v2 : Int32} {v3 : Int32} {s0 : Int32} (h0 : isX9 G a0) : gw C G mX9_grow Q 121 [.ref a0, .int v1, .int v2, .int v3] [.int s0] σ = (if s0 = 0 then Q (some (.int (-3))) σ else (vp_in v3 30 ∧ Q (some (.int (σ (a0 + 13) v3.toNatClampNeg))) σ)) := by
  refine Eq.trans (e_if_ne (t := 127) dX9_grow_121 (by decide)) (g_ite ?_ ?_)
  · refine Eq.trans (e_bipush (x := (-3)) dX9_grow_124 (by decide)) ?_
    exact e_ireti dX9_grow_126 rfl
  · refine Eq.trans (e_aload_n dX9_grow_127 rfl) ?_
    refine Eq.trans (e_getr (b := a0 + 1) dX9_grow_128 fl_9_10 (kX9 h0) (sX9_0 h0)) ?_
    refine Eq.trans (e_getr (b := a0 + 9) dX9_grow_131 fl_9_81 (kX3 (iX9_0 h0)) (sX3_4 (iX9_0 h0))) ?_
    refine Eq.trans (e_getr (b := a0 + 13) dX9_grow_134 fl_9_120 (kX0 (iX3_4 (iX9_0 h0))) (sX0_3 (iX3_4 (iX9_0 h0)))) ?_
    refine Eq.trans (e_iload_n dX9_grow_137 rfl) ?_
    refine Eq.trans (e_iald dX9_grow_138 (aX0_3 (iX3_4 (iX9_0 h0))) (nX0_3 (iX3_4 (iX9_0 h0)))) (g_cj ?_)
    exact e_ireti dX9_grow_139 rfl
theorem BX9_moves_0 {C : gC} {G : gG} {Q : gK} {σ : gM} {a0 : Nat} {v1 : Int32} {v2 : Int32} (h0 : isX9 G a0) : gw C G mX9_moves Q 0 [.ref a0, .int v1, .int v2] [] σ = (g_inv C mX5_has [.ref (a0 + 3), .int v1] σ fun r σ' => gw C G mX9_moves Q 11 [.ref a0, .int v1, .int v2] (r.toList ++ []) σ') := by
  refine Eq.trans (e_aload_n dX9_moves_0 rfl) ?_
  refine Eq.trans (e_getr (b := a0 + 1) dX9_moves_1 fl_9_10 (kX9 h0) (sX9_0 h0)) ?_
  refine Eq.trans (e_getr (b := a0 + 3) dX9_moves_4 fl_9_57 (kX3 (iX9_0 h0)) (sX3_2 (iX9_0 h0))) ?_
  refine Eq.trans (e_iload_n dX9_moves_7 rfl) ?_
  exact e_invv dX9_moves_8 cl_9_67 (kX5 (iX3_2 (iX9_0 h0))) (by simp) rfl rfl (by simp)
theorem BX9_moves_11 {C : gC} {G : gG} {Q : gK} {σ : gM} {a0 : Nat} {v1 : Int32} {v2 : Int32} {s0 : Int32} (h0 : isX9 G a0) : gw C G mX9_moves Q 11 [.ref a0, .int v1, .int v2] [.int s0] σ = (if s0 = 0 then Q (some (.int (-1))) σ else (if v2 < 0 then Q (some (.int (-1))) σ else (if 240 < v2 then Q (some (.int (-1))) σ else (g_inv C mX3_moveWithin [.ref (a0 + 1), .int v1, .int v2] σ fun r σ' => gw C G mX9_moves Q 36 [.ref a0, .int v1, .int v2] (r.toList ++ []) σ')))) := by
  refine Eq.trans (e_if_eq (t := 25) dX9_moves_11 (by decide)) (g_ite ?_ ?_)
  · refine Eq.trans (e_iconst (x := (-1)) dX9_moves_25 (by decide)) ?_
    exact e_ireti dX9_moves_26 rfl
  · refine Eq.trans (e_iload_n dX9_moves_14 rfl) ?_
    refine Eq.trans (e_if_lt (t := 25) dX9_moves_15 (by decide)) (g_ite ?_ ?_)
    · refine Eq.trans (e_iconst (x := (-1)) dX9_moves_25 (by decide)) ?_
      exact e_ireti dX9_moves_26 rfl
    · refine Eq.trans (e_iload_n dX9_moves_18 rfl) ?_
      refine Eq.trans (e_sipush (x := 240) dX9_moves_19 (by decide)) ?_
      refine Eq.trans (e_ic_le (t := 27) dX9_moves_22 (by decide)) (g_ite ?_ ?_)
      · refine Eq.trans (e_iconst (x := (-1)) dX9_moves_25 (by decide)) ?_
        exact e_ireti dX9_moves_26 rfl
      · refine Eq.trans (e_aload_n dX9_moves_27 rfl) ?_
        refine Eq.trans (e_getr (b := a0 + 1) dX9_moves_28 fl_9_10 (kX9 h0) (sX9_0 h0)) ?_
        refine Eq.trans (e_iload_n dX9_moves_31 rfl) ?_
        refine Eq.trans (e_iload_n dX9_moves_32 rfl) ?_
        exact e_invv dX9_moves_33 cl_9_129 (kX3 (iX9_0 h0)) (by simp) rfl rfl (by simp)
theorem BX9_moves_36 {C : gC} {G : gG} {Q : gK} {σ : gM} {a0 : Nat} {v1 : Int32} {v2 : Int32} {s0 : Int32} (h0 : isX9 G a0) : gw C G mX9_moves Q 36 [.ref a0, .int v1, .int v2] [.int s0] σ = Q (some (.int s0)) σ := by
  exact e_ireti dX9_moves_36 rfl
theorem BX9_write_0 {C : gC} {G : gG} {Q : gK} {σ : gM} {a0 : Nat} {v1 : Int32} {v2 : Int32} {v3 : Int32} (h0 : isX9 G a0) : gw C G mX9_write Q 0 [.ref a0, .int v1, .int v2, .int v3, .long 0, .long 0] [] σ = (g_inv C mX0_liveSlotOf [.ref (a0 + 9), .int v1] σ fun r σ' => gw C G mX9_write Q 15 [.ref a0, .int v1, .int v2, .int v3, .long 0, .long 0] (r.toList ++ [.ref (a0 + 1)]) σ') := by
  refine Eq.trans (e_aload_n dX9_write_0 rfl) ?_
  refine Eq.trans (e_getr (b := a0 + 1) dX9_write_1 fl_9_10 (kX9 h0) (sX9_0 h0)) ?_
  refine Eq.trans (e_aload_n dX9_write_4 rfl) ?_
  refine Eq.trans (e_getr (b := a0 + 1) dX9_write_5 fl_9_10 (kX9 h0) (sX9_0 h0)) ?_
  refine Eq.trans (e_getr (b := a0 + 9) dX9_write_8 fl_9_81 (kX3 (iX9_0 h0)) (sX3_4 (iX9_0 h0))) ?_
  refine Eq.trans (e_iload_n dX9_write_11 rfl) ?_
  exact e_invv dX9_write_12 cl_9_102 (kX0 (iX3_4 (iX9_0 h0))) (by simp) rfl rfl (by simp)
theorem BX9_write_15 {C : gC} {G : gG} {Q : gK} {σ : gM} {a0 : Nat} {v1 : Int32} {v2 : Int32} {v3 : Int32} {wv4 : Value} {wv5 : Value} {s1 : Int32} (h0 : isX9 G a0) : gw C G mX9_write Q 15 [.ref a0, .int v1, .int v2, .int v3, wv4, wv5] [.int s1, .ref (a0 + 1)] σ = (g_inv C mX3_cellAt [.ref (a0 + 1), .int s1, .int v2] σ fun r σ' => gw C G mX9_write Q 19 [.ref a0, .int v1, .int v2, .int v3, wv4, wv5] (r.toList ++ []) σ') := by
  refine Eq.trans (e_iload_n dX9_write_15 rfl) ?_
  exact e_invv dX9_write_16 cl_9_132 (kX3 (iX9_0 h0)) (by simp) rfl rfl (by simp)
theorem BX9_write_19 {C : gC} {G : gG} {Q : gK} {σ : gM} {a0 : Nat} {v1 : Int32} {v2 : Int32} {v3 : Int32} {wv4 : Value} {wv5 : Value} {s0 : Int32} (h0 : isX9 G a0) : gw C G mX9_write Q 19 [.ref a0, .int v1, .int v2, .int v3, wv4, wv5] [.int s0] σ = (if s0 = (-1) then Q (some (.int (-2000000000))) σ else (vp_in s0 240 ∧ (vp_in s0 240 ∧ Q (some (.int (σ (a0 + 2) s0.toNatClampNeg))) (g_up σ (a0 + 2) s0.toNatClampNeg v3)))) := by
  refine Eq.trans (e_istore dX9_write_19 (Nat.le_of_ble_eq_true rfl)) ?_
  refine Eq.trans (e_iload dX9_write_21 rfl) ?_
  refine Eq.trans (e_iconst (x := (-1)) dX9_write_23 (by decide)) ?_
  refine Eq.trans (e_ic_ne (t := 30) dX9_write_24 (by decide)) (g_ite ?_ ?_)
  · refine Eq.trans (e_ldc dX9_write_27 cn_9_135) ?_
    exact e_ireti dX9_write_29 rfl
  · refine Eq.trans (e_aload_n dX9_write_30 rfl) ?_
    refine Eq.trans (e_getr (b := a0 + 1) dX9_write_31 fl_9_10 (kX9 h0) (sX9_0 h0)) ?_
    refine Eq.trans (e_getr (b := a0 + 2) dX9_write_34 fl_9_136 (kX3 (iX9_0 h0)) (sX3_1 (iX9_0 h0))) ?_
    refine Eq.trans (e_iload dX9_write_37 rfl) ?_
    refine Eq.trans (e_iald dX9_write_39 (aX3_1 (iX9_0 h0)) (nX3_1 (iX9_0 h0))) (g_cj ?_)
    refine Eq.trans (e_istore dX9_write_40 (Nat.le_of_ble_eq_true rfl)) ?_
    refine Eq.trans (e_aload_n dX9_write_42 rfl) ?_
    refine Eq.trans (e_getr (b := a0 + 1) dX9_write_43 fl_9_10 (kX9 h0) (sX9_0 h0)) ?_
    refine Eq.trans (e_getr (b := a0 + 2) dX9_write_46 fl_9_136 (kX3 (iX9_0 h0)) (sX3_1 (iX9_0 h0))) ?_
    refine Eq.trans (e_iload dX9_write_49 rfl) ?_
    refine Eq.trans (e_iload_n dX9_write_51 rfl) ?_
    refine Eq.trans (e_iast dX9_write_52 (aX3_1 (iX9_0 h0)) (nX3_1 (iX9_0 h0))) (g_cj ?_)
    refine Eq.trans (e_iload dX9_write_53 rfl) ?_
    exact e_ireti dX9_write_55 rfl
theorem BX9_read_0 {C : gC} {G : gG} {Q : gK} {σ : gM} {a0 : Nat} {v1 : Int32} {v2 : Int32} (h0 : isX9 G a0) : gw C G mX9_read Q 0 [.ref a0, .int v1, .int v2, .long 0] [] σ = (g_inv C mX0_liveSlotOf [.ref (a0 + 9), .int v1] σ fun r σ' => gw C G mX9_read Q 15 [.ref a0, .int v1, .int v2, .long 0] (r.toList ++ [.ref (a0 + 1)]) σ') := by
  refine Eq.trans (e_aload_n dX9_read_0 rfl) ?_
  refine Eq.trans (e_getr (b := a0 + 1) dX9_read_1 fl_9_10 (kX9 h0) (sX9_0 h0)) ?_
  refine Eq.trans (e_aload_n dX9_read_4 rfl) ?_
  refine Eq.trans (e_getr (b := a0 + 1) dX9_read_5 fl_9_10 (kX9 h0) (sX9_0 h0)) ?_
  refine Eq.trans (e_getr (b := a0 + 9) dX9_read_8 fl_9_81 (kX3 (iX9_0 h0)) (sX3_4 (iX9_0 h0))) ?_
  refine Eq.trans (e_iload_n dX9_read_11 rfl) ?_
  exact e_invv dX9_read_12 cl_9_102 (kX0 (iX3_4 (iX9_0 h0))) (by simp) rfl rfl (by simp)
theorem BX9_read_15 {C : gC} {G : gG} {Q : gK} {σ : gM} {a0 : Nat} {v1 : Int32} {v2 : Int32} {wv3 : Value} {s1 : Int32} (h0 : isX9 G a0) : gw C G mX9_read Q 15 [.ref a0, .int v1, .int v2, wv3] [.int s1, .ref (a0 + 1)] σ = (g_inv C mX3_cellAt [.ref (a0 + 1), .int s1, .int v2] σ fun r σ' => gw C G mX9_read Q 19 [.ref a0, .int v1, .int v2, wv3] (r.toList ++ []) σ') := by
  refine Eq.trans (e_iload_n dX9_read_15 rfl) ?_
  exact e_invv dX9_read_16 cl_9_132 (kX3 (iX9_0 h0)) (by simp) rfl rfl (by simp)
theorem BX9_read_19 {C : gC} {G : gG} {Q : gK} {σ : gM} {a0 : Nat} {v1 : Int32} {v2 : Int32} {wv3 : Value} {s0 : Int32} (h0 : isX9 G a0) : gw C G mX9_read Q 19 [.ref a0, .int v1, .int v2, wv3] [.int s0] σ = (if s0 = (-1) then Q (some (.int (-2000000000))) σ else (vp_in s0 240 ∧ Q (some (.int (σ (a0 + 2) s0.toNatClampNeg))) σ)) := by
  refine Eq.trans (e_istore_n dX9_read_19 (Nat.le_of_ble_eq_true rfl)) ?_
  refine Eq.trans (e_iload_n dX9_read_20 rfl) ?_
  refine Eq.trans (e_iconst (x := (-1)) dX9_read_21 (by decide)) ?_
  refine Eq.trans (e_ic_ne (t := 30) dX9_read_22 (by decide)) (g_ite ?_ ?_)
  · refine Eq.trans (e_ldc dX9_read_25 cn_9_135) ?_
    refine Eq.trans (e_goto (t := 39) dX9_read_27 (by decide)) ?_
    exact e_ireti dX9_read_39 rfl
  · refine Eq.trans (e_aload_n dX9_read_30 rfl) ?_
    refine Eq.trans (e_getr (b := a0 + 1) dX9_read_31 fl_9_10 (kX9 h0) (sX9_0 h0)) ?_
    refine Eq.trans (e_getr (b := a0 + 2) dX9_read_34 fl_9_136 (kX3 (iX9_0 h0)) (sX3_1 (iX9_0 h0))) ?_
    refine Eq.trans (e_iload_n dX9_read_37 rfl) ?_
    refine Eq.trans (e_iald dX9_read_38 (aX3_1 (iX9_0 h0)) (nX3_1 (iX9_0 h0))) (g_cj ?_)
    exact e_ireti dX9_read_39 rfl
theorem BX9_peek_0 {C : gC} {G : gG} {Q : gK} {σ : gM} {a0 : Nat} {v1 : Int32} {v2 : Int32} {v3 : Int32} (h0 : isX9 G a0) : gw C G mX9_peek Q 0 [.ref a0, .int v1, .int v2, .int v3, .long 0, .long 0] [] σ = (g_inv C mX9_isReader [.int v1] σ fun r σ' => gw C G mX9_peek Q 4 [.ref a0, .int v1, .int v2, .int v3, .long 0, .long 0] (r.toList ++ []) σ') := by
  refine Eq.trans (e_iload_n dX9_peek_0 rfl) ?_
  exact e_invs dX9_peek_1 cl_9_139 (by decide) (by simp) rfl rfl (by simp)
theorem BX9_peek_4 {C : gC} {G : gG} {Q : gK} {σ : gM} {a0 : Nat} {v1 : Int32} {v2 : Int32} {v3 : Int32} {wv4 : Value} {wv5 : Value} {s0 : Int32} (h0 : isX9 G a0) : gw C G mX9_peek Q 4 [.ref a0, .int v1, .int v2, .int v3, wv4, wv5] [.int s0] σ = (if s0 = 0 then Q (some (.int (-2000000000))) σ else (vp_in v1 6 ∧ (if (σ (a0 + 22) v1.toNatClampNeg) = (-1) then Q (some (.int (-2000000000))) σ else (g_inv C mX0_slotOf [.ref (a0 + 9), .int v2] σ fun r σ' => gw C G mX9_peek Q 34 [.ref a0, .int v1, .int v2, .int v3, wv4, wv5] (r.toList ++ []) σ')))) := by
  refine Eq.trans (e_if_eq (t := 20) dX9_peek_4 (by decide)) (g_ite ?_ ?_)
  · refine Eq.trans (e_ldc dX9_peek_20 cn_9_135) ?_
    exact e_ireti dX9_peek_22 rfl
  · refine Eq.trans (e_aload_n dX9_peek_7 rfl) ?_
    refine Eq.trans (e_getr (b := a0 + 1) dX9_peek_8 fl_9_10 (kX9 h0) (sX9_0 h0)) ?_
    refine Eq.trans (e_getr (b := a0 + 22) dX9_peek_11 fl_9_142 (kX3 (iX9_0 h0)) (sX3_7 (iX9_0 h0))) ?_
    refine Eq.trans (e_iload_n dX9_peek_14 rfl) ?_
    refine Eq.trans (e_iald dX9_peek_15 (aX3_7 (iX9_0 h0)) (nX3_7 (iX9_0 h0))) (g_cj ?_)
    refine Eq.trans (e_iconst (x := (-1)) dX9_peek_16 (by decide)) ?_
    refine Eq.trans (e_ic_ne (t := 23) dX9_peek_17 (by decide)) (g_ite ?_ ?_)
    · refine Eq.trans (e_ldc dX9_peek_20 cn_9_135) ?_
      exact e_ireti dX9_peek_22 rfl
    · refine Eq.trans (e_aload_n dX9_peek_23 rfl) ?_
      refine Eq.trans (e_getr (b := a0 + 1) dX9_peek_24 fl_9_10 (kX9 h0) (sX9_0 h0)) ?_
      refine Eq.trans (e_getr (b := a0 + 9) dX9_peek_27 fl_9_81 (kX3 (iX9_0 h0)) (sX3_4 (iX9_0 h0))) ?_
      refine Eq.trans (e_iload_n dX9_peek_30 rfl) ?_
      exact e_invv dX9_peek_31 cl_9_145 (kX0 (iX3_4 (iX9_0 h0))) (by simp) rfl rfl (by simp)
theorem BX9_peek_34 {C : gC} {G : gG} {Q : gK} {σ : gM} {a0 : Nat} {v1 : Int32} {v2 : Int32} {v3 : Int32} {wv4 : Value} {wv5 : Value} {s0 : Int32} (h0 : isX9 G a0) : gw C G mX9_peek Q 34 [.ref a0, .int v1, .int v2, .int v3, wv4, wv5] [.int s0] σ = (if s0 = (-1) then Q (some (.int (-2000000000))) σ else (vp_in v1 6 ∧ (g_inv C mX3_seenSince [.ref (a0 + 1), .int s0, .int (σ (a0 + 22) v1.toNatClampNeg)] σ fun r σ' => gw C G mX9_peek Q 60 [.ref a0, .int v1, .int v2, .int v3, .int s0, wv5] (r.toList ++ []) σ'))) := by
  refine Eq.trans (e_istore dX9_peek_34 (Nat.le_of_ble_eq_true rfl)) ?_
  refine Eq.trans (e_iload dX9_peek_36 rfl) ?_
  refine Eq.trans (e_iconst (x := (-1)) dX9_peek_38 (by decide)) ?_
  refine Eq.trans (e_ic_eq (t := 63) dX9_peek_39 (by decide)) (g_ite ?_ ?_)
  · refine Eq.trans (e_ldc dX9_peek_63 cn_9_135) ?_
    exact e_ireti dX9_peek_65 rfl
  · refine Eq.trans (e_aload_n dX9_peek_42 rfl) ?_
    refine Eq.trans (e_getr (b := a0 + 1) dX9_peek_43 fl_9_10 (kX9 h0) (sX9_0 h0)) ?_
    refine Eq.trans (e_iload dX9_peek_46 rfl) ?_
    refine Eq.trans (e_aload_n dX9_peek_48 rfl) ?_
    refine Eq.trans (e_getr (b := a0 + 1) dX9_peek_49 fl_9_10 (kX9 h0) (sX9_0 h0)) ?_
    refine Eq.trans (e_getr (b := a0 + 22) dX9_peek_52 fl_9_142 (kX3 (iX9_0 h0)) (sX3_7 (iX9_0 h0))) ?_
    refine Eq.trans (e_iload_n dX9_peek_55 rfl) ?_
    refine Eq.trans (e_iald dX9_peek_56 (aX3_7 (iX9_0 h0)) (nX3_7 (iX9_0 h0))) (g_cj ?_)
    exact e_invv dX9_peek_57 cl_9_148 (kX3 (iX9_0 h0)) (by simp) rfl rfl (by simp)
theorem BX9_peek_60 {C : gC} {G : gG} {Q : gK} {σ : gM} {a0 : Nat} {v1 : Int32} {v2 : Int32} {v3 : Int32} {v4 : Int32} {wv5 : Value} {s0 : Int32} (h0 : isX9 G a0) : gw C G mX9_peek Q 60 [.ref a0, .int v1, .int v2, .int v3, .int v4, wv5] [.int s0] σ = (if s0 = 0 then Q (some (.int (-2000000000))) σ else (g_inv C mX3_cellAt [.ref (a0 + 1), .int v4, .int v3] σ fun r σ' => gw C G mX9_peek Q 76 [.ref a0, .int v1, .int v2, .int v3, .int v4, wv5] (r.toList ++ []) σ')) := by
  refine Eq.trans (e_if_ne (t := 66) dX9_peek_60 (by decide)) (g_ite ?_ ?_)
  · refine Eq.trans (e_ldc dX9_peek_63 cn_9_135) ?_
    exact e_ireti dX9_peek_65 rfl
  · refine Eq.trans (e_aload_n dX9_peek_66 rfl) ?_
    refine Eq.trans (e_getr (b := a0 + 1) dX9_peek_67 fl_9_10 (kX9 h0) (sX9_0 h0)) ?_
    refine Eq.trans (e_iload dX9_peek_70 rfl) ?_
    refine Eq.trans (e_iload_n dX9_peek_72 rfl) ?_
    exact e_invv dX9_peek_73 cl_9_132 (kX3 (iX9_0 h0)) (by simp) rfl rfl (by simp)
theorem BX9_peek_76 {C : gC} {G : gG} {Q : gK} {σ : gM} {a0 : Nat} {v1 : Int32} {v2 : Int32} {v3 : Int32} {v4 : Int32} {wv5 : Value} {s0 : Int32} (h0 : isX9 G a0) : gw C G mX9_peek Q 76 [.ref a0, .int v1, .int v2, .int v3, .int v4, wv5] [.int s0] σ = (if s0 = (-1) then Q (some (.int (-2000000000))) σ else (vp_in s0 240 ∧ Q (some (.int (σ (a0 + 2) s0.toNatClampNeg))) σ)) := by
  refine Eq.trans (e_istore dX9_peek_76 (Nat.le_of_ble_eq_true rfl)) ?_
  refine Eq.trans (e_iload dX9_peek_78 rfl) ?_
  refine Eq.trans (e_iconst (x := (-1)) dX9_peek_80 (by decide)) ?_
  refine Eq.trans (e_ic_ne (t := 89) dX9_peek_81 (by decide)) (g_ite ?_ ?_)
  · refine Eq.trans (e_ldc dX9_peek_84 cn_9_135) ?_
    refine Eq.trans (e_goto (t := 99) dX9_peek_86 (by decide)) ?_
    exact e_ireti dX9_peek_99 rfl
  · refine Eq.trans (e_aload_n dX9_peek_89 rfl) ?_
    refine Eq.trans (e_getr (b := a0 + 1) dX9_peek_90 fl_9_10 (kX9 h0) (sX9_0 h0)) ?_
    refine Eq.trans (e_getr (b := a0 + 2) dX9_peek_93 fl_9_136 (kX3 (iX9_0 h0)) (sX3_1 (iX9_0 h0))) ?_
    refine Eq.trans (e_iload dX9_peek_96 rfl) ?_
    refine Eq.trans (e_iald dX9_peek_98 (aX3_1 (iX9_0 h0)) (nX3_1 (iX9_0 h0))) (g_cj ?_)
    exact e_ireti dX9_peek_99 rfl
theorem BX9_isReader_0 {C : gC} {G : gG} {Q : gK} {σ : gM} {v0 : Int32}  : gw C G mX9_isReader Q 0 [.int v0] [] σ = (if v0 < 0 then Q (some (.int 0)) σ else (if v0 < 6 then Q (some (.int 1)) σ else Q (some (.int 0)) σ)) := by
  refine Eq.trans (e_iload_n dX9_isReader_0 rfl) ?_
  refine Eq.trans (e_if_lt (t := 14) dX9_isReader_1 (by decide)) (g_ite ?_ ?_)
  · refine Eq.trans (e_iconst (x := 0) dX9_isReader_14 (by decide)) ?_
    exact Eq.trans (e_iretz dX9_isReader_15 rfl) (g_and (by decide))
  · refine Eq.trans (e_iload_n dX9_isReader_4 rfl) ?_
    refine Eq.trans (e_bipush (x := 6) dX9_isReader_5 (by decide)) ?_
    refine Eq.trans (e_ic_ge (t := 14) dX9_isReader_7 (by decide)) (g_ite ?_ ?_)
    · refine Eq.trans (e_iconst (x := 1) dX9_isReader_10 (by decide)) ?_
      refine Eq.trans (e_goto (t := 15) dX9_isReader_11 (by decide)) ?_
      exact Eq.trans (e_iretz dX9_isReader_15 rfl) (g_and (by decide))
    · refine Eq.trans (e_iconst (x := 0) dX9_isReader_14 (by decide)) ?_
      exact Eq.trans (e_iretz dX9_isReader_15 rfl) (g_and (by decide))
theorem BX9_of_0 {C : gC} {G : gG} {Q : gK} {σ : gM} {a0 : Nat} {v1 : Int32} {v2 : Int32} (h0 : isX9 G a0) : gw C G mX9_of Q 0 [.ref a0, .int v1, .int v2, .long 0] [] σ = (if v2 < 0 then Q (some (.int (-1))) σ else (if 5 < v2 then Q (some (.int (-1))) σ else (g_inv C mX0_liveSlotOf [.ref (a0 + 9), .int v1] σ fun r σ' => gw C G mX9_of Q 22 [.ref a0, .int v1, .int v2, .long 0] (r.toList ++ []) σ'))) := by
  refine Eq.trans (e_iload_n dX9_of_0 rfl) ?_
  refine Eq.trans (e_if_lt (t := 9) dX9_of_1 (by decide)) (g_ite ?_ ?_)
  · refine Eq.trans (e_iconst (x := (-1)) dX9_of_9 (by decide)) ?_
    exact e_ireti dX9_of_10 rfl
  · refine Eq.trans (e_iload_n dX9_of_4 rfl) ?_
    refine Eq.trans (e_iconst (x := 5) dX9_of_5 (by decide)) ?_
    refine Eq.trans (e_ic_le (t := 11) dX9_of_6 (by decide)) (g_ite ?_ ?_)
    · refine Eq.trans (e_iconst (x := (-1)) dX9_of_9 (by decide)) ?_
      exact e_ireti dX9_of_10 rfl
    · refine Eq.trans (e_aload_n dX9_of_11 rfl) ?_
      refine Eq.trans (e_getr (b := a0 + 1) dX9_of_12 fl_9_10 (kX9 h0) (sX9_0 h0)) ?_
      refine Eq.trans (e_getr (b := a0 + 9) dX9_of_15 fl_9_81 (kX3 (iX9_0 h0)) (sX3_4 (iX9_0 h0))) ?_
      refine Eq.trans (e_iload_n dX9_of_18 rfl) ?_
      exact e_invv dX9_of_19 cl_9_102 (kX0 (iX3_4 (iX9_0 h0))) (by simp) rfl rfl (by simp)
theorem BX9_of_22 {C : gC} {G : gG} {Q : gK} {σ : gM} {a0 : Nat} {v1 : Int32} {v2 : Int32} {wv3 : Value} {s0 : Int32} (h0 : isX9 G a0) : gw C G mX9_of Q 22 [.ref a0, .int v1, .int v2, wv3] [.int s0] σ = (if s0 = (-1) then Q (some (.int (-4))) σ else (if v2 = 0 then (vp_in s0 30 ∧ Q (some (.int (σ (a0 + 12) s0.toNatClampNeg))) σ) else (if v2 = 1 then (vp_in s0 30 ∧ Q (some (.int (σ (a0 + 13) s0.toNatClampNeg))) σ) else (if v2 = 2 then (vp_in s0 30 ∧ Q (some (.int (σ (a0 + 14) s0.toNatClampNeg))) σ) else (if v2 = 3 then (vp_in s0 30 ∧ Q (some (.int (σ (a0 + 15) s0.toNatClampNeg))) σ) else (if v2 = 4 then (vp_in s0 30 ∧ Q (some (.int (σ (a0 + 16) s0.toNatClampNeg))) σ) else (vp_in s0 30 ∧ (g_inv C mX9_notIfNone [.int (σ (a0 + 17) s0.toNatClampNeg)] σ fun r σ' => gw C G mX9_of Q 148 [.ref a0, .int v1, .int v2, .int s0] (r.toList ++ []) σ')))))))) := by
  refine Eq.trans (e_istore_n dX9_of_22 (Nat.le_of_ble_eq_true rfl)) ?_
  refine Eq.trans (e_iload_n dX9_of_23 rfl) ?_
  refine Eq.trans (e_iconst (x := (-1)) dX9_of_24 (by decide)) ?_
  refine Eq.trans (e_ic_ne (t := 31) dX9_of_25 (by decide)) (g_ite ?_ ?_)
  · refine Eq.trans (e_bipush (x := (-4)) dX9_of_28 (by decide)) ?_
    exact e_ireti dX9_of_30 rfl
  · refine Eq.trans (e_iload_n dX9_of_31 rfl) ?_
    refine Eq.trans (e_switch dX9_of_32 (by decide)) ?_
    refine Eq.trans (g_sw1 (y := 0) (t := 68) (by decide) (by decide) (g_sw1 (y := 1) (t := 81) (by decide) (by decide) (g_sw1 (y := 2) (t := 94) (by decide) (by decide) (g_sw1 (y := 3) (t := 107) (by decide) (by decide) (g_sw1 (y := 4) (t := 120) (by decide) (by decide) (g_sw0 (t := 133) (by decide))))))) ?_
    refine g_ite ?_ (g_ite ?_ (g_ite ?_ (g_ite ?_ (g_ite ?_ (?_)))))
    · refine Eq.trans (e_aload_n dX9_of_68 rfl) ?_
      refine Eq.trans (e_getr (b := a0 + 1) dX9_of_69 fl_9_10 (kX9 h0) (sX9_0 h0)) ?_
      refine Eq.trans (e_getr (b := a0 + 9) dX9_of_72 fl_9_81 (kX3 (iX9_0 h0)) (sX3_4 (iX9_0 h0))) ?_
      refine Eq.trans (e_getr (b := a0 + 12) dX9_of_75 fl_9_151 (kX0 (iX3_4 (iX9_0 h0))) (sX0_2 (iX3_4 (iX9_0 h0)))) ?_
      refine Eq.trans (e_iload_n dX9_of_78 rfl) ?_
      refine Eq.trans (e_iald dX9_of_79 (aX0_2 (iX3_4 (iX9_0 h0))) (nX0_2 (iX3_4 (iX9_0 h0)))) (g_cj ?_)
      exact e_ireti dX9_of_80 rfl
    · refine Eq.trans (e_aload_n dX9_of_81 rfl) ?_
      refine Eq.trans (e_getr (b := a0 + 1) dX9_of_82 fl_9_10 (kX9 h0) (sX9_0 h0)) ?_
      refine Eq.trans (e_getr (b := a0 + 9) dX9_of_85 fl_9_81 (kX3 (iX9_0 h0)) (sX3_4 (iX9_0 h0))) ?_
      refine Eq.trans (e_getr (b := a0 + 13) dX9_of_88 fl_9_120 (kX0 (iX3_4 (iX9_0 h0))) (sX0_3 (iX3_4 (iX9_0 h0)))) ?_
      refine Eq.trans (e_iload_n dX9_of_91 rfl) ?_
      refine Eq.trans (e_iald dX9_of_92 (aX0_3 (iX3_4 (iX9_0 h0))) (nX0_3 (iX3_4 (iX9_0 h0)))) (g_cj ?_)
      exact e_ireti dX9_of_93 rfl
    · refine Eq.trans (e_aload_n dX9_of_94 rfl) ?_
      refine Eq.trans (e_getr (b := a0 + 1) dX9_of_95 fl_9_10 (kX9 h0) (sX9_0 h0)) ?_
      refine Eq.trans (e_getr (b := a0 + 9) dX9_of_98 fl_9_81 (kX3 (iX9_0 h0)) (sX3_4 (iX9_0 h0))) ?_
      refine Eq.trans (e_getr (b := a0 + 14) dX9_of_101 fl_9_154 (kX0 (iX3_4 (iX9_0 h0))) (sX0_4 (iX3_4 (iX9_0 h0)))) ?_
      refine Eq.trans (e_iload_n dX9_of_104 rfl) ?_
      refine Eq.trans (e_iald dX9_of_105 (aX0_4 (iX3_4 (iX9_0 h0))) (nX0_4 (iX3_4 (iX9_0 h0)))) (g_cj ?_)
      exact e_ireti dX9_of_106 rfl
    · refine Eq.trans (e_aload_n dX9_of_107 rfl) ?_
      refine Eq.trans (e_getr (b := a0 + 1) dX9_of_108 fl_9_10 (kX9 h0) (sX9_0 h0)) ?_
      refine Eq.trans (e_getr (b := a0 + 9) dX9_of_111 fl_9_81 (kX3 (iX9_0 h0)) (sX3_4 (iX9_0 h0))) ?_
      refine Eq.trans (e_getr (b := a0 + 15) dX9_of_114 fl_9_117 (kX0 (iX3_4 (iX9_0 h0))) (sX0_5 (iX3_4 (iX9_0 h0)))) ?_
      refine Eq.trans (e_iload_n dX9_of_117 rfl) ?_
      refine Eq.trans (e_iald dX9_of_118 (aX0_5 (iX3_4 (iX9_0 h0))) (nX0_5 (iX3_4 (iX9_0 h0)))) (g_cj ?_)
      exact e_ireti dX9_of_119 rfl
    · refine Eq.trans (e_aload_n dX9_of_120 rfl) ?_
      refine Eq.trans (e_getr (b := a0 + 1) dX9_of_121 fl_9_10 (kX9 h0) (sX9_0 h0)) ?_
      refine Eq.trans (e_getr (b := a0 + 9) dX9_of_124 fl_9_81 (kX3 (iX9_0 h0)) (sX3_4 (iX9_0 h0))) ?_
      refine Eq.trans (e_getr (b := a0 + 16) dX9_of_127 fl_9_105 (kX0 (iX3_4 (iX9_0 h0))) (sX0_6 (iX3_4 (iX9_0 h0)))) ?_
      refine Eq.trans (e_iload_n dX9_of_130 rfl) ?_
      refine Eq.trans (e_iald dX9_of_131 (aX0_6 (iX3_4 (iX9_0 h0))) (nX0_6 (iX3_4 (iX9_0 h0)))) (g_cj ?_)
      exact e_ireti dX9_of_132 rfl
    · refine Eq.trans (e_aload_n dX9_of_133 rfl) ?_
      refine Eq.trans (e_getr (b := a0 + 1) dX9_of_134 fl_9_10 (kX9 h0) (sX9_0 h0)) ?_
      refine Eq.trans (e_getr (b := a0 + 9) dX9_of_137 fl_9_81 (kX3 (iX9_0 h0)) (sX3_4 (iX9_0 h0))) ?_
      refine Eq.trans (e_getr (b := a0 + 17) dX9_of_140 fl_9_157 (kX0 (iX3_4 (iX9_0 h0))) (sX0_7 (iX3_4 (iX9_0 h0)))) ?_
      refine Eq.trans (e_iload_n dX9_of_143 rfl) ?_
      refine Eq.trans (e_iald dX9_of_144 (aX0_7 (iX3_4 (iX9_0 h0))) (nX0_7 (iX3_4 (iX9_0 h0)))) (g_cj ?_)
      exact e_invs dX9_of_145 cl_9_160 (by decide) (by simp) rfl rfl (by simp)
theorem BX9_of_148 {C : gC} {G : gG} {Q : gK} {σ : gM} {a0 : Nat} {v1 : Int32} {v2 : Int32} {v3 : Int32} {s0 : Int32} (h0 : isX9 G a0) : gw C G mX9_of Q 148 [.ref a0, .int v1, .int v2, .int v3] [.int s0] σ = Q (some (.int s0)) σ := by
  exact e_ireti dX9_of_148 rfl
theorem BX9_notIfNone_0 {C : gC} {G : gG} {Q : gK} {σ : gM} {v0 : Int32}  : gw C G mX9_notIfNone Q 0 [.int v0] [] σ = (if v0 = (-1) then Q (some (.int (-2))) σ else Q (some (.int v0)) σ) := by
  refine Eq.trans (e_iload_n dX9_notIfNone_0 rfl) ?_
  refine Eq.trans (e_iconst (x := (-1)) dX9_notIfNone_1 (by decide)) ?_
  refine Eq.trans (e_ic_ne (t := 10) dX9_notIfNone_2 (by decide)) (g_ite ?_ ?_)
  · refine Eq.trans (e_bipush (x := (-2)) dX9_notIfNone_5 (by decide)) ?_
    refine Eq.trans (e_goto (t := 11) dX9_notIfNone_7 (by decide)) ?_
    exact e_ireti dX9_notIfNone_11 rfl
  · refine Eq.trans (e_iload_n dX9_notIfNone_10 rfl) ?_
    exact e_ireti dX9_notIfNone_11 rfl
theorem BX9_slot_0 {C : gC} {G : gG} {Q : gK} {σ : gM} {a0 : Nat} {v1 : Int32} {v2 : Int32} (h0 : isX9 G a0) : gw C G mX9_slot Q 0 [.ref a0, .int v1, .int v2, .long 0] [] σ = (if v1 < 0 then Q (some (.int (-1))) σ else (if v1 < 30 then (vp_in v1 30 ∧ (if (σ (a0 + 11) v1.toNatClampNeg) = 2 then gw C G mX9_slot Q 33 [.ref a0, .int v1, .int v2, .long 0] [.int 1] σ else gw C G mX9_slot Q 33 [.ref a0, .int v1, .int v2, .long 0] [.int 0] σ)) else Q (some (.int (-1))) σ)) := by
  refine Eq.trans (e_iload_n dX9_slot_0 rfl) ?_
  refine Eq.trans (e_if_lt (t := 10) dX9_slot_1 (by decide)) (g_ite ?_ ?_)
  · refine Eq.trans (e_iconst (x := (-1)) dX9_slot_10 (by decide)) ?_
    exact e_ireti dX9_slot_11 rfl
  · refine Eq.trans (e_iload_n dX9_slot_4 rfl) ?_
    refine Eq.trans (e_bipush (x := 30) dX9_slot_5 (by decide)) ?_
    refine Eq.trans (e_ic_lt (t := 12) dX9_slot_7 (by decide)) (g_ite ?_ ?_)
    · refine Eq.trans (e_aload_n dX9_slot_12 rfl) ?_
      refine Eq.trans (e_getr (b := a0 + 1) dX9_slot_13 fl_9_10 (kX9 h0) (sX9_0 h0)) ?_
      refine Eq.trans (e_getr (b := a0 + 9) dX9_slot_16 fl_9_81 (kX3 (iX9_0 h0)) (sX3_4 (iX9_0 h0))) ?_
      refine Eq.trans (e_getr (b := a0 + 11) dX9_slot_19 fl_9_163 (kX0 (iX3_4 (iX9_0 h0))) (sX0_1 (iX3_4 (iX9_0 h0)))) ?_
      refine Eq.trans (e_iload_n dX9_slot_22 rfl) ?_
      refine Eq.trans (e_iald dX9_slot_23 (aX0_1 (iX3_4 (iX9_0 h0))) (nX0_1 (iX3_4 (iX9_0 h0)))) (g_cj ?_)
      refine Eq.trans (e_iconst (x := 2) dX9_slot_24 (by decide)) ?_
      refine Eq.trans (e_ic_ne (t := 32) dX9_slot_25 (by decide)) (g_ite ?_ ?_)
      · refine Eq.trans (e_iconst (x := 1) dX9_slot_28 (by decide)) ?_
        refine Eq.trans (e_goto (t := 33) dX9_slot_29 (by decide)) ?_
        rfl
      · refine Eq.trans (e_iconst (x := 0) dX9_slot_32 (by decide)) ?_
        rfl
    · refine Eq.trans (e_iconst (x := (-1)) dX9_slot_10 (by decide)) ?_
      exact e_ireti dX9_slot_11 rfl
theorem BX9_slot_33 {C : gC} {G : gG} {Q : gK} {σ : gM} {a0 : Nat} {v1 : Int32} {v2 : Int32} {wv3 : Value} {s0 : Int32} (h0 : isX9 G a0) : gw C G mX9_slot Q 33 [.ref a0, .int v1, .int v2, wv3] [.int s0] σ = (if v2 = 0 then (g_inv C mX0_liveHandleOf [.ref (a0 + 9), .int v1] σ fun r σ' => gw C G mX9_slot Q 75 [.ref a0, .int v1, .int v2, .int s0] (r.toList ++ []) σ') else (if v2 = 1 then (vp_in v1 30 ∧ Q (some (.int (σ (a0 + 10) v1.toNatClampNeg))) σ) else (if v2 = 2 then (if s0 = 0 then Q (some (.int 0)) σ else Q (some (.int 1)) σ) else (if v2 = 3 then (if s0 = 0 then Q (some (.int (-2))) σ else (vp_in v1 30 ∧ Q (some (.int (σ (a0 + 18) v1.toNatClampNeg))) σ)) else Q (some (.int (-1))) σ)))) := by
  refine Eq.trans (e_istore_n dX9_slot_33 (Nat.le_of_ble_eq_true rfl)) ?_
  refine Eq.trans (e_iload_n dX9_slot_34 rfl) ?_
  refine Eq.trans (e_switch dX9_slot_35 (by decide)) ?_
  refine Eq.trans (g_sw1 (y := 0) (t := 64) (by decide) (by decide) (g_sw1 (y := 1) (t := 79) (by decide) (by decide) (g_sw1 (y := 2) (t := 92) (by decide) (by decide) (g_sw1 (y := 3) (t := 102) (by decide) (by decide) (g_sw0 (t := 124) (by decide)))))) ?_
  refine g_ite ?_ (g_ite ?_ (g_ite ?_ (g_ite ?_ (?_))))
  · refine Eq.trans (e_aload_n dX9_slot_64 rfl) ?_
    refine Eq.trans (e_getr (b := a0 + 1) dX9_slot_65 fl_9_10 (kX9 h0) (sX9_0 h0)) ?_
    refine Eq.trans (e_getr (b := a0 + 9) dX9_slot_68 fl_9_81 (kX3 (iX9_0 h0)) (sX3_4 (iX9_0 h0))) ?_
    refine Eq.trans (e_iload_n dX9_slot_71 rfl) ?_
    exact e_invv dX9_slot_72 cl_9_166 (kX0 (iX3_4 (iX9_0 h0))) (by simp) rfl rfl (by simp)
  · refine Eq.trans (e_aload_n dX9_slot_79 rfl) ?_
    refine Eq.trans (e_getr (b := a0 + 1) dX9_slot_80 fl_9_10 (kX9 h0) (sX9_0 h0)) ?_
    refine Eq.trans (e_getr (b := a0 + 9) dX9_slot_83 fl_9_81 (kX3 (iX9_0 h0)) (sX3_4 (iX9_0 h0))) ?_
    refine Eq.trans (e_getr (b := a0 + 10) dX9_slot_86 fl_9_169 (kX0 (iX3_4 (iX9_0 h0))) (sX0_0 (iX3_4 (iX9_0 h0)))) ?_
    refine Eq.trans (e_iload_n dX9_slot_89 rfl) ?_
    refine Eq.trans (e_iald dX9_slot_90 (aX0_0 (iX3_4 (iX9_0 h0))) (nX0_0 (iX3_4 (iX9_0 h0)))) (g_cj ?_)
    exact e_ireti dX9_slot_91 rfl
  · refine Eq.trans (e_iload_n dX9_slot_92 rfl) ?_
    refine Eq.trans (e_if_eq (t := 100) dX9_slot_93 (by decide)) (g_ite ?_ ?_)
    · refine Eq.trans (e_iconst (x := 0) dX9_slot_100 (by decide)) ?_
      exact e_ireti dX9_slot_101 rfl
    · refine Eq.trans (e_iconst (x := 1) dX9_slot_96 (by decide)) ?_
      refine Eq.trans (e_goto (t := 101) dX9_slot_97 (by decide)) ?_
      exact e_ireti dX9_slot_101 rfl
  · refine Eq.trans (e_iload_n dX9_slot_102 rfl) ?_
    refine Eq.trans (e_if_eq (t := 121) dX9_slot_103 (by decide)) (g_ite ?_ ?_)
    · refine Eq.trans (e_bipush (x := (-2)) dX9_slot_121 (by decide)) ?_
      exact e_ireti dX9_slot_123 rfl
    · refine Eq.trans (e_aload_n dX9_slot_106 rfl) ?_
      refine Eq.trans (e_getr (b := a0 + 1) dX9_slot_107 fl_9_10 (kX9 h0) (sX9_0 h0)) ?_
      refine Eq.trans (e_getr (b := a0 + 9) dX9_slot_110 fl_9_81 (kX3 (iX9_0 h0)) (sX3_4 (iX9_0 h0))) ?_
      refine Eq.trans (e_getr (b := a0 + 18) dX9_slot_113 fl_9_172 (kX0 (iX3_4 (iX9_0 h0))) (sX0_8 (iX3_4 (iX9_0 h0)))) ?_
      refine Eq.trans (e_iload_n dX9_slot_116 rfl) ?_
      refine Eq.trans (e_iald dX9_slot_117 (aX0_8 (iX3_4 (iX9_0 h0))) (nX0_8 (iX3_4 (iX9_0 h0)))) (g_cj ?_)
      refine Eq.trans (e_goto (t := 123) dX9_slot_118 (by decide)) ?_
      exact e_ireti dX9_slot_123 rfl
  · refine Eq.trans (e_iconst (x := (-1)) dX9_slot_124 (by decide)) ?_
    exact e_ireti dX9_slot_125 rfl
theorem BX9_slot_75 {C : gC} {G : gG} {Q : gK} {σ : gM} {a0 : Nat} {v1 : Int32} {v2 : Int32} {v3 : Int32} {s0 : Int32} (h0 : isX9 G a0) : gw C G mX9_slot Q 75 [.ref a0, .int v1, .int v2, .int v3] [.int s0] σ = (g_inv C mX9_notIfNone [.int s0] σ fun r σ' => gw C G mX9_slot Q 78 [.ref a0, .int v1, .int v2, .int v3] (r.toList ++ []) σ') := by
  exact e_invs dX9_slot_75 cl_9_160 (by decide) (by simp) rfl rfl (by simp)
theorem BX9_slot_78 {C : gC} {G : gG} {Q : gK} {σ : gM} {a0 : Nat} {v1 : Int32} {v2 : Int32} {v3 : Int32} {s0 : Int32} (h0 : isX9 G a0) : gw C G mX9_slot Q 78 [.ref a0, .int v1, .int v2, .int v3] [.int s0] σ = Q (some (.int s0)) σ := by
  exact e_ireti dX9_slot_78 rfl
theorem BX9_lies_0 {C : gC} {G : gG} {Q : gK} {σ : gM} {a0 : Nat} {v1 : Int32} (h0 : isX9 G a0) : gw C G mX9_lies Q 0 [.ref a0, .int v1, .long 0] [] σ = (if v1 < 0 then Q (some (.int (-1))) σ else (if v1 < 240 then (vp_in v1 240 ∧ (if (σ (a0 + 8) v1.toNatClampNeg) = (-1) then (g_inv C mX5_end [.ref (a0 + 3)] σ fun r σ' => gw C G mX9_lies Q 44 [.ref a0, .int v1, .int (σ (a0 + 8) v1.toNatClampNeg)] (r.toList ++ [.int v1]) σ') else Q (some (.int (σ (a0 + 8) v1.toNatClampNeg))) σ)) else Q (some (.int (-1))) σ)) := by
  refine Eq.trans (e_iload_n dX9_lies_0 rfl) ?_
  refine Eq.trans (e_if_lt (t := 11) dX9_lies_1 (by decide)) (g_ite ?_ ?_)
  · refine Eq.trans (e_iconst (x := (-1)) dX9_lies_11 (by decide)) ?_
    exact e_ireti dX9_lies_12 rfl
  · refine Eq.trans (e_iload_n dX9_lies_4 rfl) ?_
    refine Eq.trans (e_sipush (x := 240) dX9_lies_5 (by decide)) ?_
    refine Eq.trans (e_ic_lt (t := 13) dX9_lies_8 (by decide)) (g_ite ?_ ?_)
    · refine Eq.trans (e_aload_n dX9_lies_13 rfl) ?_
      refine Eq.trans (e_getr (b := a0 + 1) dX9_lies_14 fl_9_10 (kX9 h0) (sX9_0 h0)) ?_
      refine Eq.trans (e_getr (b := a0 + 7) dX9_lies_17 fl_9_175 (kX3 (iX9_0 h0)) (sX3_3 (iX9_0 h0))) ?_
      refine Eq.trans (e_getr (b := a0 + 8) dX9_lies_20 fl_9_179 (kX1 (iX3_3 (iX9_0 h0))) (sX1_0 (iX3_3 (iX9_0 h0)))) ?_
      refine Eq.trans (e_iload_n dX9_lies_23 rfl) ?_
      refine Eq.trans (e_iald dX9_lies_24 (aX1_0 (iX3_3 (iX9_0 h0))) (nX1_0 (iX3_3 (iX9_0 h0)))) (g_cj ?_)
      refine Eq.trans (e_istore_n dX9_lies_25 (Nat.le_of_ble_eq_true rfl)) ?_
      refine Eq.trans (e_iload_n dX9_lies_26 rfl) ?_
      refine Eq.trans (e_iconst (x := (-1)) dX9_lies_27 (by decide)) ?_
      refine Eq.trans (e_ic_eq (t := 33) dX9_lies_28 (by decide)) (g_ite ?_ ?_)
      · refine Eq.trans (e_iload_n dX9_lies_33 rfl) ?_
        refine Eq.trans (e_aload_n dX9_lies_34 rfl) ?_
        refine Eq.trans (e_getr (b := a0 + 1) dX9_lies_35 fl_9_10 (kX9 h0) (sX9_0 h0)) ?_
        refine Eq.trans (e_getr (b := a0 + 3) dX9_lies_38 fl_9_57 (kX3 (iX9_0 h0)) (sX3_2 (iX9_0 h0))) ?_
        exact e_invv dX9_lies_41 cl_9_184 (kX5 (iX3_2 (iX9_0 h0))) (by simp) rfl rfl (by simp)
      · refine Eq.trans (e_iload_n dX9_lies_31 rfl) ?_
        exact e_ireti dX9_lies_32 rfl
    · refine Eq.trans (e_iconst (x := (-1)) dX9_lies_11 (by decide)) ?_
      exact e_ireti dX9_lies_12 rfl
theorem BX9_lies_44 {C : gC} {G : gG} {Q : gK} {σ : gM} {a0 : Nat} {v1 : Int32} {v2 : Int32} {s0 : Int32} {s1 : Int32} (h0 : isX9 G a0) : gw C G mX9_lies Q 44 [.ref a0, .int v1, .int v2] [.int s1, .int s0] σ = (if s0 < s1 then Q (some (.int 100)) σ else Q (some (.int 101)) σ) := by
  refine Eq.trans (e_ic_ge (t := 52) dX9_lies_44 (by decide)) (g_ite ?_ ?_)
  · refine Eq.trans (e_bipush (x := 100) dX9_lies_47 (by decide)) ?_
    refine Eq.trans (e_goto (t := 54) dX9_lies_49 (by decide)) ?_
    exact e_ireti dX9_lies_54 rfl
  · refine Eq.trans (e_bipush (x := 101) dX9_lies_52 (by decide)) ?_
    exact e_ireti dX9_lies_54 rfl
theorem BX9_tag_0 {C : gC} {G : gG} {Q : gK} {σ : gM} {a0 : Nat} {v1 : Int32} {v2 : Int32} (h0 : isX9 G a0) : gw C G mX9_tag Q 0 [.ref a0, .int v1, .int v2, .long 0, .long 0] [] σ = (g_inv C mX9_isTag [.int v2] σ fun r σ' => gw C G mX9_tag Q 4 [.ref a0, .int v1, .int v2, .long 0, .long 0] (r.toList ++ []) σ') := by
  refine Eq.trans (e_iload_n dX9_tag_0 rfl) ?_
  exact e_invs dX9_tag_1 cl_9_187 (by decide) (by simp) rfl rfl (by simp)
theorem BX9_tag_4 {C : gC} {G : gG} {Q : gK} {σ : gM} {a0 : Nat} {v1 : Int32} {v2 : Int32} {wv3 : Value} {wv4 : Value} {s0 : Int32} (h0 : isX9 G a0) : gw C G mX9_tag Q 4 [.ref a0, .int v1, .int v2, wv3, wv4] [.int s0] σ = (if s0 = 0 then Q (some (.int (-1))) σ else (g_inv C mX0_liveSlotOf [.ref (a0 + 9), .int v1] σ fun r σ' => gw C G mX9_tag Q 20 [.ref a0, .int v1, .int v2, wv3, wv4] (r.toList ++ []) σ')) := by
  refine Eq.trans (e_if_ne (t := 9) dX9_tag_4 (by decide)) (g_ite ?_ ?_)
  · refine Eq.trans (e_iconst (x := (-1)) dX9_tag_7 (by decide)) ?_
    exact e_ireti dX9_tag_8 rfl
  · refine Eq.trans (e_aload_n dX9_tag_9 rfl) ?_
    refine Eq.trans (e_getr (b := a0 + 1) dX9_tag_10 fl_9_10 (kX9 h0) (sX9_0 h0)) ?_
    refine Eq.trans (e_getr (b := a0 + 9) dX9_tag_13 fl_9_81 (kX3 (iX9_0 h0)) (sX3_4 (iX9_0 h0))) ?_
    refine Eq.trans (e_iload_n dX9_tag_16 rfl) ?_
    exact e_invv dX9_tag_17 cl_9_102 (kX0 (iX3_4 (iX9_0 h0))) (by simp) rfl rfl (by simp)
theorem BX9_tag_20 {C : gC} {G : gG} {Q : gK} {σ : gM} {a0 : Nat} {v1 : Int32} {v2 : Int32} {wv3 : Value} {wv4 : Value} {s0 : Int32} (h0 : isX9 G a0) : gw C G mX9_tag Q 20 [.ref a0, .int v1, .int v2, wv3, wv4] [.int s0] σ = (if s0 = (-1) then Q (some (.int (-4))) σ else (g_inv C mX3_tagBearer [.ref (a0 + 1), .int v2] σ fun r σ' => gw C G mX9_tag Q 37 [.ref a0, .int v1, .int v2, .int s0, wv4] (r.toList ++ []) σ')) := by
  refine Eq.trans (e_istore_n dX9_tag_20 (Nat.le_of_ble_eq_true rfl)) ?_
  refine Eq.trans (e_iload_n dX9_tag_21 rfl) ?_
  refine Eq.trans (e_iconst (x := (-1)) dX9_tag_22 (by decide)) ?_
  refine Eq.trans (e_ic_ne (t := 29) dX9_tag_23 (by decide)) (g_ite ?_ ?_)
  · refine Eq.trans (e_bipush (x := (-4)) dX9_tag_26 (by decide)) ?_
    exact e_ireti dX9_tag_28 rfl
  · refine Eq.trans (e_aload_n dX9_tag_29 rfl) ?_
    refine Eq.trans (e_getr (b := a0 + 1) dX9_tag_30 fl_9_10 (kX9 h0) (sX9_0 h0)) ?_
    refine Eq.trans (e_iload_n dX9_tag_33 rfl) ?_
    exact e_invv dX9_tag_34 cl_9_190 (kX3 (iX9_0 h0)) (by simp) rfl rfl (by simp)
theorem BX9_tag_37 {C : gC} {G : gG} {Q : gK} {σ : gM} {a0 : Nat} {v1 : Int32} {v2 : Int32} {v3 : Int32} {wv4 : Value} {s0 : Int32} (h0 : isX9 G a0) : gw C G mX9_tag Q 37 [.ref a0, .int v1, .int v2, .int v3, wv4] [.int s0] σ = (if s0 = (-1) then gw C G mX9_tag Q 54 [.ref a0, .int v1, .int v2, .int v3, .int s0] [] σ else (if s0 = v3 then gw C G mX9_tag Q 54 [.ref a0, .int v1, .int v2, .int v3, .int s0] [] σ else Q (some (.int (-5))) σ)) := by
  refine Eq.trans (e_istore dX9_tag_37 (Nat.le_of_ble_eq_true rfl)) ?_
  refine Eq.trans (e_iload dX9_tag_39 rfl) ?_
  refine Eq.trans (e_iconst (x := (-1)) dX9_tag_41 (by decide)) ?_
  refine Eq.trans (e_ic_eq (t := 54) dX9_tag_42 (by decide)) (g_ite ?_ ?_)
  · rfl
  · refine Eq.trans (e_iload dX9_tag_45 rfl) ?_
    refine Eq.trans (e_iload_n dX9_tag_47 rfl) ?_
    refine Eq.trans (e_ic_eq (t := 54) dX9_tag_48 (by decide)) (g_ite ?_ ?_)
    · rfl
    · refine Eq.trans (e_bipush (x := (-5)) dX9_tag_51 (by decide)) ?_
      exact e_ireti dX9_tag_53 rfl
theorem BX9_tag_54 {C : gC} {G : gG} {Q : gK} {σ : gM} {a0 : Nat} {v1 : Int32} {v2 : Int32} {v3 : Int32} {v4 : Int32} (h0 : isX9 G a0) : gw C G mX9_tag Q 54 [.ref a0, .int v1, .int v2, .int v3, .int v4] [] σ = (g_inv C mX3_giveTag [.ref (a0 + 1), .int v3, .int v2] σ fun r σ' => gw C G mX9_tag Q 63 [.ref a0, .int v1, .int v2, .int v3, .int v4] (r.toList ++ []) σ') := by
  refine Eq.trans (e_aload_n dX9_tag_54 rfl) ?_
  refine Eq.trans (e_getr (b := a0 + 1) dX9_tag_55 fl_9_10 (kX9 h0) (sX9_0 h0)) ?_
  refine Eq.trans (e_iload_n dX9_tag_58 rfl) ?_
  refine Eq.trans (e_iload_n dX9_tag_59 rfl) ?_
  exact e_invv dX9_tag_60 cl_9_193 (kX3 (iX9_0 h0)) (by simp) rfl rfl (by simp)
theorem BX9_tag_63 {C : gC} {G : gG} {Q : gK} {σ : gM} {a0 : Nat} {v1 : Int32} {v2 : Int32} {v3 : Int32} {v4 : Int32} (h0 : isX9 G a0) : gw C G mX9_tag Q 63 [.ref a0, .int v1, .int v2, .int v3, .int v4] [] σ = Q (some (.int (σ (a0 + 19) 0))) σ := by
  refine Eq.trans (e_aload_n dX9_tag_63 rfl) ?_
  refine Eq.trans (e_getr (b := a0 + 1) dX9_tag_64 fl_9_10 (kX9 h0) (sX9_0 h0)) ?_
  refine Eq.trans (e_getr (b := a0 + 19) dX9_tag_67 fl_9_197 (kX3 (iX9_0 h0)) (sX3_5 (iX9_0 h0))) ?_
  refine Eq.trans (e_geti dX9_tag_70 fl_9_201 (kX6 (iX3_5 (iX9_0 h0)))) ?_
  exact e_ireti dX9_tag_73 rfl
theorem BX9_isTag_0 {C : gC} {G : gG} {Q : gK} {σ : gM} {v0 : Int32}  : gw C G mX9_isTag Q 0 [.int v0] [] σ = (if v0 < 0 then Q (some (.int 0)) σ else (if v0 < 500 then Q (some (.int 1)) σ else Q (some (.int 0)) σ)) := by
  refine Eq.trans (e_iload_n dX9_isTag_0 rfl) ?_
  refine Eq.trans (e_if_lt (t := 15) dX9_isTag_1 (by decide)) (g_ite ?_ ?_)
  · refine Eq.trans (e_iconst (x := 0) dX9_isTag_15 (by decide)) ?_
    exact Eq.trans (e_iretz dX9_isTag_16 rfl) (g_and (by decide))
  · refine Eq.trans (e_iload_n dX9_isTag_4 rfl) ?_
    refine Eq.trans (e_sipush (x := 500) dX9_isTag_5 (by decide)) ?_
    refine Eq.trans (e_ic_ge (t := 15) dX9_isTag_8 (by decide)) (g_ite ?_ ?_)
    · refine Eq.trans (e_iconst (x := 1) dX9_isTag_11 (by decide)) ?_
      refine Eq.trans (e_goto (t := 16) dX9_isTag_12 (by decide)) ?_
      exact Eq.trans (e_iretz dX9_isTag_16 rfl) (g_and (by decide))
    · refine Eq.trans (e_iconst (x := 0) dX9_isTag_15 (by decide)) ?_
      exact Eq.trans (e_iretz dX9_isTag_16 rfl) (g_and (by decide))
theorem BX9_find_0 {C : gC} {G : gG} {Q : gK} {σ : gM} {a0 : Nat} {v1 : Int32} (h0 : isX9 G a0) : gw C G mX9_find Q 0 [.ref a0, .int v1, .long 0] [] σ = (g_inv C mX9_isTag [.int v1] σ fun r σ' => gw C G mX9_find Q 4 [.ref a0, .int v1, .long 0] (r.toList ++ []) σ') := by
  refine Eq.trans (e_iload_n dX9_find_0 rfl) ?_
  exact e_invs dX9_find_1 cl_9_187 (by decide) (by simp) rfl rfl (by simp)
theorem BX9_find_4 {C : gC} {G : gG} {Q : gK} {σ : gM} {a0 : Nat} {v1 : Int32} {wv2 : Value} {s0 : Int32} (h0 : isX9 G a0) : gw C G mX9_find Q 4 [.ref a0, .int v1, wv2] [.int s0] σ = (if s0 = 0 then Q (some (.int (-1))) σ else (g_inv C mX3_tagBearer [.ref (a0 + 1), .int v1] σ fun r σ' => gw C G mX9_find Q 17 [.ref a0, .int v1, wv2] (r.toList ++ []) σ')) := by
  refine Eq.trans (e_if_ne (t := 9) dX9_find_4 (by decide)) (g_ite ?_ ?_)
  · refine Eq.trans (e_iconst (x := (-1)) dX9_find_7 (by decide)) ?_
    exact e_ireti dX9_find_8 rfl
  · refine Eq.trans (e_aload_n dX9_find_9 rfl) ?_
    refine Eq.trans (e_getr (b := a0 + 1) dX9_find_10 fl_9_10 (kX9 h0) (sX9_0 h0)) ?_
    refine Eq.trans (e_iload_n dX9_find_13 rfl) ?_
    exact e_invv dX9_find_14 cl_9_190 (kX3 (iX9_0 h0)) (by simp) rfl rfl (by simp)
theorem BX9_find_17 {C : gC} {G : gG} {Q : gK} {σ : gM} {a0 : Nat} {v1 : Int32} {wv2 : Value} {s0 : Int32} (h0 : isX9 G a0) : gw C G mX9_find Q 17 [.ref a0, .int v1, wv2] [.int s0] σ = (if s0 = (-1) then gw C G mX9_find Q 39 [.ref a0, .int v1, .int s0] [.int (-2)] σ else (g_inv C mX0_handleOf [.ref (a0 + 9), .int s0] σ fun r σ' => gw C G mX9_find Q 39 [.ref a0, .int v1, .int s0] (r.toList ++ []) σ')) := by
  refine Eq.trans (e_istore_n dX9_find_17 (Nat.le_of_ble_eq_true rfl)) ?_
  refine Eq.trans (e_iload_n dX9_find_18 rfl) ?_
  refine Eq.trans (e_iconst (x := (-1)) dX9_find_19 (by decide)) ?_
  refine Eq.trans (e_ic_ne (t := 28) dX9_find_20 (by decide)) (g_ite ?_ ?_)
  · refine Eq.trans (e_bipush (x := (-2)) dX9_find_23 (by decide)) ?_
    refine Eq.trans (e_goto (t := 39) dX9_find_25 (by decide)) ?_
    rfl
  · refine Eq.trans (e_aload_n dX9_find_28 rfl) ?_
    refine Eq.trans (e_getr (b := a0 + 1) dX9_find_29 fl_9_10 (kX9 h0) (sX9_0 h0)) ?_
    refine Eq.trans (e_getr (b := a0 + 9) dX9_find_32 fl_9_81 (kX3 (iX9_0 h0)) (sX3_4 (iX9_0 h0))) ?_
    refine Eq.trans (e_iload_n dX9_find_35 rfl) ?_
    exact e_invv dX9_find_36 cl_9_98 (kX0 (iX3_4 (iX9_0 h0))) (by simp) rfl rfl (by simp)
theorem BX9_find_39 {C : gC} {G : gG} {Q : gK} {σ : gM} {a0 : Nat} {v1 : Int32} {v2 : Int32} {s0 : Int32} (h0 : isX9 G a0) : gw C G mX9_find Q 39 [.ref a0, .int v1, .int v2] [.int s0] σ = Q (some (.int s0)) σ := by
  exact e_ireti dX9_find_39 rfl
theorem BX9_tagged_0 {C : gC} {G : gG} {Q : gK} {σ : gM} {a0 : Nat} {v1 : Int32} (h0 : isX9 G a0) : gw C G mX9_tagged Q 0 [.ref a0, .int v1, .long 0] [] σ = (if v1 < 0 then Q (some (.int (-1))) σ else (g_inv C mX6_slotAt [.ref (a0 + 19), .int v1] σ fun r σ' => gw C G mX9_tagged Q 17 [.ref a0, .int v1, .long 0] (r.toList ++ []) σ')) := by
  refine Eq.trans (e_iload_n dX9_tagged_0 rfl) ?_
  refine Eq.trans (e_if_ge (t := 6) dX9_tagged_1 (by decide)) (g_ite ?_ ?_)
  · refine Eq.trans (e_iconst (x := (-1)) dX9_tagged_4 (by decide)) ?_
    exact e_ireti dX9_tagged_5 rfl
  · refine Eq.trans (e_aload_n dX9_tagged_6 rfl) ?_
    refine Eq.trans (e_getr (b := a0 + 1) dX9_tagged_7 fl_9_10 (kX9 h0) (sX9_0 h0)) ?_
    refine Eq.trans (e_getr (b := a0 + 19) dX9_tagged_10 fl_9_197 (kX3 (iX9_0 h0)) (sX3_5 (iX9_0 h0))) ?_
    refine Eq.trans (e_iload_n dX9_tagged_13 rfl) ?_
    exact e_invv dX9_tagged_14 cl_9_206 (kX6 (iX3_5 (iX9_0 h0))) (by simp) rfl rfl (by simp)
theorem BX9_tagged_17 {C : gC} {G : gG} {Q : gK} {σ : gM} {a0 : Nat} {v1 : Int32} {wv2 : Value} {s0 : Int32} (h0 : isX9 G a0) : gw C G mX9_tagged Q 17 [.ref a0, .int v1, wv2] [.int s0] σ = (if s0 = (-1) then Q (some (.int (-2))) σ else (vp_in s0 30 ∧ Q (some (.int (σ (a0 + 17) s0.toNatClampNeg))) σ)) := by
  refine Eq.trans (e_istore_n dX9_tagged_17 (Nat.le_of_ble_eq_true rfl)) ?_
  refine Eq.trans (e_iload_n dX9_tagged_18 rfl) ?_
  refine Eq.trans (e_iconst (x := (-1)) dX9_tagged_19 (by decide)) ?_
  refine Eq.trans (e_ic_ne (t := 28) dX9_tagged_20 (by decide)) (g_ite ?_ ?_)
  · refine Eq.trans (e_bipush (x := (-2)) dX9_tagged_23 (by decide)) ?_
    refine Eq.trans (e_goto (t := 40) dX9_tagged_25 (by decide)) ?_
    exact e_ireti dX9_tagged_40 rfl
  · refine Eq.trans (e_aload_n dX9_tagged_28 rfl) ?_
    refine Eq.trans (e_getr (b := a0 + 1) dX9_tagged_29 fl_9_10 (kX9 h0) (sX9_0 h0)) ?_
    refine Eq.trans (e_getr (b := a0 + 9) dX9_tagged_32 fl_9_81 (kX3 (iX9_0 h0)) (sX3_4 (iX9_0 h0))) ?_
    refine Eq.trans (e_getr (b := a0 + 17) dX9_tagged_35 fl_9_157 (kX0 (iX3_4 (iX9_0 h0))) (sX0_7 (iX3_4 (iX9_0 h0)))) ?_
    refine Eq.trans (e_iload_n dX9_tagged_38 rfl) ?_
    refine Eq.trans (e_iald dX9_tagged_39 (aX0_7 (iX3_4 (iX9_0 h0))) (nX0_7 (iX3_4 (iX9_0 h0)))) (g_cj ?_)
    exact e_ireti dX9_tagged_40 rfl
theorem BX9_quota_0 {C : gC} {G : gG} {Q : gK} {σ : gM} {a0 : Nat} {v1 : Int32} {v2 : Int32} (h0 : isX9 G a0) : gw C G mX9_quota Q 0 [.ref a0, .int v1, .int v2, .long 0] [] σ = (g_inv C mX9_isOwner [.int v1] σ fun r σ' => gw C G mX9_quota Q 4 [.ref a0, .int v1, .int v2, .long 0] (r.toList ++ []) σ') := by
  refine Eq.trans (e_iload_n dX9_quota_0 rfl) ?_
  exact e_invs dX9_quota_1 cl_9_74 (by decide) (by simp) rfl rfl (by simp)
theorem BX9_quota_4 {C : gC} {G : gG} {Q : gK} {σ : gM} {a0 : Nat} {v1 : Int32} {v2 : Int32} {wv3 : Value} {s0 : Int32} (h0 : isX9 G a0) : gw C G mX9_quota Q 4 [.ref a0, .int v1, .int v2, wv3] [.int s0] σ = (if s0 = 0 then Q (some (.int (-1))) σ else (if v2 < 0 then Q (some (.int (-1))) σ else (if 240 < v2 then Q (some (.int (-1))) σ else (g_inv C mX0_usedBy [.ref (a0 + 9), .int v1] σ fun r σ' => gw C G mX9_quota Q 31 [.ref a0, .int v1, .int v2, wv3] (r.toList ++ []) σ')))) := by
  refine Eq.trans (e_if_eq (t := 18) dX9_quota_4 (by decide)) (g_ite ?_ ?_)
  · refine Eq.trans (e_iconst (x := (-1)) dX9_quota_18 (by decide)) ?_
    exact e_ireti dX9_quota_19 rfl
  · refine Eq.trans (e_iload_n dX9_quota_7 rfl) ?_
    refine Eq.trans (e_if_lt (t := 18) dX9_quota_8 (by decide)) (g_ite ?_ ?_)
    · refine Eq.trans (e_iconst (x := (-1)) dX9_quota_18 (by decide)) ?_
      exact e_ireti dX9_quota_19 rfl
    · refine Eq.trans (e_iload_n dX9_quota_11 rfl) ?_
      refine Eq.trans (e_sipush (x := 240) dX9_quota_12 (by decide)) ?_
      refine Eq.trans (e_ic_le (t := 20) dX9_quota_15 (by decide)) (g_ite ?_ ?_)
      · refine Eq.trans (e_iconst (x := (-1)) dX9_quota_18 (by decide)) ?_
        exact e_ireti dX9_quota_19 rfl
      · refine Eq.trans (e_aload_n dX9_quota_20 rfl) ?_
        refine Eq.trans (e_getr (b := a0 + 1) dX9_quota_21 fl_9_10 (kX9 h0) (sX9_0 h0)) ?_
        refine Eq.trans (e_getr (b := a0 + 9) dX9_quota_24 fl_9_81 (kX3 (iX9_0 h0)) (sX3_4 (iX9_0 h0))) ?_
        refine Eq.trans (e_iload_n dX9_quota_27 rfl) ?_
        exact e_invv dX9_quota_28 cl_9_208 (kX0 (iX3_4 (iX9_0 h0))) (by simp) rfl rfl (by simp)
theorem BX9_quota_31 {C : gC} {G : gG} {Q : gK} {σ : gM} {a0 : Nat} {v1 : Int32} {v2 : Int32} {wv3 : Value} {s0 : Int32} (h0 : isX9 G a0) : gw C G mX9_quota Q 31 [.ref a0, .int v1, .int v2, wv3] [.int s0] σ = (if v2 < s0 then Q (some (.int (-5))) σ else (vp_in v1 10 ∧ (vp_in v1 10 ∧ Q (some (.int (σ (a0 + 21) v1.toNatClampNeg))) (g_up σ (a0 + 21) v1.toNatClampNeg v2)))) := by
  refine Eq.trans (e_iload_n dX9_quota_31 rfl) ?_
  refine Eq.trans (e_ic_le (t := 38) dX9_quota_32 (by decide)) (g_ite ?_ ?_)
  · refine Eq.trans (e_bipush (x := (-5)) dX9_quota_35 (by decide)) ?_
    exact e_ireti dX9_quota_37 rfl
  · refine Eq.trans (e_aload_n dX9_quota_38 rfl) ?_
    refine Eq.trans (e_getr (b := a0 + 1) dX9_quota_39 fl_9_10 (kX9 h0) (sX9_0 h0)) ?_
    refine Eq.trans (e_getr (b := a0 + 21) dX9_quota_42 fl_9_211 (kX3 (iX9_0 h0)) (sX3_6 (iX9_0 h0))) ?_
    refine Eq.trans (e_iload_n dX9_quota_45 rfl) ?_
    refine Eq.trans (e_iald dX9_quota_46 (aX3_6 (iX9_0 h0)) (nX3_6 (iX9_0 h0))) (g_cj ?_)
    refine Eq.trans (e_istore_n dX9_quota_47 (Nat.le_of_ble_eq_true rfl)) ?_
    refine Eq.trans (e_aload_n dX9_quota_48 rfl) ?_
    refine Eq.trans (e_getr (b := a0 + 1) dX9_quota_49 fl_9_10 (kX9 h0) (sX9_0 h0)) ?_
    refine Eq.trans (e_getr (b := a0 + 21) dX9_quota_52 fl_9_211 (kX3 (iX9_0 h0)) (sX3_6 (iX9_0 h0))) ?_
    refine Eq.trans (e_iload_n dX9_quota_55 rfl) ?_
    refine Eq.trans (e_iload_n dX9_quota_56 rfl) ?_
    refine Eq.trans (e_iast dX9_quota_57 (aX3_6 (iX9_0 h0)) (nX3_6 (iX9_0 h0))) (g_cj ?_)
    refine Eq.trans (e_iload_n dX9_quota_58 rfl) ?_
    exact e_ireti dX9_quota_59 rfl
theorem BX9_owner_0 {C : gC} {G : gG} {Q : gK} {σ : gM} {a0 : Nat} {v1 : Int32} {v2 : Int32} (h0 : isX9 G a0) : gw C G mX9_owner Q 0 [.ref a0, .int v1, .int v2] [] σ = (g_inv C mX9_isOwner [.int v1] σ fun r σ' => gw C G mX9_owner Q 4 [.ref a0, .int v1, .int v2] (r.toList ++ []) σ') := by
  refine Eq.trans (e_iload_n dX9_owner_0 rfl) ?_
  exact e_invs dX9_owner_1 cl_9_74 (by decide) (by simp) rfl rfl (by simp)
theorem BX9_owner_4 {C : gC} {G : gG} {Q : gK} {σ : gM} {a0 : Nat} {v1 : Int32} {v2 : Int32} {s0 : Int32} (h0 : isX9 G a0) : gw C G mX9_owner Q 4 [.ref a0, .int v1, .int v2] [.int s0] σ = (if s0 = 0 then Q (some (.int (-1))) σ else (if v2 = 0 then (g_inv C mX0_usedBy [.ref (a0 + 9), .int v1] σ fun r σ' => gw C G mX9_owner Q 51 [.ref a0, .int v1, .int v2] (r.toList ++ []) σ') else (if v2 = 1 then (vp_in v1 10 ∧ Q (some (.int (σ (a0 + 21) v1.toNatClampNeg))) σ) else (if v2 = 2 then (g_inv C mX9_leakedCellsOf [.ref a0, .int v1] σ fun r σ' => gw C G mX9_owner Q 67 [.ref a0, .int v1, .int v2] (r.toList ++ []) σ') else (if v2 = 3 then (g_inv C mX0_liveOf [.ref (a0 + 9), .int v1] σ fun r σ' => gw C G mX9_owner Q 79 [.ref a0, .int v1, .int v2] (r.toList ++ []) σ') else Q (some (.int (-1))) σ))))) := by
  refine Eq.trans (e_if_ne (t := 9) dX9_owner_4 (by decide)) (g_ite ?_ ?_)
  · refine Eq.trans (e_iconst (x := (-1)) dX9_owner_7 (by decide)) ?_
    exact e_ireti dX9_owner_8 rfl
  · refine Eq.trans (e_iload_n dX9_owner_9 rfl) ?_
    refine Eq.trans (e_switch dX9_owner_10 (by decide)) ?_
    refine Eq.trans (g_sw1 (y := 0) (t := 40) (by decide) (by decide) (g_sw1 (y := 1) (t := 52) (by decide) (by decide) (g_sw1 (y := 2) (t := 62) (by decide) (by decide) (g_sw1 (y := 3) (t := 68) (by decide) (by decide) (g_sw0 (t := 80) (by decide)))))) ?_
    refine g_ite ?_ (g_ite ?_ (g_ite ?_ (g_ite ?_ (?_))))
    · refine Eq.trans (e_aload_n dX9_owner_40 rfl) ?_
      refine Eq.trans (e_getr (b := a0 + 1) dX9_owner_41 fl_9_10 (kX9 h0) (sX9_0 h0)) ?_
      refine Eq.trans (e_getr (b := a0 + 9) dX9_owner_44 fl_9_81 (kX3 (iX9_0 h0)) (sX3_4 (iX9_0 h0))) ?_
      refine Eq.trans (e_iload_n dX9_owner_47 rfl) ?_
      exact e_invv dX9_owner_48 cl_9_208 (kX0 (iX3_4 (iX9_0 h0))) (by simp) rfl rfl (by simp)
    · refine Eq.trans (e_aload_n dX9_owner_52 rfl) ?_
      refine Eq.trans (e_getr (b := a0 + 1) dX9_owner_53 fl_9_10 (kX9 h0) (sX9_0 h0)) ?_
      refine Eq.trans (e_getr (b := a0 + 21) dX9_owner_56 fl_9_211 (kX3 (iX9_0 h0)) (sX3_6 (iX9_0 h0))) ?_
      refine Eq.trans (e_iload_n dX9_owner_59 rfl) ?_
      refine Eq.trans (e_iald dX9_owner_60 (aX3_6 (iX9_0 h0)) (nX3_6 (iX9_0 h0))) (g_cj ?_)
      exact e_ireti dX9_owner_61 rfl
    · refine Eq.trans (e_aload_n dX9_owner_62 rfl) ?_
      refine Eq.trans (e_iload_n dX9_owner_63 rfl) ?_
      exact e_invv dX9_owner_64 cl_9_214 (kX9 h0) (by simp) rfl rfl (by simp)
    · refine Eq.trans (e_aload_n dX9_owner_68 rfl) ?_
      refine Eq.trans (e_getr (b := a0 + 1) dX9_owner_69 fl_9_10 (kX9 h0) (sX9_0 h0)) ?_
      refine Eq.trans (e_getr (b := a0 + 9) dX9_owner_72 fl_9_81 (kX3 (iX9_0 h0)) (sX3_4 (iX9_0 h0))) ?_
      refine Eq.trans (e_iload_n dX9_owner_75 rfl) ?_
      exact e_invv dX9_owner_76 cl_9_217 (kX0 (iX3_4 (iX9_0 h0))) (by simp) rfl rfl (by simp)
    · refine Eq.trans (e_iconst (x := (-1)) dX9_owner_80 (by decide)) ?_
      exact e_ireti dX9_owner_81 rfl
theorem BX9_owner_51 {C : gC} {G : gG} {Q : gK} {σ : gM} {a0 : Nat} {v1 : Int32} {v2 : Int32} {s0 : Int32} (h0 : isX9 G a0) : gw C G mX9_owner Q 51 [.ref a0, .int v1, .int v2] [.int s0] σ = Q (some (.int s0)) σ := by
  exact e_ireti dX9_owner_51 rfl
theorem BX9_owner_67 {C : gC} {G : gG} {Q : gK} {σ : gM} {a0 : Nat} {v1 : Int32} {v2 : Int32} {s0 : Int32} (h0 : isX9 G a0) : gw C G mX9_owner Q 67 [.ref a0, .int v1, .int v2] [.int s0] σ = Q (some (.int s0)) σ := by
  exact e_ireti dX9_owner_67 rfl
theorem BX9_owner_79 {C : gC} {G : gG} {Q : gK} {σ : gM} {a0 : Nat} {v1 : Int32} {v2 : Int32} {s0 : Int32} (h0 : isX9 G a0) : gw C G mX9_owner Q 79 [.ref a0, .int v1, .int v2] [.int s0] σ = Q (some (.int s0)) σ := by
  exact e_ireti dX9_owner_79 rfl
theorem BX9_leakedCellsOf_0 {C : gC} {G : gG} {Q : gK} {σ : gM} {a0 : Nat} {v1 : Int32} (h0 : isX9 G a0) : gw C G mX9_leakedCellsOf Q 0 [.ref a0, .int v1, .long 0, .long 0] [] σ = (g_inv C mX8_fromTagsAndPins [.ref (a0 + 89), .ref (a0 + 1)] σ fun r σ' => gw C G mX9_leakedCellsOf Q 11 [.ref a0, .int v1, .long 0, .long 0] (r.toList ++ []) σ') := by
  refine Eq.trans (e_aload_n dX9_leakedCellsOf_0 rfl) ?_
  refine Eq.trans (e_getr (b := a0 + 89) dX9_leakedCellsOf_1 fl_9_28 (kX9 h0) (sX9_4 h0)) ?_
  refine Eq.trans (e_aload_n dX9_leakedCellsOf_4 rfl) ?_
  refine Eq.trans (e_getr (b := a0 + 1) dX9_leakedCellsOf_5 fl_9_10 (kX9 h0) (sX9_0 h0)) ?_
  exact e_invv dX9_leakedCellsOf_8 cl_9_243 (kX8 (iX9_4 h0)) (by simp) rfl rfl (by simp)
theorem BX9_leakedCellsOf_11 {C : gC} {G : gG} {Q : gK} {σ : gM} {a0 : Nat} {v1 : Int32} {wv2 : Value} {wv3 : Value} (h0 : isX9 G a0) : gw C G mX9_leakedCellsOf Q 11 [.ref a0, .int v1, wv2, wv3] [] σ = gw C G mX9_leakedCellsOf Q 15 [.ref a0, .int v1, .int 0, .int 0] [] σ := by
  refine Eq.trans (e_iconst (x := 0) dX9_leakedCellsOf_11 (by decide)) ?_
  refine Eq.trans (e_istore_n dX9_leakedCellsOf_12 (Nat.le_of_ble_eq_true rfl)) ?_
  refine Eq.trans (e_iconst (x := 0) dX9_leakedCellsOf_13 (by decide)) ?_
  refine Eq.trans (e_istore_n dX9_leakedCellsOf_14 (Nat.le_of_ble_eq_true rfl)) ?_
  rfl
theorem BX9_leakedCellsOf_15 {C : gC} {G : gG} {Q : gK} {σ : gM} {a0 : Nat} {v1 : Int32} {v2 : Int32} {v3 : Int32} (h0 : isX9 G a0) : gw C G mX9_leakedCellsOf Q 15 [.ref a0, .int v1, .int v2, .int v3] [] σ = (if v3 < 30 then (vp_in v3 30 ∧ (if (σ (a0 + 15) v3.toNatClampNeg) = v1 then (g_inv C mX9_isLeaked [.ref a0, .int v3] σ fun r σ' => gw C G mX9_leakedCellsOf Q 42 [.ref a0, .int v1, .int v2, .int v3] (r.toList ++ []) σ') else gw C G mX9_leakedCellsOf Q 15 [.ref a0, .int v1, .int v2, .int (v3 + 1)] [] σ)) else Q (some (.int v2)) σ) := by
  refine Eq.trans (e_iload_n dX9_leakedCellsOf_15 rfl) ?_
  refine Eq.trans (e_bipush (x := 30) dX9_leakedCellsOf_16 (by decide)) ?_
  refine Eq.trans (e_ic_ge (t := 66) dX9_leakedCellsOf_18 (by decide)) (g_ite ?_ ?_)
  · refine Eq.trans (e_aload_n dX9_leakedCellsOf_21 rfl) ?_
    refine Eq.trans (e_getr (b := a0 + 1) dX9_leakedCellsOf_22 fl_9_10 (kX9 h0) (sX9_0 h0)) ?_
    refine Eq.trans (e_getr (b := a0 + 9) dX9_leakedCellsOf_25 fl_9_81 (kX3 (iX9_0 h0)) (sX3_4 (iX9_0 h0))) ?_
    refine Eq.trans (e_getr (b := a0 + 15) dX9_leakedCellsOf_28 fl_9_117 (kX0 (iX3_4 (iX9_0 h0))) (sX0_5 (iX3_4 (iX9_0 h0)))) ?_
    refine Eq.trans (e_iload_n dX9_leakedCellsOf_31 rfl) ?_
    refine Eq.trans (e_iald dX9_leakedCellsOf_32 (aX0_5 (iX3_4 (iX9_0 h0))) (nX0_5 (iX3_4 (iX9_0 h0)))) (g_cj ?_)
    refine Eq.trans (e_iload_n dX9_leakedCellsOf_33 rfl) ?_
    refine Eq.trans (e_ic_ne (t := 60) dX9_leakedCellsOf_34 (by decide)) (g_ite ?_ ?_)
    · refine Eq.trans (e_aload_n dX9_leakedCellsOf_37 rfl) ?_
      refine Eq.trans (e_iload_n dX9_leakedCellsOf_38 rfl) ?_
      exact e_invv dX9_leakedCellsOf_39 cl_9_246 (kX9 h0) (by simp) rfl rfl (by simp)
    · refine Eq.trans (e_iinc (y := 1) dX9_leakedCellsOf_60 rfl (by decide)) ?_
      refine Eq.trans (e_goto (t := 15) dX9_leakedCellsOf_63 (by decide)) ?_
      rfl
  · refine Eq.trans (e_iload_n dX9_leakedCellsOf_66 rfl) ?_
    exact e_ireti dX9_leakedCellsOf_67 rfl
theorem BX9_leakedCellsOf_42 {C : gC} {G : gG} {Q : gK} {σ : gM} {a0 : Nat} {v1 : Int32} {v2 : Int32} {v3 : Int32} {s0 : Int32} (h0 : isX9 G a0) : gw C G mX9_leakedCellsOf Q 42 [.ref a0, .int v1, .int v2, .int v3] [.int s0] σ = (if s0 = 0 then gw C G mX9_leakedCellsOf Q 15 [.ref a0, .int v1, .int v2, .int (v3 + 1)] [] σ else (vp_in v3 30 ∧ gw C G mX9_leakedCellsOf Q 15 [.ref a0, .int v1, .int (v2 + (σ (a0 + 13) v3.toNatClampNeg)), .int (v3 + 1)] [] σ)) := by
  refine Eq.trans (e_if_eq (t := 60) dX9_leakedCellsOf_42 (by decide)) (g_ite ?_ ?_)
  · refine Eq.trans (e_iinc (y := 1) dX9_leakedCellsOf_60 rfl (by decide)) ?_
    refine Eq.trans (e_goto (t := 15) dX9_leakedCellsOf_63 (by decide)) ?_
    rfl
  · refine Eq.trans (e_iload_n dX9_leakedCellsOf_45 rfl) ?_
    refine Eq.trans (e_aload_n dX9_leakedCellsOf_46 rfl) ?_
    refine Eq.trans (e_getr (b := a0 + 1) dX9_leakedCellsOf_47 fl_9_10 (kX9 h0) (sX9_0 h0)) ?_
    refine Eq.trans (e_getr (b := a0 + 9) dX9_leakedCellsOf_50 fl_9_81 (kX3 (iX9_0 h0)) (sX3_4 (iX9_0 h0))) ?_
    refine Eq.trans (e_getr (b := a0 + 13) dX9_leakedCellsOf_53 fl_9_120 (kX0 (iX3_4 (iX9_0 h0))) (sX0_3 (iX3_4 (iX9_0 h0)))) ?_
    refine Eq.trans (e_iload_n dX9_leakedCellsOf_56 rfl) ?_
    refine Eq.trans (e_iald dX9_leakedCellsOf_57 (aX0_3 (iX3_4 (iX9_0 h0))) (nX0_3 (iX3_4 (iX9_0 h0)))) (g_cj ?_)
    refine Eq.trans (e_iadd dX9_leakedCellsOf_58) ?_
    refine Eq.trans (e_istore_n dX9_leakedCellsOf_59 (Nat.le_of_ble_eq_true rfl)) ?_
    refine Eq.trans (e_iinc (y := 1) dX9_leakedCellsOf_60 rfl (by decide)) ?_
    refine Eq.trans (e_goto (t := 15) dX9_leakedCellsOf_63 (by decide)) ?_
    rfl
theorem BX9_isLeaked_0 {C : gC} {G : gG} {Q : gK} {σ : gM} {a0 : Nat} {v1 : Int32} (h0 : isX9 G a0) : gw C G mX9_isLeaked Q 0 [.ref a0, .int v1] [] σ = (vp_in v1 30 ∧ (if (σ (a0 + 11) v1.toNatClampNeg) = 1 then (vp_in v1 30 ∧ (if (σ (a0 + 90) v1.toNatClampNeg) = (-1) then Q (some (.int 1)) σ else Q (some (.int 0)) σ)) else Q (some (.int 0)) σ)) := by
  refine Eq.trans (e_aload_n dX9_isLeaked_0 rfl) ?_
  refine Eq.trans (e_getr (b := a0 + 1) dX9_isLeaked_1 fl_9_10 (kX9 h0) (sX9_0 h0)) ?_
  refine Eq.trans (e_getr (b := a0 + 9) dX9_isLeaked_4 fl_9_81 (kX3 (iX9_0 h0)) (sX3_4 (iX9_0 h0))) ?_
  refine Eq.trans (e_getr (b := a0 + 11) dX9_isLeaked_7 fl_9_163 (kX0 (iX3_4 (iX9_0 h0))) (sX0_1 (iX3_4 (iX9_0 h0)))) ?_
  refine Eq.trans (e_iload_n dX9_isLeaked_10 rfl) ?_
  refine Eq.trans (e_iald dX9_isLeaked_11 (aX0_1 (iX3_4 (iX9_0 h0))) (nX0_1 (iX3_4 (iX9_0 h0)))) (g_cj ?_)
  refine Eq.trans (e_iconst (x := 1) dX9_isLeaked_12 (by decide)) ?_
  refine Eq.trans (e_ic_ne (t := 33) dX9_isLeaked_13 (by decide)) (g_ite ?_ ?_)
  · refine Eq.trans (e_aload_n dX9_isLeaked_16 rfl) ?_
    refine Eq.trans (e_getr (b := a0 + 89) dX9_isLeaked_17 fl_9_28 (kX9 h0) (sX9_4 h0)) ?_
    refine Eq.trans (e_getr (b := a0 + 90) dX9_isLeaked_20 fl_9_253 (kX8 (iX9_4 h0)) (sX8_0 (iX9_4 h0))) ?_
    refine Eq.trans (e_iload_n dX9_isLeaked_23 rfl) ?_
    refine Eq.trans (e_iald dX9_isLeaked_24 (aX8_0 (iX9_4 h0)) (nX8_0 (iX9_4 h0))) (g_cj ?_)
    refine Eq.trans (e_iconst (x := (-1)) dX9_isLeaked_25 (by decide)) ?_
    refine Eq.trans (e_ic_ne (t := 33) dX9_isLeaked_26 (by decide)) (g_ite ?_ ?_)
    · refine Eq.trans (e_iconst (x := 1) dX9_isLeaked_29 (by decide)) ?_
      refine Eq.trans (e_goto (t := 34) dX9_isLeaked_30 (by decide)) ?_
      exact Eq.trans (e_iretz dX9_isLeaked_34 rfl) (g_and (by decide))
    · refine Eq.trans (e_iconst (x := 0) dX9_isLeaked_33 (by decide)) ?_
      exact Eq.trans (e_iretz dX9_isLeaked_34 rfl) (g_and (by decide))
  · refine Eq.trans (e_iconst (x := 0) dX9_isLeaked_33 (by decide)) ?_
    exact Eq.trans (e_iretz dX9_isLeaked_34 rfl) (g_and (by decide))
theorem BX9_enter_0 {C : gC} {G : gG} {Q : gK} {σ : gM} {a0 : Nat} {v1 : Int32} (h0 : isX9 G a0) : gw C G mX9_enter Q 0 [.ref a0, .int v1] [] σ = (g_inv C mX9_isReader [.int v1] σ fun r σ' => gw C G mX9_enter Q 4 [.ref a0, .int v1] (r.toList ++ []) σ') := by
  refine Eq.trans (e_iload_n dX9_enter_0 rfl) ?_
  exact e_invs dX9_enter_1 cl_9_139 (by decide) (by simp) rfl rfl (by simp)
theorem BX9_enter_4 {C : gC} {G : gG} {Q : gK} {σ : gM} {a0 : Nat} {v1 : Int32} {s0 : Int32} (h0 : isX9 G a0) : gw C G mX9_enter Q 4 [.ref a0, .int v1] [.int s0] σ = (if s0 = 0 then Q (some (.int (-1))) σ else (vp_in v1 6 ∧ (if (σ (a0 + 22) v1.toNatClampNeg) = (-1) then (vp_in v1 6 ∧ gw C G mX9_enter Q 41 [.ref a0, .int v1] [] (g_up σ (a0 + 22) v1.toNatClampNeg (σ (a0 + 1) 0))) else Q (some (.int (-5))) σ))) := by
  refine Eq.trans (e_if_ne (t := 9) dX9_enter_4 (by decide)) (g_ite ?_ ?_)
  · refine Eq.trans (e_iconst (x := (-1)) dX9_enter_7 (by decide)) ?_
    exact e_ireti dX9_enter_8 rfl
  · refine Eq.trans (e_aload_n dX9_enter_9 rfl) ?_
    refine Eq.trans (e_getr (b := a0 + 1) dX9_enter_10 fl_9_10 (kX9 h0) (sX9_0 h0)) ?_
    refine Eq.trans (e_getr (b := a0 + 22) dX9_enter_13 fl_9_142 (kX3 (iX9_0 h0)) (sX3_7 (iX9_0 h0))) ?_
    refine Eq.trans (e_iload_n dX9_enter_16 rfl) ?_
    refine Eq.trans (e_iald dX9_enter_17 (aX3_7 (iX9_0 h0)) (nX3_7 (iX9_0 h0))) (g_cj ?_)
    refine Eq.trans (e_iconst (x := (-1)) dX9_enter_18 (by decide)) ?_
    refine Eq.trans (e_ic_eq (t := 25) dX9_enter_19 (by decide)) (g_ite ?_ ?_)
    · refine Eq.trans (e_aload_n dX9_enter_25 rfl) ?_
      refine Eq.trans (e_getr (b := a0 + 1) dX9_enter_26 fl_9_10 (kX9 h0) (sX9_0 h0)) ?_
      refine Eq.trans (e_getr (b := a0 + 22) dX9_enter_29 fl_9_142 (kX3 (iX9_0 h0)) (sX3_7 (iX9_0 h0))) ?_
      refine Eq.trans (e_iload_n dX9_enter_32 rfl) ?_
      refine Eq.trans (e_aload_n dX9_enter_33 rfl) ?_
      refine Eq.trans (e_getr (b := a0 + 1) dX9_enter_34 fl_9_10 (kX9 h0) (sX9_0 h0)) ?_
      refine Eq.trans (e_geti dX9_enter_37 fl_9_113 (kX3 (iX9_0 h0))) ?_
      refine Eq.trans (e_iast dX9_enter_40 (aX3_7 (iX9_0 h0)) (nX3_7 (iX9_0 h0))) (g_cj ?_)
      rfl
    · refine Eq.trans (e_bipush (x := (-5)) dX9_enter_22 (by decide)) ?_
      exact e_ireti dX9_enter_24 rfl
theorem BX9_enter_41 {C : gC} {G : gG} {Q : gK} {σ : gM} {a0 : Nat} {v1 : Int32} (h0 : isX9 G a0) : gw C G mX9_enter Q 41 [.ref a0, .int v1] [] σ = Q (some (.int (σ (a0 + 1) 0))) σ := by
  refine Eq.trans (e_aload_n dX9_enter_41 rfl) ?_
  refine Eq.trans (e_getr (b := a0 + 1) dX9_enter_42 fl_9_10 (kX9 h0) (sX9_0 h0)) ?_
  refine Eq.trans (e_geti dX9_enter_45 fl_9_113 (kX3 (iX9_0 h0))) ?_
  exact e_ireti dX9_enter_48 rfl
theorem BX9_leave_0 {C : gC} {G : gG} {Q : gK} {σ : gM} {a0 : Nat} {v1 : Int32} (h0 : isX9 G a0) : gw C G mX9_leave Q 0 [.ref a0, .int v1, .long 0] [] σ = (g_inv C mX9_isReader [.int v1] σ fun r σ' => gw C G mX9_leave Q 4 [.ref a0, .int v1, .long 0] (r.toList ++ []) σ') := by
  refine Eq.trans (e_iload_n dX9_leave_0 rfl) ?_
  exact e_invs dX9_leave_1 cl_9_139 (by decide) (by simp) rfl rfl (by simp)
theorem BX9_leave_4 {C : gC} {G : gG} {Q : gK} {σ : gM} {a0 : Nat} {v1 : Int32} {wv2 : Value} {s0 : Int32} (h0 : isX9 G a0) : gw C G mX9_leave Q 4 [.ref a0, .int v1, wv2] [.int s0] σ = (if s0 = 0 then Q (some (.int (-1))) σ else (vp_in v1 6 ∧ (if (σ (a0 + 22) v1.toNatClampNeg) = (-1) then Q (some (.int (-5))) σ else (vp_in v1 6 ∧ Q (some (.int (σ (a0 + 22) v1.toNatClampNeg))) (g_up σ (a0 + 22) v1.toNatClampNeg (-1)))))) := by
  refine Eq.trans (e_if_ne (t := 9) dX9_leave_4 (by decide)) (g_ite ?_ ?_)
  · refine Eq.trans (e_iconst (x := (-1)) dX9_leave_7 (by decide)) ?_
    exact e_ireti dX9_leave_8 rfl
  · refine Eq.trans (e_aload_n dX9_leave_9 rfl) ?_
    refine Eq.trans (e_getr (b := a0 + 1) dX9_leave_10 fl_9_10 (kX9 h0) (sX9_0 h0)) ?_
    refine Eq.trans (e_getr (b := a0 + 22) dX9_leave_13 fl_9_142 (kX3 (iX9_0 h0)) (sX3_7 (iX9_0 h0))) ?_
    refine Eq.trans (e_iload_n dX9_leave_16 rfl) ?_
    refine Eq.trans (e_iald dX9_leave_17 (aX3_7 (iX9_0 h0)) (nX3_7 (iX9_0 h0))) (g_cj ?_)
    refine Eq.trans (e_istore_n dX9_leave_18 (Nat.le_of_ble_eq_true rfl)) ?_
    refine Eq.trans (e_iload_n dX9_leave_19 rfl) ?_
    refine Eq.trans (e_iconst (x := (-1)) dX9_leave_20 (by decide)) ?_
    refine Eq.trans (e_ic_ne (t := 27) dX9_leave_21 (by decide)) (g_ite ?_ ?_)
    · refine Eq.trans (e_bipush (x := (-5)) dX9_leave_24 (by decide)) ?_
      exact e_ireti dX9_leave_26 rfl
    · refine Eq.trans (e_aload_n dX9_leave_27 rfl) ?_
      refine Eq.trans (e_getr (b := a0 + 1) dX9_leave_28 fl_9_10 (kX9 h0) (sX9_0 h0)) ?_
      refine Eq.trans (e_getr (b := a0 + 22) dX9_leave_31 fl_9_142 (kX3 (iX9_0 h0)) (sX3_7 (iX9_0 h0))) ?_
      refine Eq.trans (e_iload_n dX9_leave_34 rfl) ?_
      refine Eq.trans (e_iconst (x := (-1)) dX9_leave_35 (by decide)) ?_
      refine Eq.trans (e_iast dX9_leave_36 (aX3_7 (iX9_0 h0)) (nX3_7 (iX9_0 h0))) (g_cj ?_)
      refine Eq.trans (e_iload_n dX9_leave_37 rfl) ?_
      exact e_ireti dX9_leave_38 rfl
theorem BX9_advance_0 {C : gC} {G : gG} {Q : gK} {σ : gM} {a0 : Nat} (h0 : isX9 G a0) : gw C G mX9_advance Q 0 [.ref a0] [] σ = gw C G mX9_advance Q 13 [.ref a0] [] (g_up σ (a0 + 1) 0 ((σ (a0 + 1) 0) + 1)) := by
  refine Eq.trans (e_aload_n dX9_advance_0 rfl) ?_
  refine Eq.trans (e_getr (b := a0 + 1) dX9_advance_1 fl_9_10 (kX9 h0) (sX9_0 h0)) ?_
  refine Eq.trans (e_dup dX9_advance_4) ?_
  refine Eq.trans (e_geti dX9_advance_5 fl_9_113 (kX3 (iX9_0 h0))) ?_
  refine Eq.trans (e_iconst (x := 1) dX9_advance_8 (by decide)) ?_
  refine Eq.trans (e_iadd dX9_advance_9) ?_
  refine Eq.trans (e_puti dX9_advance_10 fl_9_113 (kX3 (iX9_0 h0))) ?_
  rfl
theorem BX9_advance_13 {C : gC} {G : gG} {Q : gK} {σ : gM} {a0 : Nat} (h0 : isX9 G a0) : gw C G mX9_advance Q 13 [.ref a0] [] σ = (g_inv C mX3_dropFreeable [.ref (a0 + 1)] σ fun r σ' => gw C G mX9_advance Q 20 [.ref a0] (r.toList ++ []) σ') := by
  refine Eq.trans (e_aload_n dX9_advance_13 rfl) ?_
  refine Eq.trans (e_getr (b := a0 + 1) dX9_advance_14 fl_9_10 (kX9 h0) (sX9_0 h0)) ?_
  exact e_invv dX9_advance_17 cl_9_220 (kX3 (iX9_0 h0)) (by simp) rfl rfl (by simp)
theorem BX9_advance_20 {C : gC} {G : gG} {Q : gK} {σ : gM} {a0 : Nat} {s0 : Int32} (h0 : isX9 G a0) : gw C G mX9_advance Q 20 [.ref a0] [.int s0] σ = Q (some (.int s0)) σ := by
  exact e_ireti dX9_advance_20 rfl
theorem BX9_would_0 {C : gC} {G : gG} {Q : gK} {σ : gM} {a0 : Nat} {v1 : Int32} {v2 : Int32} {v3 : Int32} (h0 : isX9 G a0) : gw C G mX9_would Q 0 [.ref a0, .int v1, .int v2, .int v3, .long 0, .long 0] [] σ = (g_inv C mX5_has [.ref (a0 + 3), .int v1] σ fun r σ' => gw C G mX9_would Q 11 [.ref a0, .int v1, .int v2, .int v3, .long 0, .long 0] (r.toList ++ []) σ') := by
  refine Eq.trans (e_aload_n dX9_would_0 rfl) ?_
  refine Eq.trans (e_getr (b := a0 + 1) dX9_would_1 fl_9_10 (kX9 h0) (sX9_0 h0)) ?_
  refine Eq.trans (e_getr (b := a0 + 3) dX9_would_4 fl_9_57 (kX3 (iX9_0 h0)) (sX3_2 (iX9_0 h0))) ?_
  refine Eq.trans (e_iload_n dX9_would_7 rfl) ?_
  exact e_invv dX9_would_8 cl_9_67 (kX5 (iX3_2 (iX9_0 h0))) (by simp) rfl rfl (by simp)
theorem BX9_would_11 {C : gC} {G : gG} {Q : gK} {σ : gM} {a0 : Nat} {v1 : Int32} {v2 : Int32} {v3 : Int32} {wv4 : Value} {wv5 : Value} {s0 : Int32} (h0 : isX9 G a0) : gw C G mX9_would Q 11 [.ref a0, .int v1, .int v2, .int v3, wv4, wv5] [.int s0] σ = (if s0 = 0 then Q (some (.int (-1))) σ else (vp_in v1 6 ∧ (g_inv C mX5_highOf [.ref (a0 + 3), .int v1] σ fun r σ' => gw C G mX9_would Q 41 [.ref a0, .int v1, .int v2, .int v3, .int (σ (a0 + 4) v1.toNatClampNeg), wv5] (r.toList ++ []) σ'))) := by
  refine Eq.trans (e_if_ne (t := 16) dX9_would_11 (by decide)) (g_ite ?_ ?_)
  · refine Eq.trans (e_iconst (x := (-1)) dX9_would_14 (by decide)) ?_
    exact e_ireti dX9_would_15 rfl
  · refine Eq.trans (e_aload_n dX9_would_16 rfl) ?_
    refine Eq.trans (e_getr (b := a0 + 1) dX9_would_17 fl_9_10 (kX9 h0) (sX9_0 h0)) ?_
    refine Eq.trans (e_getr (b := a0 + 3) dX9_would_20 fl_9_57 (kX3 (iX9_0 h0)) (sX3_2 (iX9_0 h0))) ?_
    refine Eq.trans (e_getr (b := a0 + 4) dX9_would_23 fl_9_223 (kX5 (iX3_2 (iX9_0 h0))) (sX5_1 (iX3_2 (iX9_0 h0)))) ?_
    refine Eq.trans (e_iload_n dX9_would_26 rfl) ?_
    refine Eq.trans (e_iald dX9_would_27 (aX5_1 (iX3_2 (iX9_0 h0))) (nX5_1 (iX3_2 (iX9_0 h0)))) (g_cj ?_)
    refine Eq.trans (e_istore dX9_would_28 (Nat.le_of_ble_eq_true rfl)) ?_
    refine Eq.trans (e_aload_n dX9_would_30 rfl) ?_
    refine Eq.trans (e_getr (b := a0 + 1) dX9_would_31 fl_9_10 (kX9 h0) (sX9_0 h0)) ?_
    refine Eq.trans (e_getr (b := a0 + 3) dX9_would_34 fl_9_57 (kX3 (iX9_0 h0)) (sX3_2 (iX9_0 h0))) ?_
    refine Eq.trans (e_iload_n dX9_would_37 rfl) ?_
    exact e_invv dX9_would_38 cl_9_224 (kX5 (iX3_2 (iX9_0 h0))) (by simp) rfl rfl (by simp)
theorem BX9_would_41 {C : gC} {G : gG} {Q : gK} {σ : gM} {a0 : Nat} {v1 : Int32} {v2 : Int32} {v3 : Int32} {v4 : Int32} {wv5 : Value} {s0 : Int32} (h0 : isX9 G a0) : gw C G mX9_would Q 41 [.ref a0, .int v1, .int v2, .int v3, .int v4, wv5] [.int s0] σ = (if v3 = 0 then (g_inv C mX9_isBlockLength [.int v2] σ fun r σ' => gw C G mX9_would Q 80 [.ref a0, .int v1, .int v2, .int v3, .int v4, .int s0] (r.toList ++ []) σ') else (if v3 = 1 then (g_inv C mX1_freeCells [.ref (a0 + 7), .int v4, .int s0] σ fun r σ' => gw C G mX9_would Q 114 [.ref a0, .int v1, .int v2, .int v3, .int v4, .int s0] (r.toList ++ []) σ') else (if v3 = 2 then (g_inv C mX1_longestFreeRow [.ref (a0 + 7), .int v4, .int s0] σ fun r σ' => gw C G mX9_would Q 129 [.ref a0, .int v1, .int v2, .int v3, .int v4, .int s0] (r.toList ++ []) σ') else (if v3 = 3 then (g_inv C mX1_freeRows [.ref (a0 + 7), .int v4, .int s0] σ fun r σ' => gw C G mX9_would Q 144 [.ref a0, .int v1, .int v2, .int v3, .int v4, .int s0] (r.toList ++ []) σ') else Q (some (.int (-1))) σ)))) := by
  refine Eq.trans (e_istore dX9_would_41 (Nat.le_of_ble_eq_true rfl)) ?_
  refine Eq.trans (e_iload_n dX9_would_43 rfl) ?_
  refine Eq.trans (e_switch dX9_would_44 (by decide)) ?_
  refine Eq.trans (g_sw1 (y := 0) (t := 76) (by decide) (by decide) (g_sw1 (y := 1) (t := 100) (by decide) (by decide) (g_sw1 (y := 2) (t := 115) (by decide) (by decide) (g_sw1 (y := 3) (t := 130) (by decide) (by decide) (g_sw0 (t := 145) (by decide)))))) ?_
  refine g_ite ?_ (g_ite ?_ (g_ite ?_ (g_ite ?_ (?_))))
  · refine Eq.trans (e_iload_n dX9_would_76 rfl) ?_
    exact e_invs dX9_would_77 cl_9_71 (by decide) (by simp) rfl rfl (by simp)
  · refine Eq.trans (e_aload_n dX9_would_100 rfl) ?_
    refine Eq.trans (e_getr (b := a0 + 1) dX9_would_101 fl_9_10 (kX9 h0) (sX9_0 h0)) ?_
    refine Eq.trans (e_getr (b := a0 + 7) dX9_would_104 fl_9_175 (kX3 (iX9_0 h0)) (sX3_3 (iX9_0 h0))) ?_
    refine Eq.trans (e_iload dX9_would_107 rfl) ?_
    refine Eq.trans (e_iload dX9_would_109 rfl) ?_
    exact e_invv dX9_would_111 cl_9_227 (kX1 (iX3_3 (iX9_0 h0))) (by simp) rfl rfl (by simp)
  · refine Eq.trans (e_aload_n dX9_would_115 rfl) ?_
    refine Eq.trans (e_getr (b := a0 + 1) dX9_would_116 fl_9_10 (kX9 h0) (sX9_0 h0)) ?_
    refine Eq.trans (e_getr (b := a0 + 7) dX9_would_119 fl_9_175 (kX3 (iX9_0 h0)) (sX3_3 (iX9_0 h0))) ?_
    refine Eq.trans (e_iload dX9_would_122 rfl) ?_
    refine Eq.trans (e_iload dX9_would_124 rfl) ?_
    exact e_invv dX9_would_126 cl_9_230 (kX1 (iX3_3 (iX9_0 h0))) (by simp) rfl rfl (by simp)
  · refine Eq.trans (e_aload_n dX9_would_130 rfl) ?_
    refine Eq.trans (e_getr (b := a0 + 1) dX9_would_131 fl_9_10 (kX9 h0) (sX9_0 h0)) ?_
    refine Eq.trans (e_getr (b := a0 + 7) dX9_would_134 fl_9_175 (kX3 (iX9_0 h0)) (sX3_3 (iX9_0 h0))) ?_
    refine Eq.trans (e_iload dX9_would_137 rfl) ?_
    refine Eq.trans (e_iload dX9_would_139 rfl) ?_
    exact e_invv dX9_would_141 cl_9_233 (kX1 (iX3_3 (iX9_0 h0))) (by simp) rfl rfl (by simp)
  · refine Eq.trans (e_iconst (x := (-1)) dX9_would_145 (by decide)) ?_
    exact e_ireti dX9_would_146 rfl
theorem BX9_would_80 {C : gC} {G : gG} {Q : gK} {σ : gM} {a0 : Nat} {v1 : Int32} {v2 : Int32} {v3 : Int32} {v4 : Int32} {v5 : Int32} {s0 : Int32} (h0 : isX9 G a0) : gw C G mX9_would Q 80 [.ref a0, .int v1, .int v2, .int v3, .int v4, .int v5] [.int s0] σ = (if s0 = 0 then Q (some (.int (-1))) σ else (g_inv C mX3_placeFor [.ref (a0 + 1), .int v1, .int v2] σ fun r σ' => gw C G mX9_would Q 92 [.ref a0, .int v1, .int v2, .int v3, .int v4, .int v5] (r.toList ++ []) σ')) := by
  refine Eq.trans (e_if_eq (t := 98) dX9_would_80 (by decide)) (g_ite ?_ ?_)
  · refine Eq.trans (e_iconst (x := (-1)) dX9_would_98 (by decide)) ?_
    exact e_ireti dX9_would_99 rfl
  · refine Eq.trans (e_aload_n dX9_would_83 rfl) ?_
    refine Eq.trans (e_getr (b := a0 + 1) dX9_would_84 fl_9_10 (kX9 h0) (sX9_0 h0)) ?_
    refine Eq.trans (e_iload_n dX9_would_87 rfl) ?_
    refine Eq.trans (e_iload_n dX9_would_88 rfl) ?_
    exact e_invv dX9_would_89 cl_9_91 (kX3 (iX9_0 h0)) (by simp) rfl rfl (by simp)
theorem BX9_would_92 {C : gC} {G : gG} {Q : gK} {σ : gM} {a0 : Nat} {v1 : Int32} {v2 : Int32} {v3 : Int32} {v4 : Int32} {v5 : Int32} {s0 : Int32} (h0 : isX9 G a0) : gw C G mX9_would Q 92 [.ref a0, .int v1, .int v2, .int v3, .int v4, .int v5] [.int s0] σ = (g_inv C mX9_notIfNone [.int s0] σ fun r σ' => gw C G mX9_would Q 95 [.ref a0, .int v1, .int v2, .int v3, .int v4, .int v5] (r.toList ++ []) σ') := by
  exact e_invs dX9_would_92 cl_9_160 (by decide) (by simp) rfl rfl (by simp)
theorem BX9_would_95 {C : gC} {G : gG} {Q : gK} {σ : gM} {a0 : Nat} {v1 : Int32} {v2 : Int32} {v3 : Int32} {v4 : Int32} {v5 : Int32} {s0 : Int32} (h0 : isX9 G a0) : gw C G mX9_would Q 95 [.ref a0, .int v1, .int v2, .int v3, .int v4, .int v5] [.int s0] σ = Q (some (.int s0)) σ := by
  refine Eq.trans (e_goto (t := 99) dX9_would_95 (by decide)) ?_
  exact e_ireti dX9_would_99 rfl
theorem BX9_would_114 {C : gC} {G : gG} {Q : gK} {σ : gM} {a0 : Nat} {v1 : Int32} {v2 : Int32} {v3 : Int32} {v4 : Int32} {v5 : Int32} {s0 : Int32} (h0 : isX9 G a0) : gw C G mX9_would Q 114 [.ref a0, .int v1, .int v2, .int v3, .int v4, .int v5] [.int s0] σ = Q (some (.int s0)) σ := by
  exact e_ireti dX9_would_114 rfl
theorem BX9_would_129 {C : gC} {G : gG} {Q : gK} {σ : gM} {a0 : Nat} {v1 : Int32} {v2 : Int32} {v3 : Int32} {v4 : Int32} {v5 : Int32} {s0 : Int32} (h0 : isX9 G a0) : gw C G mX9_would Q 129 [.ref a0, .int v1, .int v2, .int v3, .int v4, .int v5] [.int s0] σ = Q (some (.int s0)) σ := by
  exact e_ireti dX9_would_129 rfl
theorem BX9_would_144 {C : gC} {G : gG} {Q : gK} {σ : gM} {a0 : Nat} {v1 : Int32} {v2 : Int32} {v3 : Int32} {v4 : Int32} {v5 : Int32} {s0 : Int32} (h0 : isX9 G a0) : gw C G mX9_would Q 144 [.ref a0, .int v1, .int v2, .int v3, .int v4, .int v5] [.int s0] σ = Q (some (.int s0)) σ := by
  exact e_ireti dX9_would_144 rfl
theorem BX9_least_0 {C : gC} {G : gG} {Q : gK} {σ : gM} {a0 : Nat} {v1 : Int32} {v2 : Int32} (h0 : isX9 G a0) : gw C G mX9_least Q 0 [.ref a0, .int v1, .int v2] [] σ = (g_inv C mX5_has [.ref (a0 + 3), .int v1] σ fun r σ' => gw C G mX9_least Q 11 [.ref a0, .int v1, .int v2] (r.toList ++ []) σ') := by
  refine Eq.trans (e_aload_n dX9_least_0 rfl) ?_
  refine Eq.trans (e_getr (b := a0 + 1) dX9_least_1 fl_9_10 (kX9 h0) (sX9_0 h0)) ?_
  refine Eq.trans (e_getr (b := a0 + 3) dX9_least_4 fl_9_57 (kX3 (iX9_0 h0)) (sX3_2 (iX9_0 h0))) ?_
  refine Eq.trans (e_iload_n dX9_least_7 rfl) ?_
  exact e_invv dX9_least_8 cl_9_67 (kX5 (iX3_2 (iX9_0 h0))) (by simp) rfl rfl (by simp)
theorem BX9_least_11 {C : gC} {G : gG} {Q : gK} {σ : gM} {a0 : Nat} {v1 : Int32} {v2 : Int32} {s0 : Int32} (h0 : isX9 G a0) : gw C G mX9_least Q 11 [.ref a0, .int v1, .int v2] [.int s0] σ = (if s0 = 0 then Q (some (.int (-1))) σ else (g_inv C mX9_isBlockLength [.int v2] σ fun r σ' => gw C G mX9_least Q 18 [.ref a0, .int v1, .int v2] (r.toList ++ []) σ')) := by
  refine Eq.trans (e_if_eq (t := 21) dX9_least_11 (by decide)) (g_ite ?_ ?_)
  · refine Eq.trans (e_iconst (x := (-1)) dX9_least_21 (by decide)) ?_
    exact e_ireti dX9_least_22 rfl
  · refine Eq.trans (e_iload_n dX9_least_14 rfl) ?_
    exact e_invs dX9_least_15 cl_9_71 (by decide) (by simp) rfl rfl (by simp)
theorem BX9_least_18 {C : gC} {G : gG} {Q : gK} {σ : gM} {a0 : Nat} {v1 : Int32} {v2 : Int32} {s0 : Int32} (h0 : isX9 G a0) : gw C G mX9_least Q 18 [.ref a0, .int v1, .int v2] [.int s0] σ = (if s0 = 0 then Q (some (.int (-1))) σ else (g_inv C mX3_copyFrom [.ref (a0 + 67), .ref (a0 + 1)] σ fun r σ' => gw C G mX9_least Q 34 [.ref a0, .int v1, .int v2] (r.toList ++ []) σ')) := by
  refine Eq.trans (e_if_ne (t := 23) dX9_least_18 (by decide)) (g_ite ?_ ?_)
  · refine Eq.trans (e_iconst (x := (-1)) dX9_least_21 (by decide)) ?_
    exact e_ireti dX9_least_22 rfl
  · refine Eq.trans (e_aload_n dX9_least_23 rfl) ?_
    refine Eq.trans (e_getr (b := a0 + 67) dX9_least_24 fl_9_22 (kX9 h0) (sX9_3 h0)) ?_
    refine Eq.trans (e_aload_n dX9_least_27 rfl) ?_
    refine Eq.trans (e_getr (b := a0 + 1) dX9_least_28 fl_9_10 (kX9 h0) (sX9_0 h0)) ?_
    exact e_invv dX9_least_31 cl_9_236 (kX3 (iX9_3 h0)) (by simp) rfl rfl (by simp)
theorem BX9_least_34 {C : gC} {G : gG} {Q : gK} {σ : gM} {a0 : Nat} {v1 : Int32} {v2 : Int32} (h0 : isX9 G a0) : gw C G mX9_least Q 34 [.ref a0, .int v1, .int v2] [] σ = (g_inv C mX3_leastBudget [.ref (a0 + 67), .int v1, .int v2] σ fun r σ' => gw C G mX9_least Q 43 [.ref a0, .int v1, .int v2] (r.toList ++ []) σ') := by
  refine Eq.trans (e_aload_n dX9_least_34 rfl) ?_
  refine Eq.trans (e_getr (b := a0 + 67) dX9_least_35 fl_9_22 (kX9 h0) (sX9_3 h0)) ?_
  refine Eq.trans (e_iload_n dX9_least_38 rfl) ?_
  refine Eq.trans (e_iload_n dX9_least_39 rfl) ?_
  exact e_invv dX9_least_40 cl_9_240 (kX3 (iX9_3 h0)) (by simp) rfl rfl (by simp)
theorem BX9_least_43 {C : gC} {G : gG} {Q : gK} {σ : gM} {a0 : Nat} {v1 : Int32} {v2 : Int32} {s0 : Int32} (h0 : isX9 G a0) : gw C G mX9_least Q 43 [.ref a0, .int v1, .int v2] [.int s0] σ = (g_inv C mX9_notIfNone [.int s0] σ fun r σ' => gw C G mX9_least Q 46 [.ref a0, .int v1, .int v2] (r.toList ++ []) σ') := by
  exact e_invs dX9_least_43 cl_9_160 (by decide) (by simp) rfl rfl (by simp)
theorem BX9_least_46 {C : gC} {G : gG} {Q : gK} {σ : gM} {a0 : Nat} {v1 : Int32} {v2 : Int32} {s0 : Int32} (h0 : isX9 G a0) : gw C G mX9_least Q 46 [.ref a0, .int v1, .int v2] [.int s0] σ = Q (some (.int s0)) σ := by
  exact e_ireti dX9_least_46 rfl
theorem BX9_copyAll_0 {C : gC} {G : gG} {Q : gK} {σ : gM} {a0 n0 : Nat} {a1 n1 : Nat} (h0 : (G a0).1 = 11) (m0 : (G a0).2.1 = n0) (h1 : (G a1).1 = 11) (m1 : (G a1).2.1 = n1) : gw C G mX9_copyAll Q 0 [.ref a0, .ref a1] [] σ = (¬ (0 : Int32) < 0 ∧ ¬ (0 : Int32) < 0 ∧ ¬ ((if (Int32.ofNat n1) < (Int32.ofNat n0) then (Int32.ofNat n1) else (Int32.ofNat n0)) : Int32) < 0 ∧ (0 : Int32).toNatClampNeg + (if (Int32.ofNat n1) < (Int32.ofNat n0) then (Int32.ofNat n1) else (Int32.ofNat n0)).toNatClampNeg ≤ n0 ∧ (0 : Int32).toNatClampNeg + (if (Int32.ofNat n1) < (Int32.ofNat n0) then (Int32.ofNat n1) else (Int32.ofNat n0)).toNatClampNeg ≤ n1 ∧ Q none (g_cp σ a0 a1 (0 : Int32).toNatClampNeg (0 : Int32).toNatClampNeg (if (Int32.ofNat n1) < (Int32.ofNat n0) then (Int32.ofNat n1) else (Int32.ofNat n0)).toNatClampNeg)) := by
  refine Eq.trans (e_aload_n dX9_copyAll_0 rfl) ?_
  refine Eq.trans (e_iconst (x := 0) dX9_copyAll_1 (by decide)) ?_
  refine Eq.trans (e_aload_n dX9_copyAll_2 rfl) ?_
  refine Eq.trans (e_iconst (x := 0) dX9_copyAll_3 (by decide)) ?_
  refine Eq.trans (e_aload_n dX9_copyAll_4 rfl) ?_
  refine Eq.trans (e_alen dX9_copyAll_5 (Or.inl h0) m0) ?_
  refine Eq.trans (e_aload_n dX9_copyAll_6 rfl) ?_
  refine Eq.trans (e_alen dX9_copyAll_7 (Or.inl h1) m1) ?_
  refine Eq.trans (e_min dX9_copyAll_8 cl_9_328 (Nat.le_of_ble_eq_true rfl)) ?_
  refine Eq.trans (e_copy dX9_copyAll_11 cl_9_333 h0 h1 m0 m1 (Nat.le_of_ble_eq_true rfl)) (g_cj (g_cj (g_cj (g_cj (g_cj ?_)))))
  exact e_ret dX9_copyAll_14 rfl
theorem BX9_leaked_0 {C : gC} {G : gG} {Q : gK} {σ : gM} {a0 : Nat} {v1 : Int32} (h0 : isX9 G a0) : gw C G mX9_leaked Q 0 [.ref a0, .int v1, .long 0, .long 0] [] σ = (if v1 < (-1) then Q (some (.int (-1))) σ else (g_inv C mX8_fromTagsAndPins [.ref (a0 + 89), .ref (a0 + 1)] σ fun r σ' => gw C G mX9_leaked Q 18 [.ref a0, .int v1, .long 0, .long 0] (r.toList ++ []) σ')) := by
  refine Eq.trans (e_iload_n dX9_leaked_0 rfl) ?_
  refine Eq.trans (e_iconst (x := (-1)) dX9_leaked_1 (by decide)) ?_
  refine Eq.trans (e_ic_ge (t := 7) dX9_leaked_2 (by decide)) (g_ite ?_ ?_)
  · refine Eq.trans (e_iconst (x := (-1)) dX9_leaked_5 (by decide)) ?_
    exact e_ireti dX9_leaked_6 rfl
  · refine Eq.trans (e_aload_n dX9_leaked_7 rfl) ?_
    refine Eq.trans (e_getr (b := a0 + 89) dX9_leaked_8 fl_9_28 (kX9 h0) (sX9_4 h0)) ?_
    refine Eq.trans (e_aload_n dX9_leaked_11 rfl) ?_
    refine Eq.trans (e_getr (b := a0 + 1) dX9_leaked_12 fl_9_10 (kX9 h0) (sX9_0 h0)) ?_
    exact e_invv dX9_leaked_15 cl_9_243 (kX8 (iX9_4 h0)) (by simp) rfl rfl (by simp)
theorem BX9_leaked_18 {C : gC} {G : gG} {Q : gK} {σ : gM} {a0 : Nat} {v1 : Int32} {wv2 : Value} {wv3 : Value} (h0 : isX9 G a0) : gw C G mX9_leaked Q 18 [.ref a0, .int v1, wv2, wv3] [] σ = gw C G mX9_leaked Q 22 [.ref a0, .int v1, .int 0, .int 0] [] σ := by
  refine Eq.trans (e_iconst (x := 0) dX9_leaked_18 (by decide)) ?_
  refine Eq.trans (e_istore_n dX9_leaked_19 (Nat.le_of_ble_eq_true rfl)) ?_
  refine Eq.trans (e_iconst (x := 0) dX9_leaked_20 (by decide)) ?_
  refine Eq.trans (e_istore_n dX9_leaked_21 (Nat.le_of_ble_eq_true rfl)) ?_
  rfl
theorem BX9_leaked_22 {C : gC} {G : gG} {Q : gK} {σ : gM} {a0 : Nat} {v1 : Int32} {v2 : Int32} {v3 : Int32} (h0 : isX9 G a0) : gw C G mX9_leaked Q 22 [.ref a0, .int v1, .int v2, .int v3] [] σ = (if v3 < 30 then (g_inv C mX9_isLeaked [.ref a0, .int v3] σ fun r σ' => gw C G mX9_leaked Q 33 [.ref a0, .int v1, .int v2, .int v3] (r.toList ++ []) σ') else (if v1 = (-1) then Q (some (.int v2)) σ else Q (some (.int (-2))) σ)) := by
  refine Eq.trans (e_iload_n dX9_leaked_22 rfl) ?_
  refine Eq.trans (e_bipush (x := 30) dX9_leaked_23 (by decide)) ?_
  refine Eq.trans (e_ic_ge (t := 55) dX9_leaked_25 (by decide)) (g_ite ?_ ?_)
  · refine Eq.trans (e_aload_n dX9_leaked_28 rfl) ?_
    refine Eq.trans (e_iload_n dX9_leaked_29 rfl) ?_
    exact e_invv dX9_leaked_30 cl_9_246 (kX9 h0) (by simp) rfl rfl (by simp)
  · refine Eq.trans (e_iload_n dX9_leaked_55 rfl) ?_
    refine Eq.trans (e_iconst (x := (-1)) dX9_leaked_56 (by decide)) ?_
    refine Eq.trans (e_ic_ne (t := 64) dX9_leaked_57 (by decide)) (g_ite ?_ ?_)
    · refine Eq.trans (e_iload_n dX9_leaked_60 rfl) ?_
      refine Eq.trans (e_goto (t := 66) dX9_leaked_61 (by decide)) ?_
      exact e_ireti dX9_leaked_66 rfl
    · refine Eq.trans (e_bipush (x := (-2)) dX9_leaked_64 (by decide)) ?_
      exact e_ireti dX9_leaked_66 rfl
theorem BX9_leaked_33 {C : gC} {G : gG} {Q : gK} {σ : gM} {a0 : Nat} {v1 : Int32} {v2 : Int32} {v3 : Int32} {s0 : Int32} (h0 : isX9 G a0) : gw C G mX9_leaked Q 33 [.ref a0, .int v1, .int v2, .int v3] [.int s0] σ = (if s0 = 0 then gw C G mX9_leaked Q 22 [.ref a0, .int v1, .int v2, .int (v3 + 1)] [] σ else (if v2 = v1 then Q (some (.int v3)) σ else gw C G mX9_leaked Q 22 [.ref a0, .int v1, .int (v2 + 1), .int (v3 + 1)] [] σ)) := by
  refine Eq.trans (e_if_ne (t := 39) dX9_leaked_33 (by decide)) (g_ite ?_ ?_)
  · refine Eq.trans (e_goto (t := 49) dX9_leaked_36 (by decide)) ?_
    refine Eq.trans (e_iinc (y := 1) dX9_leaked_49 rfl (by decide)) ?_
    refine Eq.trans (e_goto (t := 22) dX9_leaked_52 (by decide)) ?_
    rfl
  · refine Eq.trans (e_iload_n dX9_leaked_39 rfl) ?_
    refine Eq.trans (e_iload_n dX9_leaked_40 rfl) ?_
    refine Eq.trans (e_ic_ne (t := 46) dX9_leaked_41 (by decide)) (g_ite ?_ ?_)
    · refine Eq.trans (e_iload_n dX9_leaked_44 rfl) ?_
      exact e_ireti dX9_leaked_45 rfl
    · refine Eq.trans (e_iinc (y := 1) dX9_leaked_46 rfl (by decide)) ?_
      refine Eq.trans (e_iinc (y := 1) dX9_leaked_49 rfl (by decide)) ?_
      refine Eq.trans (e_goto (t := 22) dX9_leaked_52 (by decide)) ?_
      rfl
theorem BX9_path_0 {C : gC} {G : gG} {Q : gK} {σ : gM} {a0 : Nat} {v1 : Int32} {v2 : Int32} (h0 : isX9 G a0) : gw C G mX9_path Q 0 [.ref a0, .int v1, .int v2, .long 0, .long 0] [] σ = (g_inv C mX0_liveSlotOf [.ref (a0 + 9), .int v1] σ fun r σ' => gw C G mX9_path Q 11 [.ref a0, .int v1, .int v2, .long 0, .long 0] (r.toList ++ []) σ') := by
  refine Eq.trans (e_aload_n dX9_path_0 rfl) ?_
  refine Eq.trans (e_getr (b := a0 + 1) dX9_path_1 fl_9_10 (kX9 h0) (sX9_0 h0)) ?_
  refine Eq.trans (e_getr (b := a0 + 9) dX9_path_4 fl_9_81 (kX3 (iX9_0 h0)) (sX3_4 (iX9_0 h0))) ?_
  refine Eq.trans (e_iload_n dX9_path_7 rfl) ?_
  exact e_invv dX9_path_8 cl_9_102 (kX0 (iX3_4 (iX9_0 h0))) (by simp) rfl rfl (by simp)
theorem BX9_path_11 {C : gC} {G : gG} {Q : gK} {σ : gM} {a0 : Nat} {v1 : Int32} {v2 : Int32} {wv3 : Value} {wv4 : Value} {s0 : Int32} (h0 : isX9 G a0) : gw C G mX9_path Q 11 [.ref a0, .int v1, .int v2, wv3, wv4] [.int s0] σ = (g_inv C mX0_liveSlotOf [.ref (a0 + 9), .int v2] σ fun r σ' => gw C G mX9_path Q 23 [.ref a0, .int v1, .int v2, .int s0, wv4] (r.toList ++ []) σ') := by
  refine Eq.trans (e_istore_n dX9_path_11 (Nat.le_of_ble_eq_true rfl)) ?_
  refine Eq.trans (e_aload_n dX9_path_12 rfl) ?_
  refine Eq.trans (e_getr (b := a0 + 1) dX9_path_13 fl_9_10 (kX9 h0) (sX9_0 h0)) ?_
  refine Eq.trans (e_getr (b := a0 + 9) dX9_path_16 fl_9_81 (kX3 (iX9_0 h0)) (sX3_4 (iX9_0 h0))) ?_
  refine Eq.trans (e_iload_n dX9_path_19 rfl) ?_
  exact e_invv dX9_path_20 cl_9_102 (kX0 (iX3_4 (iX9_0 h0))) (by simp) rfl rfl (by simp)
theorem BX9_path_23 {C : gC} {G : gG} {Q : gK} {σ : gM} {a0 : Nat} {v1 : Int32} {v2 : Int32} {v3 : Int32} {wv4 : Value} {s0 : Int32} (h0 : isX9 G a0) : gw C G mX9_path Q 23 [.ref a0, .int v1, .int v2, .int v3, wv4] [.int s0] σ = (if v3 = (-1) then Q (some (.int (-4))) σ else (if s0 = (-1) then Q (some (.int (-4))) σ else (g_inv C mX8_from [.ref (a0 + 89), .ref (a0 + 1), .int v3] σ fun r σ' => gw C G mX9_path Q 51 [.ref a0, .int v1, .int v2, .int v3, .int s0] (r.toList ++ []) σ'))) := by
  refine Eq.trans (e_istore dX9_path_23 (Nat.le_of_ble_eq_true rfl)) ?_
  refine Eq.trans (e_iload_n dX9_path_25 rfl) ?_
  refine Eq.trans (e_iconst (x := (-1)) dX9_path_26 (by decide)) ?_
  refine Eq.trans (e_ic_eq (t := 36) dX9_path_27 (by decide)) (g_ite ?_ ?_)
  · refine Eq.trans (e_bipush (x := (-4)) dX9_path_36 (by decide)) ?_
    exact e_ireti dX9_path_38 rfl
  · refine Eq.trans (e_iload dX9_path_30 rfl) ?_
    refine Eq.trans (e_iconst (x := (-1)) dX9_path_32 (by decide)) ?_
    refine Eq.trans (e_ic_ne (t := 39) dX9_path_33 (by decide)) (g_ite ?_ ?_)
    · refine Eq.trans (e_bipush (x := (-4)) dX9_path_36 (by decide)) ?_
      exact e_ireti dX9_path_38 rfl
    · refine Eq.trans (e_aload_n dX9_path_39 rfl) ?_
      refine Eq.trans (e_getr (b := a0 + 89) dX9_path_40 fl_9_28 (kX9 h0) (sX9_4 h0)) ?_
      refine Eq.trans (e_aload_n dX9_path_43 rfl) ?_
      refine Eq.trans (e_getr (b := a0 + 1) dX9_path_44 fl_9_10 (kX9 h0) (sX9_0 h0)) ?_
      refine Eq.trans (e_iload_n dX9_path_47 rfl) ?_
      exact e_invv dX9_path_48 cl_9_249 (kX8 (iX9_4 h0)) (by simp) rfl rfl (by simp)
theorem BX9_path_51 {C : gC} {G : gG} {Q : gK} {σ : gM} {a0 : Nat} {v1 : Int32} {v2 : Int32} {v3 : Int32} {v4 : Int32} (h0 : isX9 G a0) : gw C G mX9_path Q 51 [.ref a0, .int v1, .int v2, .int v3, .int v4] [] σ = (vp_in v4 30 ∧ (g_inv C mX9_notIfNone [.int (σ (a0 + 90) v4.toNatClampNeg)] σ fun r σ' => gw C G mX9_path Q 64 [.ref a0, .int v1, .int v2, .int v3, .int v4] (r.toList ++ []) σ')) := by
  refine Eq.trans (e_aload_n dX9_path_51 rfl) ?_
  refine Eq.trans (e_getr (b := a0 + 89) dX9_path_52 fl_9_28 (kX9 h0) (sX9_4 h0)) ?_
  refine Eq.trans (e_getr (b := a0 + 90) dX9_path_55 fl_9_253 (kX8 (iX9_4 h0)) (sX8_0 (iX9_4 h0))) ?_
  refine Eq.trans (e_iload dX9_path_58 rfl) ?_
  refine Eq.trans (e_iald dX9_path_60 (aX8_0 (iX9_4 h0)) (nX8_0 (iX9_4 h0))) (g_cj ?_)
  exact e_invs dX9_path_61 cl_9_160 (by decide) (by simp) rfl rfl (by simp)
theorem BX9_path_64 {C : gC} {G : gG} {Q : gK} {σ : gM} {a0 : Nat} {v1 : Int32} {v2 : Int32} {v3 : Int32} {v4 : Int32} {s0 : Int32} (h0 : isX9 G a0) : gw C G mX9_path Q 64 [.ref a0, .int v1, .int v2, .int v3, .int v4] [.int s0] σ = Q (some (.int s0)) σ := by
  exact e_ireti dX9_path_64 rfl
theorem BX9_epochs_0 {C : gC} {G : gG} {Q : gK} {σ : gM} {a0 : Nat} {v1 : Int32} (h0 : isX9 G a0) : gw C G mX9_epochs Q 0 [.ref a0, .int v1] [] σ = (if v1 = 0 then (g_inv C mX3_freeable [.ref (a0 + 1)] σ fun r σ' => gw C G mX9_epochs Q 35 [.ref a0, .int v1] (r.toList ++ []) σ') else (if v1 = 1 then (g_inv C mX3_earliestReader [.ref (a0 + 1)] σ fun r σ' => gw C G mX9_epochs Q 43 [.ref a0, .int v1] (r.toList ++ []) σ') else (if v1 = 2 then (g_inv C mX3_readersIn [.ref (a0 + 1)] σ fun r σ' => gw C G mX9_epochs Q 54 [.ref a0, .int v1] (r.toList ++ []) σ') else Q (some (.int (-1))) σ))) := by
  refine Eq.trans (e_iload_n dX9_epochs_0 rfl) ?_
  refine Eq.trans (e_switch dX9_epochs_1 (by decide)) ?_
  refine Eq.trans (g_sw1 (y := 0) (t := 28) (by decide) (by decide) (g_sw1 (y := 1) (t := 36) (by decide) (by decide) (g_sw1 (y := 2) (t := 47) (by decide) (by decide) (g_sw0 (t := 55) (by decide))))) ?_
  refine g_ite ?_ (g_ite ?_ (g_ite ?_ (?_)))
  · refine Eq.trans (e_aload_n dX9_epochs_28 rfl) ?_
    refine Eq.trans (e_getr (b := a0 + 1) dX9_epochs_29 fl_9_10 (kX9 h0) (sX9_0 h0)) ?_
    exact e_invv dX9_epochs_32 cl_9_256 (kX3 (iX9_0 h0)) (by simp) rfl rfl (by simp)
  · refine Eq.trans (e_aload_n dX9_epochs_36 rfl) ?_
    refine Eq.trans (e_getr (b := a0 + 1) dX9_epochs_37 fl_9_10 (kX9 h0) (sX9_0 h0)) ?_
    exact e_invv dX9_epochs_40 cl_9_259 (kX3 (iX9_0 h0)) (by simp) rfl rfl (by simp)
  · refine Eq.trans (e_aload_n dX9_epochs_47 rfl) ?_
    refine Eq.trans (e_getr (b := a0 + 1) dX9_epochs_48 fl_9_10 (kX9 h0) (sX9_0 h0)) ?_
    exact e_invv dX9_epochs_51 cl_9_262 (kX3 (iX9_0 h0)) (by simp) rfl rfl (by simp)
  · refine Eq.trans (e_iconst (x := (-1)) dX9_epochs_55 (by decide)) ?_
    exact e_ireti dX9_epochs_56 rfl
theorem BX9_epochs_35 {C : gC} {G : gG} {Q : gK} {σ : gM} {a0 : Nat} {v1 : Int32} {s0 : Int32} (h0 : isX9 G a0) : gw C G mX9_epochs Q 35 [.ref a0, .int v1] [.int s0] σ = Q (some (.int s0)) σ := by
  exact e_ireti dX9_epochs_35 rfl
theorem BX9_epochs_43 {C : gC} {G : gG} {Q : gK} {σ : gM} {a0 : Nat} {v1 : Int32} {s0 : Int32} (h0 : isX9 G a0) : gw C G mX9_epochs Q 43 [.ref a0, .int v1] [.int s0] σ = (g_inv C mX9_notIfNone [.int s0] σ fun r σ' => gw C G mX9_epochs Q 46 [.ref a0, .int v1] (r.toList ++ []) σ') := by
  exact e_invs dX9_epochs_43 cl_9_160 (by decide) (by simp) rfl rfl (by simp)
theorem BX9_epochs_46 {C : gC} {G : gG} {Q : gK} {σ : gM} {a0 : Nat} {v1 : Int32} {s0 : Int32} (h0 : isX9 G a0) : gw C G mX9_epochs Q 46 [.ref a0, .int v1] [.int s0] σ = Q (some (.int s0)) σ := by
  exact e_ireti dX9_epochs_46 rfl
theorem BX9_epochs_54 {C : gC} {G : gG} {Q : gK} {σ : gM} {a0 : Nat} {v1 : Int32} {s0 : Int32} (h0 : isX9 G a0) : gw C G mX9_epochs Q 54 [.ref a0, .int v1] [.int s0] σ = Q (some (.int s0)) σ := by
  exact e_ireti dX9_epochs_54 rfl
theorem BX9_plan_0 {C : gC} {G : gG} {Q : gK} {σ : gM} {a0 : Nat} {v1 : Int32} {v2 : Int32} (h0 : isX9 G a0) : gw C G mX9_plan Q 0 [.ref a0, .int v1, .int v2, .long 0, .long 0] [] σ = (g_inv C mX9_isHolder [.int v1] σ fun r σ' => gw C G mX9_plan Q 4 [.ref a0, .int v1, .int v2, .long 0, .long 0] (r.toList ++ []) σ') := by
  refine Eq.trans (e_iload_n dX9_plan_0 rfl) ?_
  exact e_invs dX9_plan_1 cl_9_265 (by decide) (by simp) rfl rfl (by simp)
theorem BX9_plan_4 {C : gC} {G : gG} {Q : gK} {σ : gM} {a0 : Nat} {v1 : Int32} {v2 : Int32} {wv3 : Value} {wv4 : Value} {s0 : Int32} (h0 : isX9 G a0) : gw C G mX9_plan Q 4 [.ref a0, .int v1, .int v2, wv3, wv4] [.int s0] σ = (if s0 = 0 then Q (some (.int (-1))) σ else (g_inv C mX5_has [.ref (a0 + 3), .int v2] σ fun r σ' => gw C G mX9_plan Q 18 [.ref a0, .int v1, .int v2, wv3, wv4] (r.toList ++ []) σ')) := by
  refine Eq.trans (e_if_eq (t := 21) dX9_plan_4 (by decide)) (g_ite ?_ ?_)
  · refine Eq.trans (e_iconst (x := (-1)) dX9_plan_21 (by decide)) ?_
    exact e_ireti dX9_plan_22 rfl
  · refine Eq.trans (e_aload_n dX9_plan_7 rfl) ?_
    refine Eq.trans (e_getr (b := a0 + 1) dX9_plan_8 fl_9_10 (kX9 h0) (sX9_0 h0)) ?_
    refine Eq.trans (e_getr (b := a0 + 3) dX9_plan_11 fl_9_57 (kX3 (iX9_0 h0)) (sX3_2 (iX9_0 h0))) ?_
    refine Eq.trans (e_iload_n dX9_plan_14 rfl) ?_
    exact e_invv dX9_plan_15 cl_9_67 (kX5 (iX3_2 (iX9_0 h0))) (by simp) rfl rfl (by simp)
theorem BX9_plan_18 {C : gC} {G : gG} {Q : gK} {σ : gM} {a0 : Nat} {v1 : Int32} {v2 : Int32} {wv3 : Value} {wv4 : Value} {s0 : Int32} (h0 : isX9 G a0) : gw C G mX9_plan Q 18 [.ref a0, .int v1, .int v2, wv3, wv4] [.int s0] σ = (if s0 = 0 then Q (some (.int (-1))) σ else (g_inv C mX2_faultAsRow [.ref (a0 + 99), .int v1] σ fun r σ' => gw C G mX9_plan Q 31 [.ref a0, .int v1, .int v2, wv3, wv4] (r.toList ++ []) σ')) := by
  refine Eq.trans (e_if_ne (t := 23) dX9_plan_18 (by decide)) (g_ite ?_ ?_)
  · refine Eq.trans (e_iconst (x := (-1)) dX9_plan_21 (by decide)) ?_
    exact e_ireti dX9_plan_22 rfl
  · refine Eq.trans (e_aload_n dX9_plan_23 rfl) ?_
    refine Eq.trans (e_getr (b := a0 + 99) dX9_plan_24 fl_9_49 (kX9 h0) (sX9_7 h0)) ?_
    refine Eq.trans (e_iload_n dX9_plan_27 rfl) ?_
    exact e_invv dX9_plan_28 cl_9_268 (kX2 (iX9_7 h0)) (by simp) rfl rfl (by simp)
theorem BX9_plan_31 {C : gC} {G : gG} {Q : gK} {σ : gM} {a0 : Nat} {v1 : Int32} {v2 : Int32} {wv3 : Value} {wv4 : Value} {s0 : Int32} (h0 : isX9 G a0) : gw C G mX9_plan Q 31 [.ref a0, .int v1, .int v2, wv3, wv4] [.int s0] σ = (if s0 = 0 then (g_inv C mX1_copyFrom [.ref (a0 + 73), .ref (a0 + 7)] σ fun r σ' => gw C G mX9_plan Q 55 [.ref a0, .int v1, .int v2, .int s0, wv4] (r.toList ++ []) σ') else Q (some (.int s0)) σ) := by
  refine Eq.trans (e_istore_n dX9_plan_31 (Nat.le_of_ble_eq_true rfl)) ?_
  refine Eq.trans (e_iload_n dX9_plan_32 rfl) ?_
  refine Eq.trans (e_if_eq (t := 38) dX9_plan_33 (by decide)) (g_ite ?_ ?_)
  · refine Eq.trans (e_aload_n dX9_plan_38 rfl) ?_
    refine Eq.trans (e_getr (b := a0 + 67) dX9_plan_39 fl_9_22 (kX9 h0) (sX9_3 h0)) ?_
    refine Eq.trans (e_getr (b := a0 + 73) dX9_plan_42 fl_9_175 (kX3 (iX9_3 h0)) (sX3_3 (iX9_3 h0))) ?_
    refine Eq.trans (e_aload_n dX9_plan_45 rfl) ?_
    refine Eq.trans (e_getr (b := a0 + 1) dX9_plan_46 fl_9_10 (kX9 h0) (sX9_0 h0)) ?_
    refine Eq.trans (e_getr (b := a0 + 7) dX9_plan_49 fl_9_175 (kX3 (iX9_0 h0)) (sX3_3 (iX9_0 h0))) ?_
    exact e_invv dX9_plan_52 cl_9_271 (kX1 (iX3_3 (iX9_3 h0))) (by simp) rfl rfl (by simp)
  · refine Eq.trans (e_iload_n dX9_plan_36 rfl) ?_
    exact e_ireti dX9_plan_37 rfl
theorem BX9_plan_55 {C : gC} {G : gG} {Q : gK} {σ : gM} {a0 : Nat} {v1 : Int32} {v2 : Int32} {v3 : Int32} {wv4 : Value} (h0 : isX9 G a0) : gw C G mX9_plan Q 55 [.ref a0, .int v1, .int v2, .int v3, wv4] [] σ = gw C G mX9_plan Q 66 [.ref a0, .int v1, .int v2, .int v3, .int 0] [] (g_up σ (a0 + 92) 0 0) := by
  refine Eq.trans (e_aload_n dX9_plan_55 rfl) ?_
  refine Eq.trans (e_getr (b := a0 + 92) dX9_plan_56 fl_9_35 (kX9 h0) (sX9_5 h0)) ?_
  refine Eq.trans (e_iconst (x := 0) dX9_plan_59 (by decide)) ?_
  refine Eq.trans (e_puti dX9_plan_60 fl_9_274 (kX4 (iX9_5 h0))) ?_
  refine Eq.trans (e_iconst (x := 0) dX9_plan_63 (by decide)) ?_
  refine Eq.trans (e_istore dX9_plan_64 (Nat.le_of_ble_eq_true rfl)) ?_
  rfl
theorem BX9_plan_66 {C : gC} {G : gG} {Q : gK} {σ : gM} {a0 : Nat} {v1 : Int32} {v2 : Int32} {v3 : Int32} {v4 : Int32} (h0 : isX9 G a0) : gw C G mX9_plan Q 66 [.ref a0, .int v1, .int v2, .int v3, .int v4] [] σ = (vp_in v1 6 ∧ (if v4 < (σ (a0 + 102) v1.toNatClampNeg) then (g_inv C mX2_item [.ref (a0 + 99), .int v1, .int v4] σ fun r σ' => gw C G mX9_plan Q 91 [.ref a0, .int v1, .int v2, .int v3, .int v4] (r.toList ++ [.ref a0]) σ') else Q (some (.int (-2))) σ)) := by
  refine Eq.trans (e_iload dX9_plan_66 rfl) ?_
  refine Eq.trans (e_aload_n dX9_plan_68 rfl) ?_
  refine Eq.trans (e_getr (b := a0 + 99) dX9_plan_69 fl_9_49 (kX9 h0) (sX9_7 h0)) ?_
  refine Eq.trans (e_getr (b := a0 + 102) dX9_plan_72 fl_9_275 (kX2 (iX9_7 h0)) (sX2_2 (iX9_7 h0))) ?_
  refine Eq.trans (e_iload_n dX9_plan_75 rfl) ?_
  refine Eq.trans (e_iald dX9_plan_76 (aX2_2 (iX9_7 h0)) (nX2_2 (iX9_7 h0))) (g_cj ?_)
  refine Eq.trans (e_ic_ge (t := 107) dX9_plan_77 (by decide)) (g_ite ?_ ?_)
  · refine Eq.trans (e_aload_n dX9_plan_80 rfl) ?_
    refine Eq.trans (e_aload_n dX9_plan_81 rfl) ?_
    refine Eq.trans (e_getr (b := a0 + 99) dX9_plan_82 fl_9_49 (kX9 h0) (sX9_7 h0)) ?_
    refine Eq.trans (e_iload_n dX9_plan_85 rfl) ?_
    refine Eq.trans (e_iload dX9_plan_86 rfl) ?_
    exact e_invv dX9_plan_88 cl_9_276 (kX2 (iX9_7 h0)) (by simp) rfl rfl (by simp)
  · refine Eq.trans (e_bipush (x := (-2)) dX9_plan_107 (by decide)) ?_
    exact e_ireti dX9_plan_109 rfl
theorem BX9_plan_91 {C : gC} {G : gG} {Q : gK} {σ : gM} {a0 : Nat} {v1 : Int32} {v2 : Int32} {v3 : Int32} {v4 : Int32} {s1 : Int32} (h0 : isX9 G a0) : gw C G mX9_plan Q 91 [.ref a0, .int v1, .int v2, .int v3, .int v4] [.int s1, .ref a0] σ = (g_inv C mX9_planElement [.ref a0, .int s1, .int v2] σ fun r σ' => gw C G mX9_plan Q 95 [.ref a0, .int v1, .int v2, .int v3, .int v4] (r.toList ++ []) σ') := by
  refine Eq.trans (e_iload_n dX9_plan_91 rfl) ?_
  exact e_invv dX9_plan_92 cl_9_279 (kX9 h0) (by simp) rfl rfl (by simp)
theorem BX9_plan_95 {C : gC} {G : gG} {Q : gK} {σ : gM} {a0 : Nat} {v1 : Int32} {v2 : Int32} {v3 : Int32} {v4 : Int32} {s0 : Int32} (h0 : isX9 G a0) : gw C G mX9_plan Q 95 [.ref a0, .int v1, .int v2, .int v3, .int v4] [.int s0] σ = (if s0 = 0 then Q (some (.int v4)) σ else gw C G mX9_plan Q 66 [.ref a0, .int v1, .int v2, .int v3, .int (v4 + 1)] [] σ) := by
  refine Eq.trans (e_if_ne (t := 101) dX9_plan_95 (by decide)) (g_ite ?_ ?_)
  · refine Eq.trans (e_iload dX9_plan_98 rfl) ?_
    exact e_ireti dX9_plan_100 rfl
  · refine Eq.trans (e_iinc (y := 1) dX9_plan_101 rfl (by decide)) ?_
    refine Eq.trans (e_goto (t := 66) dX9_plan_104 (by decide)) ?_
    rfl
theorem BX9_isHolder_0 {C : gC} {G : gG} {Q : gK} {σ : gM} {v0 : Int32}  : gw C G mX9_isHolder Q 0 [.int v0] [] σ = (if v0 < 0 then Q (some (.int 0)) σ else (if v0 < 6 then Q (some (.int 1)) σ else Q (some (.int 0)) σ)) := by
  refine Eq.trans (e_iload_n dX9_isHolder_0 rfl) ?_
  refine Eq.trans (e_if_lt (t := 14) dX9_isHolder_1 (by decide)) (g_ite ?_ ?_)
  · refine Eq.trans (e_iconst (x := 0) dX9_isHolder_14 (by decide)) ?_
    exact Eq.trans (e_iretz dX9_isHolder_15 rfl) (g_and (by decide))
  · refine Eq.trans (e_iload_n dX9_isHolder_4 rfl) ?_
    refine Eq.trans (e_bipush (x := 6) dX9_isHolder_5 (by decide)) ?_
    refine Eq.trans (e_ic_ge (t := 14) dX9_isHolder_7 (by decide)) (g_ite ?_ ?_)
    · refine Eq.trans (e_iconst (x := 1) dX9_isHolder_10 (by decide)) ?_
      refine Eq.trans (e_goto (t := 15) dX9_isHolder_11 (by decide)) ?_
      exact Eq.trans (e_iretz dX9_isHolder_15 rfl) (g_and (by decide))
    · refine Eq.trans (e_iconst (x := 0) dX9_isHolder_14 (by decide)) ?_
      exact Eq.trans (e_iretz dX9_isHolder_15 rfl) (g_and (by decide))
theorem BX9_planElement_0 {C : gC} {G : gG} {Q : gK} {σ : gM} {a0 : Nat} {v1 : Int32} {v2 : Int32} (h0 : isX9 G a0) : gw C G mX9_planElement Q 0 [.ref a0, .int v1, .int v2, .long 0] [] σ = (if v1 < 0 then (g_inv C mX4_dropFrom [.ref (a0 + 92), .ref (a0 + 73), .int v1] σ fun r σ' => gw C G mX9_planElement Q 19 [.ref a0, .int v1, .int v2, .long 0] (r.toList ++ []) σ') else (g_inv C mX9_isBlockLength [.int v1] σ fun r σ' => gw C G mX9_planElement Q 24 [.ref a0, .int v1, .int v2, .long 0] (r.toList ++ []) σ')) := by
  refine Eq.trans (e_iload_n dX9_planElement_0 rfl) ?_
  refine Eq.trans (e_if_ge (t := 20) dX9_planElement_1 (by decide)) (g_ite ?_ ?_)
  · refine Eq.trans (e_aload_n dX9_planElement_4 rfl) ?_
    refine Eq.trans (e_getr (b := a0 + 92) dX9_planElement_5 fl_9_35 (kX9 h0) (sX9_5 h0)) ?_
    refine Eq.trans (e_aload_n dX9_planElement_8 rfl) ?_
    refine Eq.trans (e_getr (b := a0 + 67) dX9_planElement_9 fl_9_22 (kX9 h0) (sX9_3 h0)) ?_
    refine Eq.trans (e_getr (b := a0 + 73) dX9_planElement_12 fl_9_175 (kX3 (iX9_3 h0)) (sX3_3 (iX9_3 h0))) ?_
    refine Eq.trans (e_iload_n dX9_planElement_15 rfl) ?_
    exact e_invv dX9_planElement_16 cl_9_339 (kX4 (iX9_5 h0)) (by simp) rfl rfl (by simp)
  · refine Eq.trans (e_iload_n dX9_planElement_20 rfl) ?_
    exact e_invs dX9_planElement_21 cl_9_71 (by decide) (by simp) rfl rfl (by simp)
theorem BX9_planElement_19 {C : gC} {G : gG} {Q : gK} {σ : gM} {a0 : Nat} {v1 : Int32} {v2 : Int32} {wv3 : Value} {s0 : Int32} (h0 : isX9 G a0) : gw C G mX9_planElement Q 19 [.ref a0, .int v1, .int v2, wv3] [.int s0] σ = ((s0 = 0 ∨ s0 = 1) ∧ Q (some (.int s0)) σ) := by
  exact e_iretz dX9_planElement_19 rfl
theorem BX9_planElement_24 {C : gC} {G : gG} {Q : gK} {σ : gM} {a0 : Nat} {v1 : Int32} {v2 : Int32} {wv3 : Value} {s0 : Int32} (h0 : isX9 G a0) : gw C G mX9_planElement Q 24 [.ref a0, .int v1, .int v2, wv3] [.int s0] σ = (if s0 = 0 then Q (some (.int 0)) σ else (g_inv C mX1_placeIn [.ref (a0 + 73), .ref (a0 + 3), .int v2, .int v1] σ fun r σ' => gw C G mX9_planElement Q 48 [.ref a0, .int v1, .int v2, wv3] (r.toList ++ []) σ')) := by
  refine Eq.trans (e_if_ne (t := 29) dX9_planElement_24 (by decide)) (g_ite ?_ ?_)
  · refine Eq.trans (e_iconst (x := 0) dX9_planElement_27 (by decide)) ?_
    exact Eq.trans (e_iretz dX9_planElement_28 rfl) (g_and (by decide))
  · refine Eq.trans (e_aload_n dX9_planElement_29 rfl) ?_
    refine Eq.trans (e_getr (b := a0 + 67) dX9_planElement_30 fl_9_22 (kX9 h0) (sX9_3 h0)) ?_
    refine Eq.trans (e_getr (b := a0 + 73) dX9_planElement_33 fl_9_175 (kX3 (iX9_3 h0)) (sX3_3 (iX9_3 h0))) ?_
    refine Eq.trans (e_aload_n dX9_planElement_36 rfl) ?_
    refine Eq.trans (e_getr (b := a0 + 1) dX9_planElement_37 fl_9_10 (kX9 h0) (sX9_0 h0)) ?_
    refine Eq.trans (e_getr (b := a0 + 3) dX9_planElement_40 fl_9_57 (kX3 (iX9_0 h0)) (sX3_2 (iX9_0 h0))) ?_
    refine Eq.trans (e_iload_n dX9_planElement_43 rfl) ?_
    refine Eq.trans (e_iload_n dX9_planElement_44 rfl) ?_
    exact e_invv dX9_planElement_45 cl_9_343 (kX1 (iX3_3 (iX9_3 h0))) (by simp) rfl rfl (by simp)
theorem BX9_planElement_48 {C : gC} {G : gG} {Q : gK} {σ : gM} {a0 : Nat} {v1 : Int32} {v2 : Int32} {wv3 : Value} {s0 : Int32} (h0 : isX9 G a0) : gw C G mX9_planElement Q 48 [.ref a0, .int v1, .int v2, wv3] [.int s0] σ = (if s0 = (-1) then Q (some (.int 0)) σ else (g_inv C mX4_putOn [.ref (a0 + 92), .ref (a0 + 73), .int s0, .int v1] σ fun r σ' => gw C G mX9_planElement Q 70 [.ref a0, .int v1, .int v2, .int s0] (r.toList ++ []) σ')) := by
  refine Eq.trans (e_istore_n dX9_planElement_48 (Nat.le_of_ble_eq_true rfl)) ?_
  refine Eq.trans (e_iload_n dX9_planElement_49 rfl) ?_
  refine Eq.trans (e_iconst (x := (-1)) dX9_planElement_50 (by decide)) ?_
  refine Eq.trans (e_ic_eq (t := 77) dX9_planElement_51 (by decide)) (g_ite ?_ ?_)
  · refine Eq.trans (e_iconst (x := 0) dX9_planElement_77 (by decide)) ?_
    exact Eq.trans (e_iretz dX9_planElement_78 rfl) (g_and (by decide))
  · refine Eq.trans (e_aload_n dX9_planElement_54 rfl) ?_
    refine Eq.trans (e_getr (b := a0 + 92) dX9_planElement_55 fl_9_35 (kX9 h0) (sX9_5 h0)) ?_
    refine Eq.trans (e_aload_n dX9_planElement_58 rfl) ?_
    refine Eq.trans (e_getr (b := a0 + 67) dX9_planElement_59 fl_9_22 (kX9 h0) (sX9_3 h0)) ?_
    refine Eq.trans (e_getr (b := a0 + 73) dX9_planElement_62 fl_9_175 (kX3 (iX9_3 h0)) (sX3_3 (iX9_3 h0))) ?_
    refine Eq.trans (e_iload_n dX9_planElement_65 rfl) ?_
    refine Eq.trans (e_iload_n dX9_planElement_66 rfl) ?_
    exact e_invv dX9_planElement_67 cl_9_347 (kX4 (iX9_5 h0)) (by simp) rfl rfl (by simp)
theorem BX9_planElement_70 {C : gC} {G : gG} {Q : gK} {σ : gM} {a0 : Nat} {v1 : Int32} {v2 : Int32} {v3 : Int32} {s0 : Int32} (h0 : isX9 G a0) : gw C G mX9_planElement Q 70 [.ref a0, .int v1, .int v2, .int v3] [.int s0] σ = (if s0 = 0 then Q (some (.int 0)) σ else Q (some (.int 1)) σ) := by
  refine Eq.trans (e_if_eq (t := 77) dX9_planElement_70 (by decide)) (g_ite ?_ ?_)
  · refine Eq.trans (e_iconst (x := 0) dX9_planElement_77 (by decide)) ?_
    exact Eq.trans (e_iretz dX9_planElement_78 rfl) (g_and (by decide))
  · refine Eq.trans (e_iconst (x := 1) dX9_planElement_73 (by decide)) ?_
    refine Eq.trans (e_goto (t := 78) dX9_planElement_74 (by decide)) ?_
    exact Eq.trans (e_iretz dX9_planElement_78 rfl) (g_and (by decide))
theorem BX9_told_0 {C : gC} {G : gG} {Q : gK} {σ : gM} {a0 : Nat} {v1 : Int32} {v2 : Int32} (h0 : isX9 G a0) : gw C G mX9_told Q 0 [.ref a0, .int v1, .int v2, .long 0, .long 0, .long 0, .long 0, .long 0] [] σ = (g_inv C mX9_isHolder [.int v1] σ fun r σ' => gw C G mX9_told Q 4 [.ref a0, .int v1, .int v2, .long 0, .long 0, .long 0, .long 0, .long 0] (r.toList ++ []) σ') := by
  refine Eq.trans (e_iload_n dX9_told_0 rfl) ?_
  exact e_invs dX9_told_1 cl_9_265 (by decide) (by simp) rfl rfl (by simp)
theorem BX9_told_4 {C : gC} {G : gG} {Q : gK} {σ : gM} {a0 : Nat} {v1 : Int32} {v2 : Int32} {wv3 : Value} {wv4 : Value} {wv5 : Value} {wv6 : Value} {wv7 : Value} {s0 : Int32} (h0 : isX9 G a0) : gw C G mX9_told Q 4 [.ref a0, .int v1, .int v2, wv3, wv4, wv5, wv6, wv7] [.int s0] σ = (if s0 = 0 then Q (some (.int (-1))) σ else (g_inv C mX2_faultAsRow [.ref (a0 + 99), .int v1] σ fun r σ' => gw C G mX9_told Q 17 [.ref a0, .int v1, .int v2, wv3, wv4, wv5, wv6, wv7] (r.toList ++ []) σ')) := by
  refine Eq.trans (e_if_ne (t := 9) dX9_told_4 (by decide)) (g_ite ?_ ?_)
  · refine Eq.trans (e_iconst (x := (-1)) dX9_told_7 (by decide)) ?_
    exact e_ireti dX9_told_8 rfl
  · refine Eq.trans (e_aload_n dX9_told_9 rfl) ?_
    refine Eq.trans (e_getr (b := a0 + 99) dX9_told_10 fl_9_49 (kX9 h0) (sX9_7 h0)) ?_
    refine Eq.trans (e_iload_n dX9_told_13 rfl) ?_
    exact e_invv dX9_told_14 cl_9_268 (kX2 (iX9_7 h0)) (by simp) rfl rfl (by simp)
theorem BX9_told_17 {C : gC} {G : gG} {Q : gK} {σ : gM} {a0 : Nat} {v1 : Int32} {v2 : Int32} {wv3 : Value} {wv4 : Value} {wv5 : Value} {wv6 : Value} {wv7 : Value} {s0 : Int32} (h0 : isX9 G a0) : gw C G mX9_told Q 17 [.ref a0, .int v1, .int v2, wv3, wv4, wv5, wv6, wv7] [.int s0] σ = (if s0 = 0 then (g_inv C mX0_liveSlotOf [.ref (a0 + 9), .int v2] σ fun r σ' => gw C G mX9_told Q 35 [.ref a0, .int v1, .int v2, .int s0, wv4, wv5, wv6, wv7] (r.toList ++ []) σ') else Q (some (.int s0)) σ) := by
  refine Eq.trans (e_istore_n dX9_told_17 (Nat.le_of_ble_eq_true rfl)) ?_
  refine Eq.trans (e_iload_n dX9_told_18 rfl) ?_
  refine Eq.trans (e_if_eq (t := 24) dX9_told_19 (by decide)) (g_ite ?_ ?_)
  · refine Eq.trans (e_aload_n dX9_told_24 rfl) ?_
    refine Eq.trans (e_getr (b := a0 + 1) dX9_told_25 fl_9_10 (kX9 h0) (sX9_0 h0)) ?_
    refine Eq.trans (e_getr (b := a0 + 9) dX9_told_28 fl_9_81 (kX3 (iX9_0 h0)) (sX3_4 (iX9_0 h0))) ?_
    refine Eq.trans (e_iload_n dX9_told_31 rfl) ?_
    exact e_invv dX9_told_32 cl_9_102 (kX0 (iX3_4 (iX9_0 h0))) (by simp) rfl rfl (by simp)
  · refine Eq.trans (e_iload_n dX9_told_22 rfl) ?_
    exact e_ireti dX9_told_23 rfl
theorem BX9_told_35 {C : gC} {G : gG} {Q : gK} {σ : gM} {a0 : Nat} {v1 : Int32} {v2 : Int32} {v3 : Int32} {wv4 : Value} {wv5 : Value} {wv6 : Value} {wv7 : Value} {s0 : Int32} (h0 : isX9 G a0) : gw C G mX9_told Q 35 [.ref a0, .int v1, .int v2, .int v3, wv4, wv5, wv6, wv7] [.int s0] σ = (if s0 = (-1) then Q (some (.int (-4))) σ else (vp_in v1 6 ∧ gw C G mX9_told Q 60 [.ref a0, .int v1, .int v2, .int v3, .int s0, .int (σ (a0 + 102) v1.toNatClampNeg), .int 0, wv7] [] σ)) := by
  refine Eq.trans (e_istore dX9_told_35 (Nat.le_of_ble_eq_true rfl)) ?_
  refine Eq.trans (e_iload dX9_told_37 rfl) ?_
  refine Eq.trans (e_iconst (x := (-1)) dX9_told_39 (by decide)) ?_
  refine Eq.trans (e_ic_ne (t := 46) dX9_told_40 (by decide)) (g_ite ?_ ?_)
  · refine Eq.trans (e_bipush (x := (-4)) dX9_told_43 (by decide)) ?_
    exact e_ireti dX9_told_45 rfl
  · refine Eq.trans (e_aload_n dX9_told_46 rfl) ?_
    refine Eq.trans (e_getr (b := a0 + 99) dX9_told_47 fl_9_49 (kX9 h0) (sX9_7 h0)) ?_
    refine Eq.trans (e_getr (b := a0 + 102) dX9_told_50 fl_9_275 (kX2 (iX9_7 h0)) (sX2_2 (iX9_7 h0))) ?_
    refine Eq.trans (e_iload_n dX9_told_53 rfl) ?_
    refine Eq.trans (e_iald dX9_told_54 (aX2_2 (iX9_7 h0)) (nX2_2 (iX9_7 h0))) (g_cj ?_)
    refine Eq.trans (e_istore dX9_told_55 (Nat.le_of_ble_eq_true rfl)) ?_
    refine Eq.trans (e_iconst (x := 0) dX9_told_57 (by decide)) ?_
    refine Eq.trans (e_istore dX9_told_58 (Nat.le_of_ble_eq_true rfl)) ?_
    rfl
theorem BX9_told_60 {C : gC} {G : gG} {Q : gK} {σ : gM} {a0 : Nat} {v1 : Int32} {v2 : Int32} {v3 : Int32} {v4 : Int32} {v5 : Int32} {v6 : Int32} {wv7 : Value} (h0 : isX9 G a0) : gw C G mX9_told Q 60 [.ref a0, .int v1, .int v2, .int v3, .int v4, .int v5, .int v6, wv7] [] σ = (if v6 < v5 then (g_inv C mX3_cellAt [.ref (a0 + 1), .int v4, .int v6] σ fun r σ' => gw C G mX9_told Q 78 [.ref a0, .int v1, .int v2, .int v3, .int v4, .int v5, .int v6, wv7] (r.toList ++ []) σ') else (vp_in v4 30 ∧ (if v5 < (σ (a0 + 13) v4.toNatClampNeg) then Q (some (.int v5)) σ else Q (some (.int (-2))) σ))) := by
  refine Eq.trans (e_iload dX9_told_60 rfl) ?_
  refine Eq.trans (e_iload dX9_told_62 rfl) ?_
  refine Eq.trans (e_ic_ge (t := 118) dX9_told_64 (by decide)) (g_ite ?_ ?_)
  · refine Eq.trans (e_aload_n dX9_told_67 rfl) ?_
    refine Eq.trans (e_getr (b := a0 + 1) dX9_told_68 fl_9_10 (kX9 h0) (sX9_0 h0)) ?_
    refine Eq.trans (e_iload dX9_told_71 rfl) ?_
    refine Eq.trans (e_iload dX9_told_73 rfl) ?_
    exact e_invv dX9_told_75 cl_9_132 (kX3 (iX9_0 h0)) (by simp) rfl rfl (by simp)
  · refine Eq.trans (e_iload dX9_told_118 rfl) ?_
    refine Eq.trans (e_aload_n dX9_told_120 rfl) ?_
    refine Eq.trans (e_getr (b := a0 + 1) dX9_told_121 fl_9_10 (kX9 h0) (sX9_0 h0)) ?_
    refine Eq.trans (e_getr (b := a0 + 9) dX9_told_124 fl_9_81 (kX3 (iX9_0 h0)) (sX3_4 (iX9_0 h0))) ?_
    refine Eq.trans (e_getr (b := a0 + 13) dX9_told_127 fl_9_120 (kX0 (iX3_4 (iX9_0 h0))) (sX0_3 (iX3_4 (iX9_0 h0)))) ?_
    refine Eq.trans (e_iload dX9_told_130 rfl) ?_
    refine Eq.trans (e_iald dX9_told_132 (aX0_3 (iX3_4 (iX9_0 h0))) (nX0_3 (iX3_4 (iX9_0 h0)))) (g_cj ?_)
    refine Eq.trans (e_ic_ge (t := 141) dX9_told_133 (by decide)) (g_ite ?_ ?_)
    · refine Eq.trans (e_iload dX9_told_136 rfl) ?_
      refine Eq.trans (e_goto (t := 143) dX9_told_138 (by decide)) ?_
      exact e_ireti dX9_told_143 rfl
    · refine Eq.trans (e_bipush (x := (-2)) dX9_told_141 (by decide)) ?_
      exact e_ireti dX9_told_143 rfl
theorem BX9_told_78 {C : gC} {G : gG} {Q : gK} {σ : gM} {a0 : Nat} {v1 : Int32} {v2 : Int32} {v3 : Int32} {v4 : Int32} {v5 : Int32} {v6 : Int32} {wv7 : Value} {s0 : Int32} (h0 : isX9 G a0) : gw C G mX9_told Q 78 [.ref a0, .int v1, .int v2, .int v3, .int v4, .int v5, .int v6, wv7] [.int s0] σ = (if s0 = (-1) then Q (some (.int v6)) σ else (vp_in s0 240 ∧ (g_inv C mX2_item [.ref (a0 + 99), .int v1, .int v6] σ fun r σ' => gw C G mX9_told Q 106 [.ref a0, .int v1, .int v2, .int v3, .int v4, .int v5, .int v6, .int s0] (r.toList ++ [.int (σ (a0 + 2) s0.toNatClampNeg)]) σ'))) := by
  refine Eq.trans (e_istore dX9_told_78 (Nat.le_of_ble_eq_true rfl)) ?_
  refine Eq.trans (e_iload dX9_told_80 rfl) ?_
  refine Eq.trans (e_iconst (x := (-1)) dX9_told_82 (by decide)) ?_
  refine Eq.trans (e_ic_eq (t := 109) dX9_told_83 (by decide)) (g_ite ?_ ?_)
  · refine Eq.trans (e_iload dX9_told_109 rfl) ?_
    exact e_ireti dX9_told_111 rfl
  · refine Eq.trans (e_aload_n dX9_told_86 rfl) ?_
    refine Eq.trans (e_getr (b := a0 + 1) dX9_told_87 fl_9_10 (kX9 h0) (sX9_0 h0)) ?_
    refine Eq.trans (e_getr (b := a0 + 2) dX9_told_90 fl_9_136 (kX3 (iX9_0 h0)) (sX3_1 (iX9_0 h0))) ?_
    refine Eq.trans (e_iload dX9_told_93 rfl) ?_
    refine Eq.trans (e_iald dX9_told_95 (aX3_1 (iX9_0 h0)) (nX3_1 (iX9_0 h0))) (g_cj ?_)
    refine Eq.trans (e_aload_n dX9_told_96 rfl) ?_
    refine Eq.trans (e_getr (b := a0 + 99) dX9_told_97 fl_9_49 (kX9 h0) (sX9_7 h0)) ?_
    refine Eq.trans (e_iload_n dX9_told_100 rfl) ?_
    refine Eq.trans (e_iload dX9_told_101 rfl) ?_
    exact e_invv dX9_told_103 cl_9_276 (kX2 (iX9_7 h0)) (by simp) rfl rfl (by simp)
theorem BX9_told_106 {C : gC} {G : gG} {Q : gK} {σ : gM} {a0 : Nat} {v1 : Int32} {v2 : Int32} {v3 : Int32} {v4 : Int32} {v5 : Int32} {v6 : Int32} {v7 : Int32} {s0 : Int32} {s1 : Int32} (h0 : isX9 G a0) : gw C G mX9_told Q 106 [.ref a0, .int v1, .int v2, .int v3, .int v4, .int v5, .int v6, .int v7] [.int s1, .int s0] σ = (if s0 = s1 then gw C G mX9_told Q 60 [.ref a0, .int v1, .int v2, .int v3, .int v4, .int v5, .int (v6 + 1), .int v7] [] σ else Q (some (.int v6)) σ) := by
  refine Eq.trans (e_ic_eq (t := 112) dX9_told_106 (by decide)) (g_ite ?_ ?_)
  · refine Eq.trans (e_iinc (y := 1) dX9_told_112 rfl (by decide)) ?_
    refine Eq.trans (e_goto (t := 60) dX9_told_115 (by decide)) ?_
    rfl
  · refine Eq.trans (e_iload dX9_told_109 rfl) ?_
    exact e_ireti dX9_told_111 rfl
theorem BX9_feed_0 {C : gC} {G : gG} {Q : gK} {σ : gM} {a0 : Nat} {v1 : Int32} (h0 : isX9 G a0) : gw C G mX9_feed Q 0 [.ref a0, .int v1] [] σ = (if v1 < 0 then Q (some (.int (-1))) σ else (if 255 < v1 then Q (some (.int (-1))) σ else (g_inv C mX7_append [.ref (a0 + 95), .int v1] σ fun r σ' => gw C G mX9_feed Q 21 [.ref a0, .int v1] (r.toList ++ []) σ'))) := by
  refine Eq.trans (e_iload_n dX9_feed_0 rfl) ?_
  refine Eq.trans (e_if_lt (t := 11) dX9_feed_1 (by decide)) (g_ite ?_ ?_)
  · refine Eq.trans (e_iconst (x := (-1)) dX9_feed_11 (by decide)) ?_
    exact e_ireti dX9_feed_12 rfl
  · refine Eq.trans (e_iload_n dX9_feed_4 rfl) ?_
    refine Eq.trans (e_sipush (x := 255) dX9_feed_5 (by decide)) ?_
    refine Eq.trans (e_ic_le (t := 13) dX9_feed_8 (by decide)) (g_ite ?_ ?_)
    · refine Eq.trans (e_iconst (x := (-1)) dX9_feed_11 (by decide)) ?_
      exact e_ireti dX9_feed_12 rfl
    · refine Eq.trans (e_aload_n dX9_feed_13 rfl) ?_
      refine Eq.trans (e_getr (b := a0 + 95) dX9_feed_14 fl_9_42 (kX9 h0) (sX9_6 h0)) ?_
      refine Eq.trans (e_iload_n dX9_feed_17 rfl) ?_
      exact e_invv dX9_feed_18 cl_9_282 (kX7 (iX9_6 h0)) (by simp) rfl rfl (by simp)
theorem BX9_feed_21 {C : gC} {G : gG} {Q : gK} {σ : gM} {a0 : Nat} {v1 : Int32} {s0 : Int32} (h0 : isX9 G a0) : gw C G mX9_feed Q 21 [.ref a0, .int v1] [.int s0] σ = (if s0 = 0 then Q (some (.int (-3))) σ else Q (some (.int (σ (a0 + 95) 0))) σ) := by
  refine Eq.trans (e_if_eq (t := 34) dX9_feed_21 (by decide)) (g_ite ?_ ?_)
  · refine Eq.trans (e_bipush (x := (-3)) dX9_feed_34 (by decide)) ?_
    exact e_ireti dX9_feed_36 rfl
  · refine Eq.trans (e_aload_n dX9_feed_24 rfl) ?_
    refine Eq.trans (e_getr (b := a0 + 95) dX9_feed_25 fl_9_42 (kX9 h0) (sX9_6 h0)) ?_
    refine Eq.trans (e_geti dX9_feed_28 fl_9_285 (kX7 (iX9_6 h0))) ?_
    refine Eq.trans (e_goto (t := 36) dX9_feed_31 (by decide)) ?_
    exact e_ireti dX9_feed_36 rfl
theorem BX9_script_0 {C : gC} {G : gG} {Q : gK} {σ : gM} {a0 : Nat} (h0 : isX9 G a0) : gw C G mX9_script Q 0 [.ref a0, .long 0, .long 0] [] σ = (g_inv C mX7_hasForm [.ref (a0 + 95)] σ fun r σ' => gw C G mX9_script Q 7 [.ref a0, .long 0, .long 0] (r.toList ++ []) σ') := by
  refine Eq.trans (e_aload_n dX9_script_0 rfl) ?_
  refine Eq.trans (e_getr (b := a0 + 95) dX9_script_1 fl_9_42 (kX9 h0) (sX9_6 h0)) ?_
  exact e_invv dX9_script_4 cl_9_286 (kX7 (iX9_6 h0)) (by simp) rfl rfl (by simp)
theorem BX9_script_7 {C : gC} {G : gG} {Q : gK} {σ : gM} {a0 : Nat} {wv1 : Value} {wv2 : Value} {s0 : Int32} (h0 : isX9 G a0) : gw C G mX9_script Q 7 [.ref a0, wv1, wv2] [.int s0] σ = gw C G mX9_script Q 16 [.ref a0, .int s0, wv2] [] (g_up σ (a0 + 95) 0 0) := by
  refine Eq.trans (e_istore_n dX9_script_7 (Nat.le_of_ble_eq_true rfl)) ?_
  refine Eq.trans (e_aload_n dX9_script_8 rfl) ?_
  refine Eq.trans (e_getr (b := a0 + 95) dX9_script_9 fl_9_42 (kX9 h0) (sX9_6 h0)) ?_
  refine Eq.trans (e_iconst (x := 0) dX9_script_12 (by decide)) ?_
  refine Eq.trans (e_puti dX9_script_13 fl_9_285 (kX7 (iX9_6 h0))) ?_
  rfl
theorem BX9_script_16 {C : gC} {G : gG} {Q : gK} {σ : gM} {a0 : Nat} {v1 : Int32} {wv2 : Value} (h0 : isX9 G a0) : gw C G mX9_script Q 16 [.ref a0, .int v1, wv2] [] σ = (if v1 = 0 then Q (some (.int ((-1000) - (σ (a0 + 95) 2)))) σ else (g_inv C mX3_copyFrom [.ref (a0 + 45), .ref (a0 + 1)] σ fun r σ' => gw C G mX9_script Q 43 [.ref a0, .int v1, wv2] (r.toList ++ []) σ')) := by
  refine Eq.trans (e_iload_n dX9_script_16 rfl) ?_
  refine Eq.trans (e_if_ne (t := 32) dX9_script_17 (by decide)) (g_ite ?_ ?_)
  · refine Eq.trans (e_sipush (x := (-1000)) dX9_script_20 (by decide)) ?_
    refine Eq.trans (e_aload_n dX9_script_23 rfl) ?_
    refine Eq.trans (e_getr (b := a0 + 95) dX9_script_24 fl_9_42 (kX9 h0) (sX9_6 h0)) ?_
    refine Eq.trans (e_geti dX9_script_27 fl_9_290 (kX7 (iX9_6 h0))) ?_
    refine Eq.trans (e_isub dX9_script_30) ?_
    exact e_ireti dX9_script_31 rfl
  · refine Eq.trans (e_aload_n dX9_script_32 rfl) ?_
    refine Eq.trans (e_getr (b := a0 + 45) dX9_script_33 fl_9_19 (kX9 h0) (sX9_2 h0)) ?_
    refine Eq.trans (e_aload_n dX9_script_36 rfl) ?_
    refine Eq.trans (e_getr (b := a0 + 1) dX9_script_37 fl_9_10 (kX9 h0) (sX9_0 h0)) ?_
    exact e_invv dX9_script_40 cl_9_236 (kX3 (iX9_2 h0)) (by simp) rfl rfl (by simp)
theorem BX9_script_43 {C : gC} {G : gG} {Q : gK} {σ : gM} {a0 : Nat} {v1 : Int32} {wv2 : Value} (h0 : isX9 G a0) : gw C G mX9_script Q 43 [.ref a0, .int v1, wv2] [] σ = gw C G mX9_script Q 45 [.ref a0, .int v1, .int 0] [] σ := by
  refine Eq.trans (e_iconst (x := 0) dX9_script_43 (by decide)) ?_
  refine Eq.trans (e_istore_n dX9_script_44 (Nat.le_of_ble_eq_true rfl)) ?_
  rfl
theorem BX9_script_45 {C : gC} {G : gG} {Q : gK} {σ : gM} {a0 : Nat} {v1 : Int32} {v2 : Int32} (h0 : isX9 G a0) : gw C G mX9_script Q 45 [.ref a0, .int v1, .int v2] [] σ = (if v2 < (σ (a0 + 95) 3) then (g_inv C mX9_doLine [.ref a0, .int v2] σ fun r σ' => gw C G mX9_script Q 61 [.ref a0, .int v1, .int v2] (r.toList ++ []) σ') else Q (some (.int (σ (a0 + 95) 3))) σ) := by
  refine Eq.trans (e_iload_n dX9_script_45 rfl) ?_
  refine Eq.trans (e_aload_n dX9_script_46 rfl) ?_
  refine Eq.trans (e_getr (b := a0 + 95) dX9_script_47 fl_9_42 (kX9 h0) (sX9_6 h0)) ?_
  refine Eq.trans (e_geti dX9_script_50 fl_9_293 (kX7 (iX9_6 h0))) ?_
  refine Eq.trans (e_ic_ge (t := 87) dX9_script_53 (by decide)) (g_ite ?_ ?_)
  · refine Eq.trans (e_aload_n dX9_script_56 rfl) ?_
    refine Eq.trans (e_iload_n dX9_script_57 rfl) ?_
    exact e_invv dX9_script_58 cl_9_296 (kX9 h0) (by simp) rfl rfl (by simp)
  · refine Eq.trans (e_aload_n dX9_script_87 rfl) ?_
    refine Eq.trans (e_getr (b := a0 + 95) dX9_script_88 fl_9_42 (kX9 h0) (sX9_6 h0)) ?_
    refine Eq.trans (e_geti dX9_script_91 fl_9_293 (kX7 (iX9_6 h0))) ?_
    exact e_ireti dX9_script_94 rfl
theorem BX9_script_61 {C : gC} {G : gG} {Q : gK} {σ : gM} {a0 : Nat} {v1 : Int32} {v2 : Int32} {s0 : Int32} (h0 : isX9 G a0) : gw C G mX9_script Q 61 [.ref a0, .int v1, .int v2] [.int s0] σ = (if s0 < 0 then (g_inv C mX3_copyFrom [.ref (a0 + 1), .ref (a0 + 45)] σ fun r σ' => gw C G mX9_script Q 75 [.ref a0, .int v1, .int v2] (r.toList ++ []) σ') else gw C G mX9_script Q 45 [.ref a0, .int v1, .int (v2 + 1)] [] σ) := by
  refine Eq.trans (e_if_ge (t := 81) dX9_script_61 (by decide)) (g_ite ?_ ?_)
  · refine Eq.trans (e_aload_n dX9_script_64 rfl) ?_
    refine Eq.trans (e_getr (b := a0 + 1) dX9_script_65 fl_9_10 (kX9 h0) (sX9_0 h0)) ?_
    refine Eq.trans (e_aload_n dX9_script_68 rfl) ?_
    refine Eq.trans (e_getr (b := a0 + 45) dX9_script_69 fl_9_19 (kX9 h0) (sX9_2 h0)) ?_
    exact e_invv dX9_script_72 cl_9_236 (kX3 (iX9_0 h0)) (by simp) rfl rfl (by simp)
  · refine Eq.trans (e_iinc (y := 1) dX9_script_81 rfl (by decide)) ?_
    refine Eq.trans (e_goto (t := 45) dX9_script_84 (by decide)) ?_
    rfl
theorem BX9_script_75 {C : gC} {G : gG} {Q : gK} {σ : gM} {a0 : Nat} {v1 : Int32} {v2 : Int32} (h0 : isX9 G a0) : gw C G mX9_script Q 75 [.ref a0, .int v1, .int v2] [] σ = Q (some (.int ((-2000) - v2))) σ := by
  refine Eq.trans (e_sipush (x := (-2000)) dX9_script_75 (by decide)) ?_
  refine Eq.trans (e_iload_n dX9_script_78 rfl) ?_
  refine Eq.trans (e_isub dX9_script_79) ?_
  exact e_ireti dX9_script_80 rfl
theorem BX9_doLine_0 {C : gC} {G : gG} {Q : gK} {σ : gM} {a0 : Nat} {v1 : Int32} (h0 : isX9 G a0) : gw C G mX9_doLine Q 0 [.ref a0, .int v1, .long 0, .long 0, .long 0] [] σ = (g_inv C mX7_number [.ref (a0 + 95), .int v1, .int 0] σ fun r σ' => gw C G mX9_doLine Q 9 [.ref a0, .int v1, .long 0, .long 0, .long 0] (r.toList ++ []) σ') := by
  refine Eq.trans (e_aload_n dX9_doLine_0 rfl) ?_
  refine Eq.trans (e_getr (b := a0 + 95) dX9_doLine_1 fl_9_42 (kX9 h0) (sX9_6 h0)) ?_
  refine Eq.trans (e_iload_n dX9_doLine_4 rfl) ?_
  refine Eq.trans (e_iconst (x := 0) dX9_doLine_5 (by decide)) ?_
  exact e_invv dX9_doLine_6 cl_9_351 (kX7 (iX9_6 h0)) (by simp) rfl rfl (by simp)
theorem BX9_doLine_9 {C : gC} {G : gG} {Q : gK} {σ : gM} {a0 : Nat} {v1 : Int32} {wv2 : Value} {wv3 : Value} {wv4 : Value} {s0 : Int32} (h0 : isX9 G a0) : gw C G mX9_doLine Q 9 [.ref a0, .int v1, wv2, wv3, wv4] [.int s0] σ = (g_inv C mX7_number [.ref (a0 + 95), .int v1, .int 1] σ fun r σ' => gw C G mX9_doLine Q 19 [.ref a0, .int v1, .int s0, wv3, wv4] (r.toList ++ []) σ') := by
  refine Eq.trans (e_istore_n dX9_doLine_9 (Nat.le_of_ble_eq_true rfl)) ?_
  refine Eq.trans (e_aload_n dX9_doLine_10 rfl) ?_
  refine Eq.trans (e_getr (b := a0 + 95) dX9_doLine_11 fl_9_42 (kX9 h0) (sX9_6 h0)) ?_
  refine Eq.trans (e_iload_n dX9_doLine_14 rfl) ?_
  refine Eq.trans (e_iconst (x := 1) dX9_doLine_15 (by decide)) ?_
  exact e_invv dX9_doLine_16 cl_9_351 (kX7 (iX9_6 h0)) (by simp) rfl rfl (by simp)
theorem BX9_doLine_19 {C : gC} {G : gG} {Q : gK} {σ : gM} {a0 : Nat} {v1 : Int32} {v2 : Int32} {wv3 : Value} {wv4 : Value} {s0 : Int32} (h0 : isX9 G a0) : gw C G mX9_doLine Q 19 [.ref a0, .int v1, .int v2, wv3, wv4] [.int s0] σ = (g_inv C mX7_number [.ref (a0 + 95), .int v1, .int 2] σ fun r σ' => gw C G mX9_doLine Q 29 [.ref a0, .int v1, .int v2, .int s0, wv4] (r.toList ++ []) σ') := by
  refine Eq.trans (e_istore_n dX9_doLine_19 (Nat.le_of_ble_eq_true rfl)) ?_
  refine Eq.trans (e_aload_n dX9_doLine_20 rfl) ?_
  refine Eq.trans (e_getr (b := a0 + 95) dX9_doLine_21 fl_9_42 (kX9 h0) (sX9_6 h0)) ?_
  refine Eq.trans (e_iload_n dX9_doLine_24 rfl) ?_
  refine Eq.trans (e_iconst (x := 2) dX9_doLine_25 (by decide)) ?_
  exact e_invv dX9_doLine_26 cl_9_351 (kX7 (iX9_6 h0)) (by simp) rfl rfl (by simp)
theorem BX9_doLine_29 {C : gC} {G : gG} {Q : gK} {σ : gM} {a0 : Nat} {v1 : Int32} {v2 : Int32} {v3 : Int32} {wv4 : Value} {s0 : Int32} (h0 : isX9 G a0) : gw C G mX9_doLine Q 29 [.ref a0, .int v1, .int v2, .int v3, wv4] [.int s0] σ = (vp_in v1 60 ∧ (if (σ (a0 + 97) v1.toNatClampNeg) = 98 then (g_inv C mX9_block [.ref a0, .int v2, .int v3, .int s0] σ fun r σ' => gw C G mX9_doLine Q 151 [.ref a0, .int v1, .int v2, .int v3, .int s0] (r.toList ++ []) σ') else (if (σ (a0 + 97) v1.toNatClampNeg) = 99 then (g_inv C mX9_advance [.ref a0] σ fun r σ' => gw C G mX9_doLine Q 244 [.ref a0, .int v1, .int v2, .int v3, .int s0] (r.toList ++ []) σ') else (if (σ (a0 + 97) v1.toNatClampNeg) = 100 then (g_inv C mX9_advance [.ref a0] σ fun r σ' => gw C G mX9_doLine Q 244 [.ref a0, .int v1, .int v2, .int v3, .int s0] (r.toList ++ []) σ') else (if (σ (a0 + 97) v1.toNatClampNeg) = 101 then (g_inv C mX9_advance [.ref a0] σ fun r σ' => gw C G mX9_doLine Q 244 [.ref a0, .int v1, .int v2, .int v3, .int s0] (r.toList ++ []) σ') else (if (σ (a0 + 97) v1.toNatClampNeg) = 102 then (g_inv C mX0_liveHandleOf [.ref (a0 + 9), .int v2] σ fun r σ' => gw C G mX9_doLine Q 164 [.ref a0, .int v1, .int v2, .int v3, .int s0] (r.toList ++ [.ref a0]) σ') else (if (σ (a0 + 97) v1.toNatClampNeg) = 103 then (g_inv C mX9_advance [.ref a0] σ fun r σ' => gw C G mX9_doLine Q 244 [.ref a0, .int v1, .int v2, .int v3, .int s0] (r.toList ++ []) σ') else (if (σ (a0 + 97) v1.toNatClampNeg) = 104 then (g_inv C mX9_advance [.ref a0] σ fun r σ' => gw C G mX9_doLine Q 244 [.ref a0, .int v1, .int v2, .int v3, .int s0] (r.toList ++ []) σ') else (if (σ (a0 + 97) v1.toNatClampNeg) = 105 then (g_inv C mX9_enter [.ref a0, .int v2] σ fun r σ' => gw C G mX9_doLine Q 233 [.ref a0, .int v1, .int v2, .int v3, .int s0] (r.toList ++ []) σ') else (if (σ (a0 + 97) v1.toNatClampNeg) = 106 then (g_inv C mX9_advance [.ref a0] σ fun r σ' => gw C G mX9_doLine Q 244 [.ref a0, .int v1, .int v2, .int v3, .int s0] (r.toList ++ []) σ') else (if (σ (a0 + 97) v1.toNatClampNeg) = 107 then (g_inv C mX9_advance [.ref a0] σ fun r σ' => gw C G mX9_doLine Q 244 [.ref a0, .int v1, .int v2, .int v3, .int s0] (r.toList ++ []) σ') else (if (σ (a0 + 97) v1.toNatClampNeg) = 108 then (g_inv C mX9_advance [.ref a0] σ fun r σ' => gw C G mX9_doLine Q 244 [.ref a0, .int v1, .int v2, .int v3, .int s0] (r.toList ++ []) σ') else (if (σ (a0 + 97) v1.toNatClampNeg) = 109 then (g_inv C mX9_moves [.ref a0, .int v2, .int v3] σ fun r σ' => gw C G mX9_doLine Q 227 [.ref a0, .int v1, .int v2, .int v3, .int s0] (r.toList ++ []) σ') else (if (σ (a0 + 97) v1.toNatClampNeg) = 110 then (g_inv C mX9_advance [.ref a0] σ fun r σ' => gw C G mX9_doLine Q 244 [.ref a0, .int v1, .int v2, .int v3, .int s0] (r.toList ++ []) σ') else (if (σ (a0 + 97) v1.toNatClampNeg) = 111 then (g_inv C mX9_leave [.ref a0, .int v2] σ fun r σ' => gw C G mX9_doLine Q 239 [.ref a0, .int v1, .int v2, .int v3, .int s0] (r.toList ++ []) σ') else (if (σ (a0 + 97) v1.toNatClampNeg) = 112 then (g_inv C mX0_liveHandleOf [.ref (a0 + 9), .int v2] σ fun r σ' => gw C G mX9_doLine Q 180 [.ref a0, .int v1, .int v2, .int v3, .int s0] (r.toList ++ [.ref a0]) σ') else (if (σ (a0 + 97) v1.toNatClampNeg) = 113 then (g_inv C mX9_advance [.ref a0] σ fun r σ' => gw C G mX9_doLine Q 244 [.ref a0, .int v1, .int v2, .int v3, .int s0] (r.toList ++ []) σ') else (if (σ (a0 + 97) v1.toNatClampNeg) = 114 then (g_inv C mX9_region [.ref a0, .int v2, .int v3] σ fun r σ' => gw C G mX9_doLine Q 142 [.ref a0, .int v1, .int v2, .int v3, .int s0] (r.toList ++ []) σ') else (if (σ (a0 + 97) v1.toNatClampNeg) = 115 then (g_inv C mX9_advance [.ref a0] σ fun r σ' => gw C G mX9_doLine Q 244 [.ref a0, .int v1, .int v2, .int v3, .int s0] (r.toList ++ []) σ') else (if (σ (a0 + 97) v1.toNatClampNeg) = 116 then (g_inv C mX0_liveHandleOf [.ref (a0 + 9), .int v2] σ fun r σ' => gw C G mX9_doLine Q 214 [.ref a0, .int v1, .int v2, .int v3, .int s0] (r.toList ++ [.ref a0]) σ') else (if (σ (a0 + 97) v1.toNatClampNeg) = 117 then (g_inv C mX0_liveHandleOf [.ref (a0 + 9), .int v2] σ fun r σ' => gw C G mX9_doLine Q 197 [.ref a0, .int v1, .int v2, .int v3, .int s0] (r.toList ++ [.ref a0]) σ') else (g_inv C mX9_advance [.ref a0] σ fun r σ' => gw C G mX9_doLine Q 244 [.ref a0, .int v1, .int v2, .int v3, .int s0] (r.toList ++ []) σ')))))))))))))))))))))) := by
  refine Eq.trans (e_istore dX9_doLine_29 (Nat.le_of_ble_eq_true rfl)) ?_
  refine Eq.trans (e_aload_n dX9_doLine_31 rfl) ?_
  refine Eq.trans (e_getr (b := a0 + 95) dX9_doLine_32 fl_9_42 (kX9 h0) (sX9_6 h0)) ?_
  refine Eq.trans (e_getr (b := a0 + 97) dX9_doLine_35 fl_9_354 (kX7 (iX9_6 h0)) (sX7_4 (iX9_6 h0))) ?_
  refine Eq.trans (e_iload_n dX9_doLine_38 rfl) ?_
  refine Eq.trans (e_iald dX9_doLine_39 (aX7_4 (iX9_6 h0)) (nX7_4 (iX9_6 h0))) (g_cj ?_)
  refine Eq.trans (e_switch dX9_doLine_40 (by decide)) ?_
  refine Eq.trans (g_sw1 (y := 98) (t := 143) (by decide) (by decide) (g_sw1 (y := 99) (t := 240) (by decide) (by decide) (g_sw1 (y := 100) (t := 240) (by decide) (by decide) (g_sw1 (y := 101) (t := 240) (by decide) (by decide) (g_sw1 (y := 102) (t := 152) (by decide) (by decide) (g_sw1 (y := 103) (t := 240) (by decide) (by decide) (g_sw1 (y := 104) (t := 240) (by decide) (by decide) (g_sw1 (y := 105) (t := 228) (by decide) (by decide) (g_sw1 (y := 106) (t := 240) (by decide) (by decide) (g_sw1 (y := 107) (t := 240) (by decide) (by decide) (g_sw1 (y := 108) (t := 240) (by decide) (by decide) (g_sw1 (y := 109) (t := 221) (by decide) (by decide) (g_sw1 (y := 110) (t := 240) (by decide) (by decide) (g_sw1 (y := 111) (t := 234) (by decide) (by decide) (g_sw1 (y := 112) (t := 168) (by decide) (by decide) (g_sw1 (y := 113) (t := 240) (by decide) (by decide) (g_sw1 (y := 114) (t := 136) (by decide) (by decide) (g_sw1 (y := 115) (t := 240) (by decide) (by decide) (g_sw1 (y := 116) (t := 202) (by decide) (by decide) (g_sw1 (y := 117) (t := 185) (by decide) (by decide) (g_sw0 (t := 240) (by decide)))))))))))))))))))))) ?_
  refine g_ite ?_ (g_ite ?_ (g_ite ?_ (g_ite ?_ (g_ite ?_ (g_ite ?_ (g_ite ?_ (g_ite ?_ (g_ite ?_ (g_ite ?_ (g_ite ?_ (g_ite ?_ (g_ite ?_ (g_ite ?_ (g_ite ?_ (g_ite ?_ (g_ite ?_ (g_ite ?_ (g_ite ?_ (g_ite ?_ (?_))))))))))))))))))))
  · refine Eq.trans (e_aload_n dX9_doLine_143 rfl) ?_
    refine Eq.trans (e_iload_n dX9_doLine_144 rfl) ?_
    refine Eq.trans (e_iload_n dX9_doLine_145 rfl) ?_
    refine Eq.trans (e_iload dX9_doLine_146 rfl) ?_
    exact e_invv dX9_doLine_148 cl_9_359 (kX9 h0) (by simp) rfl rfl (by simp)
  · refine Eq.trans (e_aload_n dX9_doLine_240 rfl) ?_
    exact e_invv dX9_doLine_241 cl_9_381 (kX9 h0) (by simp) rfl rfl (by simp)
  · refine Eq.trans (e_aload_n dX9_doLine_240 rfl) ?_
    exact e_invv dX9_doLine_241 cl_9_381 (kX9 h0) (by simp) rfl rfl (by simp)
  · refine Eq.trans (e_aload_n dX9_doLine_240 rfl) ?_
    exact e_invv dX9_doLine_241 cl_9_381 (kX9 h0) (by simp) rfl rfl (by simp)
  · refine Eq.trans (e_aload_n dX9_doLine_152 rfl) ?_
    refine Eq.trans (e_aload_n dX9_doLine_153 rfl) ?_
    refine Eq.trans (e_getr (b := a0 + 1) dX9_doLine_154 fl_9_10 (kX9 h0) (sX9_0 h0)) ?_
    refine Eq.trans (e_getr (b := a0 + 9) dX9_doLine_157 fl_9_81 (kX3 (iX9_0 h0)) (sX3_4 (iX9_0 h0))) ?_
    refine Eq.trans (e_iload_n dX9_doLine_160 rfl) ?_
    exact e_invv dX9_doLine_161 cl_9_166 (kX0 (iX3_4 (iX9_0 h0))) (by simp) rfl rfl (by simp)
  · refine Eq.trans (e_aload_n dX9_doLine_240 rfl) ?_
    exact e_invv dX9_doLine_241 cl_9_381 (kX9 h0) (by simp) rfl rfl (by simp)
  · refine Eq.trans (e_aload_n dX9_doLine_240 rfl) ?_
    exact e_invv dX9_doLine_241 cl_9_381 (kX9 h0) (by simp) rfl rfl (by simp)
  · refine Eq.trans (e_aload_n dX9_doLine_228 rfl) ?_
    refine Eq.trans (e_iload_n dX9_doLine_229 rfl) ?_
    exact e_invv dX9_doLine_230 cl_9_375 (kX9 h0) (by simp) rfl rfl (by simp)
  · refine Eq.trans (e_aload_n dX9_doLine_240 rfl) ?_
    exact e_invv dX9_doLine_241 cl_9_381 (kX9 h0) (by simp) rfl rfl (by simp)
  · refine Eq.trans (e_aload_n dX9_doLine_240 rfl) ?_
    exact e_invv dX9_doLine_241 cl_9_381 (kX9 h0) (by simp) rfl rfl (by simp)
  · refine Eq.trans (e_aload_n dX9_doLine_240 rfl) ?_
    exact e_invv dX9_doLine_241 cl_9_381 (kX9 h0) (by simp) rfl rfl (by simp)
  · refine Eq.trans (e_aload_n dX9_doLine_221 rfl) ?_
    refine Eq.trans (e_iload_n dX9_doLine_222 rfl) ?_
    refine Eq.trans (e_iload_n dX9_doLine_223 rfl) ?_
    exact e_invv dX9_doLine_224 cl_9_372 (kX9 h0) (by simp) rfl rfl (by simp)
  · refine Eq.trans (e_aload_n dX9_doLine_240 rfl) ?_
    exact e_invv dX9_doLine_241 cl_9_381 (kX9 h0) (by simp) rfl rfl (by simp)
  · refine Eq.trans (e_aload_n dX9_doLine_234 rfl) ?_
    refine Eq.trans (e_iload_n dX9_doLine_235 rfl) ?_
    exact e_invv dX9_doLine_236 cl_9_378 (kX9 h0) (by simp) rfl rfl (by simp)
  · refine Eq.trans (e_aload_n dX9_doLine_168 rfl) ?_
    refine Eq.trans (e_aload_n dX9_doLine_169 rfl) ?_
    refine Eq.trans (e_getr (b := a0 + 1) dX9_doLine_170 fl_9_10 (kX9 h0) (sX9_0 h0)) ?_
    refine Eq.trans (e_getr (b := a0 + 9) dX9_doLine_173 fl_9_81 (kX3 (iX9_0 h0)) (sX3_4 (iX9_0 h0))) ?_
    refine Eq.trans (e_iload_n dX9_doLine_176 rfl) ?_
    exact e_invv dX9_doLine_177 cl_9_166 (kX0 (iX3_4 (iX9_0 h0))) (by simp) rfl rfl (by simp)
  · refine Eq.trans (e_aload_n dX9_doLine_240 rfl) ?_
    exact e_invv dX9_doLine_241 cl_9_381 (kX9 h0) (by simp) rfl rfl (by simp)
  · refine Eq.trans (e_aload_n dX9_doLine_136 rfl) ?_
    refine Eq.trans (e_iload_n dX9_doLine_137 rfl) ?_
    refine Eq.trans (e_iload_n dX9_doLine_138 rfl) ?_
    exact e_invv dX9_doLine_139 cl_9_357 (kX9 h0) (by simp) rfl rfl (by simp)
  · refine Eq.trans (e_aload_n dX9_doLine_240 rfl) ?_
    exact e_invv dX9_doLine_241 cl_9_381 (kX9 h0) (by simp) rfl rfl (by simp)
  · refine Eq.trans (e_aload_n dX9_doLine_202 rfl) ?_
    refine Eq.trans (e_aload_n dX9_doLine_203 rfl) ?_
    refine Eq.trans (e_getr (b := a0 + 1) dX9_doLine_204 fl_9_10 (kX9 h0) (sX9_0 h0)) ?_
    refine Eq.trans (e_getr (b := a0 + 9) dX9_doLine_207 fl_9_81 (kX3 (iX9_0 h0)) (sX3_4 (iX9_0 h0))) ?_
    refine Eq.trans (e_iload_n dX9_doLine_210 rfl) ?_
    exact e_invv dX9_doLine_211 cl_9_166 (kX0 (iX3_4 (iX9_0 h0))) (by simp) rfl rfl (by simp)
  · refine Eq.trans (e_aload_n dX9_doLine_185 rfl) ?_
    refine Eq.trans (e_aload_n dX9_doLine_186 rfl) ?_
    refine Eq.trans (e_getr (b := a0 + 1) dX9_doLine_187 fl_9_10 (kX9 h0) (sX9_0 h0)) ?_
    refine Eq.trans (e_getr (b := a0 + 9) dX9_doLine_190 fl_9_81 (kX3 (iX9_0 h0)) (sX3_4 (iX9_0 h0))) ?_
    refine Eq.trans (e_iload_n dX9_doLine_193 rfl) ?_
    exact e_invv dX9_doLine_194 cl_9_166 (kX0 (iX3_4 (iX9_0 h0))) (by simp) rfl rfl (by simp)
  · refine Eq.trans (e_aload_n dX9_doLine_240 rfl) ?_
    exact e_invv dX9_doLine_241 cl_9_381 (kX9 h0) (by simp) rfl rfl (by simp)
theorem BX9_doLine_142 {C : gC} {G : gG} {Q : gK} {σ : gM} {a0 : Nat} {v1 : Int32} {v2 : Int32} {v3 : Int32} {v4 : Int32} {s0 : Int32} (h0 : isX9 G a0) : gw C G mX9_doLine Q 142 [.ref a0, .int v1, .int v2, .int v3, .int v4] [.int s0] σ = Q (some (.int s0)) σ := by
  exact e_ireti dX9_doLine_142 rfl
theorem BX9_doLine_151 {C : gC} {G : gG} {Q : gK} {σ : gM} {a0 : Nat} {v1 : Int32} {v2 : Int32} {v3 : Int32} {v4 : Int32} {s0 : Int32} (h0 : isX9 G a0) : gw C G mX9_doLine Q 151 [.ref a0, .int v1, .int v2, .int v3, .int v4] [.int s0] σ = Q (some (.int s0)) σ := by
  exact e_ireti dX9_doLine_151 rfl
theorem BX9_doLine_164 {C : gC} {G : gG} {Q : gK} {σ : gM} {a0 : Nat} {v1 : Int32} {v2 : Int32} {v3 : Int32} {v4 : Int32} {s1 : Int32} (h0 : isX9 G a0) : gw C G mX9_doLine Q 164 [.ref a0, .int v1, .int v2, .int v3, .int v4] [.int s1, .ref a0] σ = (g_inv C mX9_free [.ref a0, .int s1] σ fun r σ' => gw C G mX9_doLine Q 167 [.ref a0, .int v1, .int v2, .int v3, .int v4] (r.toList ++ []) σ') := by
  exact e_invv dX9_doLine_164 cl_9_363 (kX9 h0) (by simp) rfl rfl (by simp)
theorem BX9_doLine_167 {C : gC} {G : gG} {Q : gK} {σ : gM} {a0 : Nat} {v1 : Int32} {v2 : Int32} {v3 : Int32} {v4 : Int32} {s0 : Int32} (h0 : isX9 G a0) : gw C G mX9_doLine Q 167 [.ref a0, .int v1, .int v2, .int v3, .int v4] [.int s0] σ = Q (some (.int s0)) σ := by
  exact e_ireti dX9_doLine_167 rfl
theorem BX9_doLine_180 {C : gC} {G : gG} {Q : gK} {σ : gM} {a0 : Nat} {v1 : Int32} {v2 : Int32} {v3 : Int32} {v4 : Int32} {s1 : Int32} (h0 : isX9 G a0) : gw C G mX9_doLine Q 180 [.ref a0, .int v1, .int v2, .int v3, .int v4] [.int s1, .ref a0] σ = (g_inv C mX9_pin [.ref a0, .int s1, .int 1] σ fun r σ' => gw C G mX9_doLine Q 184 [.ref a0, .int v1, .int v2, .int v3, .int v4] (r.toList ++ []) σ') := by
  refine Eq.trans (e_iconst (x := 1) dX9_doLine_180 (by decide)) ?_
  exact e_invv dX9_doLine_181 cl_9_366 (kX9 h0) (by simp) rfl rfl (by simp)
theorem BX9_doLine_184 {C : gC} {G : gG} {Q : gK} {σ : gM} {a0 : Nat} {v1 : Int32} {v2 : Int32} {v3 : Int32} {v4 : Int32} {s0 : Int32} (h0 : isX9 G a0) : gw C G mX9_doLine Q 184 [.ref a0, .int v1, .int v2, .int v3, .int v4] [.int s0] σ = Q (some (.int s0)) σ := by
  exact e_ireti dX9_doLine_184 rfl
theorem BX9_doLine_197 {C : gC} {G : gG} {Q : gK} {σ : gM} {a0 : Nat} {v1 : Int32} {v2 : Int32} {v3 : Int32} {v4 : Int32} {s1 : Int32} (h0 : isX9 G a0) : gw C G mX9_doLine Q 197 [.ref a0, .int v1, .int v2, .int v3, .int v4] [.int s1, .ref a0] σ = (g_inv C mX9_pin [.ref a0, .int s1, .int (-1)] σ fun r σ' => gw C G mX9_doLine Q 201 [.ref a0, .int v1, .int v2, .int v3, .int v4] (r.toList ++ []) σ') := by
  refine Eq.trans (e_iconst (x := (-1)) dX9_doLine_197 (by decide)) ?_
  exact e_invv dX9_doLine_198 cl_9_366 (kX9 h0) (by simp) rfl rfl (by simp)
theorem BX9_doLine_201 {C : gC} {G : gG} {Q : gK} {σ : gM} {a0 : Nat} {v1 : Int32} {v2 : Int32} {v3 : Int32} {v4 : Int32} {s0 : Int32} (h0 : isX9 G a0) : gw C G mX9_doLine Q 201 [.ref a0, .int v1, .int v2, .int v3, .int v4] [.int s0] σ = Q (some (.int s0)) σ := by
  exact e_ireti dX9_doLine_201 rfl
theorem BX9_doLine_214 {C : gC} {G : gG} {Q : gK} {σ : gM} {a0 : Nat} {v1 : Int32} {v2 : Int32} {v3 : Int32} {v4 : Int32} {s1 : Int32} (h0 : isX9 G a0) : gw C G mX9_doLine Q 214 [.ref a0, .int v1, .int v2, .int v3, .int v4] [.int s1, .ref a0] σ = (g_inv C mX9_tagByLine [.ref a0, .int s1, .int v3, .int v4] σ fun r σ' => gw C G mX9_doLine Q 220 [.ref a0, .int v1, .int v2, .int v3, .int v4] (r.toList ++ []) σ') := by
  refine Eq.trans (e_iload_n dX9_doLine_214 rfl) ?_
  refine Eq.trans (e_iload dX9_doLine_215 rfl) ?_
  exact e_invv dX9_doLine_217 cl_9_369 (kX9 h0) (by simp) rfl rfl (by simp)
theorem BX9_doLine_220 {C : gC} {G : gG} {Q : gK} {σ : gM} {a0 : Nat} {v1 : Int32} {v2 : Int32} {v3 : Int32} {v4 : Int32} {s0 : Int32} (h0 : isX9 G a0) : gw C G mX9_doLine Q 220 [.ref a0, .int v1, .int v2, .int v3, .int v4] [.int s0] σ = Q (some (.int s0)) σ := by
  exact e_ireti dX9_doLine_220 rfl
theorem BX9_doLine_227 {C : gC} {G : gG} {Q : gK} {σ : gM} {a0 : Nat} {v1 : Int32} {v2 : Int32} {v3 : Int32} {v4 : Int32} {s0 : Int32} (h0 : isX9 G a0) : gw C G mX9_doLine Q 227 [.ref a0, .int v1, .int v2, .int v3, .int v4] [.int s0] σ = Q (some (.int s0)) σ := by
  exact e_ireti dX9_doLine_227 rfl
theorem BX9_doLine_233 {C : gC} {G : gG} {Q : gK} {σ : gM} {a0 : Nat} {v1 : Int32} {v2 : Int32} {v3 : Int32} {v4 : Int32} {s0 : Int32} (h0 : isX9 G a0) : gw C G mX9_doLine Q 233 [.ref a0, .int v1, .int v2, .int v3, .int v4] [.int s0] σ = Q (some (.int s0)) σ := by
  exact e_ireti dX9_doLine_233 rfl
theorem BX9_doLine_239 {C : gC} {G : gG} {Q : gK} {σ : gM} {a0 : Nat} {v1 : Int32} {v2 : Int32} {v3 : Int32} {v4 : Int32} {s0 : Int32} (h0 : isX9 G a0) : gw C G mX9_doLine Q 239 [.ref a0, .int v1, .int v2, .int v3, .int v4] [.int s0] σ = Q (some (.int s0)) σ := by
  exact e_ireti dX9_doLine_239 rfl
theorem BX9_doLine_244 {C : gC} {G : gG} {Q : gK} {σ : gM} {a0 : Nat} {v1 : Int32} {v2 : Int32} {v3 : Int32} {v4 : Int32} {s0 : Int32} (h0 : isX9 G a0) : gw C G mX9_doLine Q 244 [.ref a0, .int v1, .int v2, .int v3, .int v4] [.int s0] σ = Q (some (.int s0)) σ := by
  exact e_ireti dX9_doLine_244 rfl
theorem BX9_tagByLine_0 {C : gC} {G : gG} {Q : gK} {σ : gM} {a0 : Nat} {v1 : Int32} {v2 : Int32} {v3 : Int32} (h0 : isX9 G a0) : gw C G mX9_tagByLine Q 0 [.ref a0, .int v1, .int v2, .int v3] [] σ = (if v2 < 5 then (if v3 < 100 then (g_inv C mX9_tag [.ref a0, .int v1, .int ((100 * v2) + v3)] σ fun r σ' => gw C G mX9_tagByLine Q 24 [.ref a0, .int v1, .int v2, .int v3] (r.toList ++ []) σ') else Q (some (.int (-1))) σ) else Q (some (.int (-1))) σ) := by
  refine Eq.trans (e_iload_n dX9_tagByLine_0 rfl) ?_
  refine Eq.trans (e_iconst (x := 5) dX9_tagByLine_1 (by decide)) ?_
  refine Eq.trans (e_ic_ge (t := 11) dX9_tagByLine_2 (by decide)) (g_ite ?_ ?_)
  · refine Eq.trans (e_iload_n dX9_tagByLine_5 rfl) ?_
    refine Eq.trans (e_bipush (x := 100) dX9_tagByLine_6 (by decide)) ?_
    refine Eq.trans (e_ic_lt (t := 13) dX9_tagByLine_8 (by decide)) (g_ite ?_ ?_)
    · refine Eq.trans (e_aload_n dX9_tagByLine_13 rfl) ?_
      refine Eq.trans (e_iload_n dX9_tagByLine_14 rfl) ?_
      refine Eq.trans (e_bipush (x := 100) dX9_tagByLine_15 (by decide)) ?_
      refine Eq.trans (e_iload_n dX9_tagByLine_17 rfl) ?_
      refine Eq.trans (e_imul dX9_tagByLine_18) ?_
      refine Eq.trans (e_iload_n dX9_tagByLine_19 rfl) ?_
      refine Eq.trans (e_iadd dX9_tagByLine_20) ?_
      exact e_invv dX9_tagByLine_21 cl_9_384 (kX9 h0) (by simp) rfl rfl (by simp)
    · refine Eq.trans (e_iconst (x := (-1)) dX9_tagByLine_11 (by decide)) ?_
      exact e_ireti dX9_tagByLine_12 rfl
  · refine Eq.trans (e_iconst (x := (-1)) dX9_tagByLine_11 (by decide)) ?_
    exact e_ireti dX9_tagByLine_12 rfl
theorem BX9_tagByLine_24 {C : gC} {G : gG} {Q : gK} {σ : gM} {a0 : Nat} {v1 : Int32} {v2 : Int32} {v3 : Int32} {s0 : Int32} (h0 : isX9 G a0) : gw C G mX9_tagByLine Q 24 [.ref a0, .int v1, .int v2, .int v3] [.int s0] σ = Q (some (.int s0)) σ := by
  exact e_ireti dX9_tagByLine_24 rfl
theorem BX9_image_0 {C : gC} {G : gG} {Q : gK} {σ : gM} {a0 : Nat} (h0 : isX9 G a0) : gw C G mX9_image Q 0 [.ref a0] [] σ = (g_inv C mX3_copyFrom [.ref (a0 + 23), .ref (a0 + 1)] σ fun r σ' => gw C G mX9_image Q 11 [.ref a0] (r.toList ++ []) σ') := by
  refine Eq.trans (e_aload_n dX9_image_0 rfl) ?_
  refine Eq.trans (e_getr (b := a0 + 23) dX9_image_1 fl_9_16 (kX9 h0) (sX9_1 h0)) ?_
  refine Eq.trans (e_aload_n dX9_image_4 rfl) ?_
  refine Eq.trans (e_getr (b := a0 + 1) dX9_image_5 fl_9_10 (kX9 h0) (sX9_0 h0)) ?_
  exact e_invv dX9_image_8 cl_9_236 (kX3 (iX9_1 h0)) (by simp) rfl rfl (by simp)
theorem BX9_image_11 {C : gC} {G : gG} {Q : gK} {σ : gM} {a0 : Nat} (h0 : isX9 G a0) : gw C G mX9_image Q 11 [.ref a0] [] σ = gw C G mX9_image Q 16 [.ref a0] [] (g_up σ a0 8 1) := by
  refine Eq.trans (e_aload_n dX9_image_11 rfl) ?_
  refine Eq.trans (e_iconst (x := 1) dX9_image_12 (by decide)) ?_
  refine Eq.trans (e_putz dX9_image_13 fl_9_53 (kX9 h0)) ?_
  refine Eq.trans (g_and (by decide)) ?_
  rfl
theorem BX9_image_16 {C : gC} {G : gG} {Q : gK} {σ : gM} {a0 : Nat} (h0 : isX9 G a0) : gw C G mX9_image Q 16 [.ref a0] [] σ = (g_inv C mX0_manyOf [.ref (a0 + 9), .int 1] σ fun r σ' => gw C G mX9_image Q 27 [.ref a0] (r.toList ++ []) σ') := by
  refine Eq.trans (e_aload_n dX9_image_16 rfl) ?_
  refine Eq.trans (e_getr (b := a0 + 1) dX9_image_17 fl_9_10 (kX9 h0) (sX9_0 h0)) ?_
  refine Eq.trans (e_getr (b := a0 + 9) dX9_image_20 fl_9_81 (kX3 (iX9_0 h0)) (sX3_4 (iX9_0 h0))) ?_
  refine Eq.trans (e_iconst (x := 1) dX9_image_23 (by decide)) ?_
  exact e_invv dX9_image_24 cl_9_299 (kX0 (iX3_4 (iX9_0 h0))) (by simp) rfl rfl (by simp)
theorem BX9_image_27 {C : gC} {G : gG} {Q : gK} {σ : gM} {a0 : Nat} {s0 : Int32} (h0 : isX9 G a0) : gw C G mX9_image Q 27 [.ref a0] [.int s0] σ = Q (some (.int s0)) σ := by
  exact e_ireti dX9_image_27 rfl
theorem BX9_back_0 {C : gC} {G : gG} {Q : gK} {σ : gM} {a0 : Nat} (h0 : isX9 G a0) : gw C G mX9_back Q 0 [.ref a0] [] σ = (if (σ a0 8) = 0 then Q (some (.int (-5))) σ else (g_inv C mX3_copyFrom [.ref (a0 + 1), .ref (a0 + 23)] σ fun r σ' => gw C G mX9_back Q 21 [.ref a0] (r.toList ++ []) σ')) := by
  refine Eq.trans (e_aload_n dX9_back_0 rfl) ?_
  refine Eq.trans (e_getz dX9_back_1 fl_9_53 (kX9 h0)) ?_
  refine Eq.trans (e_if_ne (t := 10) dX9_back_4 (by decide)) (g_ite ?_ ?_)
  · refine Eq.trans (e_bipush (x := (-5)) dX9_back_7 (by decide)) ?_
    exact e_ireti dX9_back_9 rfl
  · refine Eq.trans (e_aload_n dX9_back_10 rfl) ?_
    refine Eq.trans (e_getr (b := a0 + 1) dX9_back_11 fl_9_10 (kX9 h0) (sX9_0 h0)) ?_
    refine Eq.trans (e_aload_n dX9_back_14 rfl) ?_
    refine Eq.trans (e_getr (b := a0 + 23) dX9_back_15 fl_9_16 (kX9 h0) (sX9_1 h0)) ?_
    exact e_invv dX9_back_18 cl_9_236 (kX3 (iX9_0 h0)) (by simp) rfl rfl (by simp)
theorem BX9_back_21 {C : gC} {G : gG} {Q : gK} {σ : gM} {a0 : Nat} (h0 : isX9 G a0) : gw C G mX9_back Q 21 [.ref a0] [] σ = (g_inv C mX0_manyOf [.ref (a0 + 9), .int 1] σ fun r σ' => gw C G mX9_back Q 32 [.ref a0] (r.toList ++ []) σ') := by
  refine Eq.trans (e_aload_n dX9_back_21 rfl) ?_
  refine Eq.trans (e_getr (b := a0 + 1) dX9_back_22 fl_9_10 (kX9 h0) (sX9_0 h0)) ?_
  refine Eq.trans (e_getr (b := a0 + 9) dX9_back_25 fl_9_81 (kX3 (iX9_0 h0)) (sX3_4 (iX9_0 h0))) ?_
  refine Eq.trans (e_iconst (x := 1) dX9_back_28 (by decide)) ?_
  exact e_invv dX9_back_29 cl_9_299 (kX0 (iX3_4 (iX9_0 h0))) (by simp) rfl rfl (by simp)
theorem BX9_back_32 {C : gC} {G : gG} {Q : gK} {σ : gM} {a0 : Nat} {s0 : Int32} (h0 : isX9 G a0) : gw C G mX9_back Q 32 [.ref a0] [.int s0] σ = Q (some (.int s0)) σ := by
  exact e_ireti dX9_back_32 rfl
theorem BX9_hold_0 {C : gC} {G : gG} {Q : gK} {σ : gM} {a0 : Nat} {v1 : Int32} {v2 : Int32} (h0 : isX9 G a0) : gw C G mX9_hold Q 0 [.ref a0, .int v1, .int v2] [] σ = (g_inv C mX9_isHolder [.int v1] σ fun r σ' => gw C G mX9_hold Q 4 [.ref a0, .int v1, .int v2] (r.toList ++ []) σ') := by
  refine Eq.trans (e_iload_n dX9_hold_0 rfl) ?_
  exact e_invs dX9_hold_1 cl_9_265 (by decide) (by simp) rfl rfl (by simp)
theorem BX9_hold_4 {C : gC} {G : gG} {Q : gK} {σ : gM} {a0 : Nat} {v1 : Int32} {v2 : Int32} {s0 : Int32} (h0 : isX9 G a0) : gw C G mX9_hold Q 4 [.ref a0, .int v1, .int v2] [.int s0] σ = (if s0 = 0 then Q (some (.int (-1))) σ else (if v2 = (-1) then (vp_in v1 6 ∧ Q (some (.int 1)) (g_up σ (a0 + 100) v1.toNatClampNeg 0)) else (g_inv C mX0_liveSlotOf [.ref (a0 + 9), .int v2] σ fun r σ' => gw C G mX9_hold Q 37 [.ref a0, .int v1, .int v2] (r.toList ++ []) σ'))) := by
  refine Eq.trans (e_if_ne (t := 9) dX9_hold_4 (by decide)) (g_ite ?_ ?_)
  · refine Eq.trans (e_iconst (x := (-1)) dX9_hold_7 (by decide)) ?_
    exact e_ireti dX9_hold_8 rfl
  · refine Eq.trans (e_iload_n dX9_hold_9 rfl) ?_
    refine Eq.trans (e_iconst (x := (-1)) dX9_hold_10 (by decide)) ?_
    refine Eq.trans (e_ic_ne (t := 26) dX9_hold_11 (by decide)) (g_ite ?_ ?_)
    · refine Eq.trans (e_aload_n dX9_hold_14 rfl) ?_
      refine Eq.trans (e_getr (b := a0 + 99) dX9_hold_15 fl_9_49 (kX9 h0) (sX9_7 h0)) ?_
      refine Eq.trans (e_getr (b := a0 + 100) dX9_hold_18 fl_9_302 (kX2 (iX9_7 h0)) (sX2_0 (iX9_7 h0))) ?_
      refine Eq.trans (e_iload_n dX9_hold_21 rfl) ?_
      refine Eq.trans (e_iconst (x := 0) dX9_hold_22 (by decide)) ?_
      refine Eq.trans (e_iast dX9_hold_23 (aX2_0 (iX9_7 h0)) (nX2_0 (iX9_7 h0))) (g_cj ?_)
      refine Eq.trans (e_iconst (x := 1) dX9_hold_24 (by decide)) ?_
      exact e_ireti dX9_hold_25 rfl
    · refine Eq.trans (e_aload_n dX9_hold_26 rfl) ?_
      refine Eq.trans (e_getr (b := a0 + 1) dX9_hold_27 fl_9_10 (kX9 h0) (sX9_0 h0)) ?_
      refine Eq.trans (e_getr (b := a0 + 9) dX9_hold_30 fl_9_81 (kX3 (iX9_0 h0)) (sX3_4 (iX9_0 h0))) ?_
      refine Eq.trans (e_iload_n dX9_hold_33 rfl) ?_
      exact e_invv dX9_hold_34 cl_9_102 (kX0 (iX3_4 (iX9_0 h0))) (by simp) rfl rfl (by simp)
theorem BX9_hold_37 {C : gC} {G : gG} {Q : gK} {σ : gM} {a0 : Nat} {v1 : Int32} {v2 : Int32} {s0 : Int32} (h0 : isX9 G a0) : gw C G mX9_hold Q 37 [.ref a0, .int v1, .int v2] [.int s0] σ = (if s0 = (-1) then Q (some (.int (-4))) σ else (vp_in v1 6 ∧ gw C G mX9_hold Q 54 [.ref a0, .int v1, .int v2] [] (g_up σ (a0 + 100) v1.toNatClampNeg 1))) := by
  refine Eq.trans (e_iconst (x := (-1)) dX9_hold_37 (by decide)) ?_
  refine Eq.trans (e_ic_ne (t := 44) dX9_hold_38 (by decide)) (g_ite ?_ ?_)
  · refine Eq.trans (e_bipush (x := (-4)) dX9_hold_41 (by decide)) ?_
    exact e_ireti dX9_hold_43 rfl
  · refine Eq.trans (e_aload_n dX9_hold_44 rfl) ?_
    refine Eq.trans (e_getr (b := a0 + 99) dX9_hold_45 fl_9_49 (kX9 h0) (sX9_7 h0)) ?_
    refine Eq.trans (e_getr (b := a0 + 100) dX9_hold_48 fl_9_302 (kX2 (iX9_7 h0)) (sX2_0 (iX9_7 h0))) ?_
    refine Eq.trans (e_iload_n dX9_hold_51 rfl) ?_
    refine Eq.trans (e_iconst (x := 1) dX9_hold_52 (by decide)) ?_
    refine Eq.trans (e_iast dX9_hold_53 (aX2_0 (iX9_7 h0)) (nX2_0 (iX9_7 h0))) (g_cj ?_)
    rfl
theorem BX9_hold_54 {C : gC} {G : gG} {Q : gK} {σ : gM} {a0 : Nat} {v1 : Int32} {v2 : Int32} (h0 : isX9 G a0) : gw C G mX9_hold Q 54 [.ref a0, .int v1, .int v2] [] σ = (vp_in v1 6 ∧ Q (some (.int 1)) (g_up σ (a0 + 101) v1.toNatClampNeg v2)) := by
  refine Eq.trans (e_aload_n dX9_hold_54 rfl) ?_
  refine Eq.trans (e_getr (b := a0 + 99) dX9_hold_55 fl_9_49 (kX9 h0) (sX9_7 h0)) ?_
  refine Eq.trans (e_getr (b := a0 + 101) dX9_hold_58 fl_9_305 (kX2 (iX9_7 h0)) (sX2_1 (iX9_7 h0))) ?_
  refine Eq.trans (e_iload_n dX9_hold_61 rfl) ?_
  refine Eq.trans (e_iload_n dX9_hold_62 rfl) ?_
  refine Eq.trans (e_iast dX9_hold_63 (aX2_1 (iX9_7 h0)) (nX2_1 (iX9_7 h0))) (g_cj ?_)
  refine Eq.trans (e_iconst (x := 1) dX9_hold_64 (by decide)) ?_
  exact e_ireti dX9_hold_65 rfl
theorem BX9_row_0 {C : gC} {G : gG} {Q : gK} {σ : gM} {a0 : Nat} {v1 : Int32} {v2 : Int32} (h0 : isX9 G a0) : gw C G mX9_row Q 0 [.ref a0, .int v1, .int v2] [] σ = (g_inv C mX9_isHolder [.int v1] σ fun r σ' => gw C G mX9_row Q 4 [.ref a0, .int v1, .int v2] (r.toList ++ []) σ') := by
  refine Eq.trans (e_iload_n dX9_row_0 rfl) ?_
  exact e_invs dX9_row_1 cl_9_265 (by decide) (by simp) rfl rfl (by simp)
theorem BX9_row_4 {C : gC} {G : gG} {Q : gK} {σ : gM} {a0 : Nat} {v1 : Int32} {v2 : Int32} {s0 : Int32} (h0 : isX9 G a0) : gw C G mX9_row Q 4 [.ref a0, .int v1, .int v2] [.int s0] σ = (if s0 = 0 then Q (some (.int (-1))) σ else (if 60 < v2 then Q (some (.int (-1))) σ else (if v2 < 0 then Q (some (.int (-14))) σ else (g_inv C mX2_takeRow [.ref (a0 + 99), .int v1, .int v2] σ fun r σ' => gw C G mX9_row Q 31 [.ref a0, .int v1, .int v2] (r.toList ++ []) σ')))) := by
  refine Eq.trans (e_if_eq (t := 13) dX9_row_4 (by decide)) (g_ite ?_ ?_)
  · refine Eq.trans (e_iconst (x := (-1)) dX9_row_13 (by decide)) ?_
    exact e_ireti dX9_row_14 rfl
  · refine Eq.trans (e_iload_n dX9_row_7 rfl) ?_
    refine Eq.trans (e_bipush (x := 60) dX9_row_8 (by decide)) ?_
    refine Eq.trans (e_ic_le (t := 15) dX9_row_10 (by decide)) (g_ite ?_ ?_)
    · refine Eq.trans (e_iconst (x := (-1)) dX9_row_13 (by decide)) ?_
      exact e_ireti dX9_row_14 rfl
    · refine Eq.trans (e_iload_n dX9_row_15 rfl) ?_
      refine Eq.trans (e_if_ge (t := 22) dX9_row_16 (by decide)) (g_ite ?_ ?_)
      · refine Eq.trans (e_bipush (x := (-14)) dX9_row_19 (by decide)) ?_
        exact e_ireti dX9_row_21 rfl
      · refine Eq.trans (e_aload_n dX9_row_22 rfl) ?_
        refine Eq.trans (e_getr (b := a0 + 99) dX9_row_23 fl_9_49 (kX9 h0) (sX9_7 h0)) ?_
        refine Eq.trans (e_iload_n dX9_row_26 rfl) ?_
        refine Eq.trans (e_iload_n dX9_row_27 rfl) ?_
        exact e_invv dX9_row_28 cl_9_308 (kX2 (iX9_7 h0)) (by simp) rfl rfl (by simp)
theorem BX9_row_31 {C : gC} {G : gG} {Q : gK} {σ : gM} {a0 : Nat} {v1 : Int32} {v2 : Int32} (h0 : isX9 G a0) : gw C G mX9_row Q 31 [.ref a0, .int v1, .int v2] [] σ = Q (some (.int 1)) σ := by
  refine Eq.trans (e_iconst (x := 1) dX9_row_31 (by decide)) ?_
  exact e_ireti dX9_row_32 rfl
theorem BX9_put_0 {C : gC} {G : gG} {Q : gK} {σ : gM} {a0 : Nat} {v1 : Int32} {v2 : Int32} {v3 : Int32} (h0 : isX9 G a0) : gw C G mX9_put Q 0 [.ref a0, .int v1, .int v2, .int v3, .long 0] [] σ = (g_inv C mX9_isHolder [.int v1] σ fun r σ' => gw C G mX9_put Q 4 [.ref a0, .int v1, .int v2, .int v3, .long 0] (r.toList ++ []) σ') := by
  refine Eq.trans (e_iload_n dX9_put_0 rfl) ?_
  exact e_invs dX9_put_1 cl_9_265 (by decide) (by simp) rfl rfl (by simp)
theorem BX9_put_4 {C : gC} {G : gG} {Q : gK} {σ : gM} {a0 : Nat} {v1 : Int32} {v2 : Int32} {v3 : Int32} {wv4 : Value} {s0 : Int32} (h0 : isX9 G a0) : gw C G mX9_put Q 4 [.ref a0, .int v1, .int v2, .int v3, wv4] [.int s0] σ = (if s0 = 0 then Q (some (.int (-2000000000))) σ else (g_inv C mX2_hasItem [.ref (a0 + 99), .int v1, .int v2] σ fun r σ' => gw C G mX9_put Q 16 [.ref a0, .int v1, .int v2, .int v3, wv4] (r.toList ++ []) σ')) := by
  refine Eq.trans (e_if_eq (t := 19) dX9_put_4 (by decide)) (g_ite ?_ ?_)
  · refine Eq.trans (e_ldc dX9_put_19 cn_9_135) ?_
    exact e_ireti dX9_put_21 rfl
  · refine Eq.trans (e_aload_n dX9_put_7 rfl) ?_
    refine Eq.trans (e_getr (b := a0 + 99) dX9_put_8 fl_9_49 (kX9 h0) (sX9_7 h0)) ?_
    refine Eq.trans (e_iload_n dX9_put_11 rfl) ?_
    refine Eq.trans (e_iload_n dX9_put_12 rfl) ?_
    exact e_invv dX9_put_13 cl_9_311 (kX2 (iX9_7 h0)) (by simp) rfl rfl (by simp)
theorem BX9_put_16 {C : gC} {G : gG} {Q : gK} {σ : gM} {a0 : Nat} {v1 : Int32} {v2 : Int32} {v3 : Int32} {wv4 : Value} {s0 : Int32} (h0 : isX9 G a0) : gw C G mX9_put Q 16 [.ref a0, .int v1, .int v2, .int v3, wv4] [.int s0] σ = (if s0 = 0 then Q (some (.int (-2000000000))) σ else (g_inv C mX2_item [.ref (a0 + 99), .int v1, .int v2] σ fun r σ' => gw C G mX9_put Q 31 [.ref a0, .int v1, .int v2, .int v3, wv4] (r.toList ++ []) σ')) := by
  refine Eq.trans (e_if_ne (t := 22) dX9_put_16 (by decide)) (g_ite ?_ ?_)
  · refine Eq.trans (e_ldc dX9_put_19 cn_9_135) ?_
    exact e_ireti dX9_put_21 rfl
  · refine Eq.trans (e_aload_n dX9_put_22 rfl) ?_
    refine Eq.trans (e_getr (b := a0 + 99) dX9_put_23 fl_9_49 (kX9 h0) (sX9_7 h0)) ?_
    refine Eq.trans (e_iload_n dX9_put_26 rfl) ?_
    refine Eq.trans (e_iload_n dX9_put_27 rfl) ?_
    exact e_invv dX9_put_28 cl_9_276 (kX2 (iX9_7 h0)) (by simp) rfl rfl (by simp)
theorem BX9_put_31 {C : gC} {G : gG} {Q : gK} {σ : gM} {a0 : Nat} {v1 : Int32} {v2 : Int32} {v3 : Int32} {wv4 : Value} {s0 : Int32} (h0 : isX9 G a0) : gw C G mX9_put Q 31 [.ref a0, .int v1, .int v2, .int v3, wv4] [.int s0] σ = (g_inv C mX2_setItem [.ref (a0 + 99), .int v1, .int v2, .int v3] σ fun r σ' => gw C G mX9_put Q 43 [.ref a0, .int v1, .int v2, .int v3, .int s0] (r.toList ++ []) σ') := by
  refine Eq.trans (e_istore dX9_put_31 (Nat.le_of_ble_eq_true rfl)) ?_
  refine Eq.trans (e_aload_n dX9_put_33 rfl) ?_
  refine Eq.trans (e_getr (b := a0 + 99) dX9_put_34 fl_9_49 (kX9 h0) (sX9_7 h0)) ?_
  refine Eq.trans (e_iload_n dX9_put_37 rfl) ?_
  refine Eq.trans (e_iload_n dX9_put_38 rfl) ?_
  refine Eq.trans (e_iload_n dX9_put_39 rfl) ?_
  exact e_invv dX9_put_40 cl_9_314 (kX2 (iX9_7 h0)) (by simp) rfl rfl (by simp)
theorem BX9_put_43 {C : gC} {G : gG} {Q : gK} {σ : gM} {a0 : Nat} {v1 : Int32} {v2 : Int32} {v3 : Int32} {v4 : Int32} (h0 : isX9 G a0) : gw C G mX9_put Q 43 [.ref a0, .int v1, .int v2, .int v3, .int v4] [] σ = Q (some (.int v4)) σ := by
  refine Eq.trans (e_iload dX9_put_43 rfl) ?_
  exact e_ireti dX9_put_45 rfl
theorem BX9_tells_0 {C : gC} {G : gG} {Q : gK} {σ : gM} {a0 : Nat} {v1 : Int32} {v2 : Int32} (h0 : isX9 G a0) : gw C G mX9_tells Q 0 [.ref a0, .int v1, .int v2] [] σ = (g_inv C mX9_isHolder [.int v1] σ fun r σ' => gw C G mX9_tells Q 4 [.ref a0, .int v1, .int v2] (r.toList ++ []) σ') := by
  refine Eq.trans (e_iload_n dX9_tells_0 rfl) ?_
  exact e_invs dX9_tells_1 cl_9_265 (by decide) (by simp) rfl rfl (by simp)
theorem BX9_tells_4 {C : gC} {G : gG} {Q : gK} {σ : gM} {a0 : Nat} {v1 : Int32} {v2 : Int32} {s0 : Int32} (h0 : isX9 G a0) : gw C G mX9_tells Q 4 [.ref a0, .int v1, .int v2] [.int s0] σ = (if s0 = 0 then Q (some (.int (-1))) σ else (if v2 < 0 then Q (some (.int (-1))) σ else (if 3 < v2 then Q (some (.int (-1))) σ else (vp_in v1 6 ∧ (if (σ (a0 + 100) v1.toNatClampNeg) = 0 then Q (some (.int (-11))) σ else (vp_in v1 6 ∧ (if (σ (a0 + 100) v1.toNatClampNeg) = 2 then Q (some (.int (-12))) σ else (vp_in v1 6 ∧ (g_inv C mX9_takenFor [.ref a0, .int (σ (a0 + 101) v1.toNatClampNeg), .int v2] σ fun r σ' => gw C G mX9_tells Q 63 [.ref a0, .int v1, .int v2] (r.toList ++ []) σ'))))))))) := by
  refine Eq.trans (e_if_eq (t := 16) dX9_tells_4 (by decide)) (g_ite ?_ ?_)
  · refine Eq.trans (e_iconst (x := (-1)) dX9_tells_16 (by decide)) ?_
    exact e_ireti dX9_tells_17 rfl
  · refine Eq.trans (e_iload_n dX9_tells_7 rfl) ?_
    refine Eq.trans (e_if_lt (t := 16) dX9_tells_8 (by decide)) (g_ite ?_ ?_)
    · refine Eq.trans (e_iconst (x := (-1)) dX9_tells_16 (by decide)) ?_
      exact e_ireti dX9_tells_17 rfl
    · refine Eq.trans (e_iload_n dX9_tells_11 rfl) ?_
      refine Eq.trans (e_iconst (x := 3) dX9_tells_12 (by decide)) ?_
      refine Eq.trans (e_ic_le (t := 18) dX9_tells_13 (by decide)) (g_ite ?_ ?_)
      · refine Eq.trans (e_iconst (x := (-1)) dX9_tells_16 (by decide)) ?_
        exact e_ireti dX9_tells_17 rfl
      · refine Eq.trans (e_aload_n dX9_tells_18 rfl) ?_
        refine Eq.trans (e_getr (b := a0 + 99) dX9_tells_19 fl_9_49 (kX9 h0) (sX9_7 h0)) ?_
        refine Eq.trans (e_getr (b := a0 + 100) dX9_tells_22 fl_9_302 (kX2 (iX9_7 h0)) (sX2_0 (iX9_7 h0))) ?_
        refine Eq.trans (e_iload_n dX9_tells_25 rfl) ?_
        refine Eq.trans (e_iald dX9_tells_26 (aX2_0 (iX9_7 h0)) (nX2_0 (iX9_7 h0))) (g_cj ?_)
        refine Eq.trans (e_if_ne (t := 33) dX9_tells_27 (by decide)) (g_ite ?_ ?_)
        · refine Eq.trans (e_bipush (x := (-11)) dX9_tells_30 (by decide)) ?_
          exact e_ireti dX9_tells_32 rfl
        · refine Eq.trans (e_aload_n dX9_tells_33 rfl) ?_
          refine Eq.trans (e_getr (b := a0 + 99) dX9_tells_34 fl_9_49 (kX9 h0) (sX9_7 h0)) ?_
          refine Eq.trans (e_getr (b := a0 + 100) dX9_tells_37 fl_9_302 (kX2 (iX9_7 h0)) (sX2_0 (iX9_7 h0))) ?_
          refine Eq.trans (e_iload_n dX9_tells_40 rfl) ?_
          refine Eq.trans (e_iald dX9_tells_41 (aX2_0 (iX9_7 h0)) (nX2_0 (iX9_7 h0))) (g_cj ?_)
          refine Eq.trans (e_iconst (x := 2) dX9_tells_42 (by decide)) ?_
          refine Eq.trans (e_ic_ne (t := 49) dX9_tells_43 (by decide)) (g_ite ?_ ?_)
          · refine Eq.trans (e_bipush (x := (-12)) dX9_tells_46 (by decide)) ?_
            exact e_ireti dX9_tells_48 rfl
          · refine Eq.trans (e_aload_n dX9_tells_49 rfl) ?_
            refine Eq.trans (e_aload_n dX9_tells_50 rfl) ?_
            refine Eq.trans (e_getr (b := a0 + 99) dX9_tells_51 fl_9_49 (kX9 h0) (sX9_7 h0)) ?_
            refine Eq.trans (e_getr (b := a0 + 101) dX9_tells_54 fl_9_305 (kX2 (iX9_7 h0)) (sX2_1 (iX9_7 h0))) ?_
            refine Eq.trans (e_iload_n dX9_tells_57 rfl) ?_
            refine Eq.trans (e_iald dX9_tells_58 (aX2_1 (iX9_7 h0)) (nX2_1 (iX9_7 h0))) (g_cj ?_)
            refine Eq.trans (e_iload_n dX9_tells_59 rfl) ?_
            exact e_invv dX9_tells_60 cl_9_318 (kX9 h0) (by simp) rfl rfl (by simp)
theorem BX9_tells_63 {C : gC} {G : gG} {Q : gK} {σ : gM} {a0 : Nat} {v1 : Int32} {v2 : Int32} {s0 : Int32} (h0 : isX9 G a0) : gw C G mX9_tells Q 63 [.ref a0, .int v1, .int v2] [.int s0] σ = Q (some (.int s0)) σ := by
  exact e_ireti dX9_tells_63 rfl
theorem BX9_takenFor_0 {C : gC} {G : gG} {Q : gK} {σ : gM} {a0 : Nat} {v1 : Int32} {v2 : Int32} (h0 : isX9 G a0) : gw C G mX9_takenFor Q 0 [.ref a0, .int v1, .int v2, .long 0] [] σ = (if v2 = 0 then Q (some (.int (v1 / 100))) σ else (g_inv C mX0_liveSlotOf [.ref (a0 + 9), .int v1] σ fun r σ' => gw C G mX9_takenFor Q 20 [.ref a0, .int v1, .int v2, .long 0] (r.toList ++ []) σ')) := by
  refine Eq.trans (e_iload_n dX9_takenFor_0 rfl) ?_
  refine Eq.trans (e_if_ne (t := 9) dX9_takenFor_1 (by decide)) (g_ite ?_ ?_)
  · refine Eq.trans (e_iload_n dX9_takenFor_4 rfl) ?_
    refine Eq.trans (e_bipush (x := 100) dX9_takenFor_5 (by decide)) ?_
    refine Eq.trans (e_idiv dX9_takenFor_7 (by decide)) ?_
    exact e_ireti dX9_takenFor_8 rfl
  · refine Eq.trans (e_aload_n dX9_takenFor_9 rfl) ?_
    refine Eq.trans (e_getr (b := a0 + 1) dX9_takenFor_10 fl_9_10 (kX9 h0) (sX9_0 h0)) ?_
    refine Eq.trans (e_getr (b := a0 + 9) dX9_takenFor_13 fl_9_81 (kX3 (iX9_0 h0)) (sX3_4 (iX9_0 h0))) ?_
    refine Eq.trans (e_iload_n dX9_takenFor_16 rfl) ?_
    exact e_invv dX9_takenFor_17 cl_9_102 (kX0 (iX3_4 (iX9_0 h0))) (by simp) rfl rfl (by simp)
theorem BX9_takenFor_20 {C : gC} {G : gG} {Q : gK} {σ : gM} {a0 : Nat} {v1 : Int32} {v2 : Int32} {wv3 : Value} {s0 : Int32} (h0 : isX9 G a0) : gw C G mX9_takenFor Q 20 [.ref a0, .int v1, .int v2, wv3] [.int s0] σ = (if s0 = (-1) then Q (some (.int (-12))) σ else (if v2 = 1 then (vp_in s0 30 ∧ Q (some (.int (σ (a0 + 13) s0.toNatClampNeg))) σ) else (if v2 = 2 then (vp_in s0 30 ∧ (if 0 < (σ (a0 + 16) s0.toNatClampNeg) then (vp_in s0 30 ∧ Q (some (.int (σ (a0 + 16) s0.toNatClampNeg))) σ) else Q (some (.int (-12))) σ)) else (vp_in s0 30 ∧ (if (σ (a0 + 17) s0.toNatClampNeg) = (-1) then Q (some (.int (-12))) σ else (vp_in s0 30 ∧ Q (some (.int (σ (a0 + 17) s0.toNatClampNeg))) σ)))))) := by
  refine Eq.trans (e_istore_n dX9_takenFor_20 (Nat.le_of_ble_eq_true rfl)) ?_
  refine Eq.trans (e_iload_n dX9_takenFor_21 rfl) ?_
  refine Eq.trans (e_iconst (x := (-1)) dX9_takenFor_22 (by decide)) ?_
  refine Eq.trans (e_ic_ne (t := 29) dX9_takenFor_23 (by decide)) (g_ite ?_ ?_)
  · refine Eq.trans (e_bipush (x := (-12)) dX9_takenFor_26 (by decide)) ?_
    exact e_ireti dX9_takenFor_28 rfl
  · refine Eq.trans (e_iload_n dX9_takenFor_29 rfl) ?_
    refine Eq.trans (e_iconst (x := 1) dX9_takenFor_30 (by decide)) ?_
    refine Eq.trans (e_ic_ne (t := 47) dX9_takenFor_31 (by decide)) (g_ite ?_ ?_)
    · refine Eq.trans (e_aload_n dX9_takenFor_34 rfl) ?_
      refine Eq.trans (e_getr (b := a0 + 1) dX9_takenFor_35 fl_9_10 (kX9 h0) (sX9_0 h0)) ?_
      refine Eq.trans (e_getr (b := a0 + 9) dX9_takenFor_38 fl_9_81 (kX3 (iX9_0 h0)) (sX3_4 (iX9_0 h0))) ?_
      refine Eq.trans (e_getr (b := a0 + 13) dX9_takenFor_41 fl_9_120 (kX0 (iX3_4 (iX9_0 h0))) (sX0_3 (iX3_4 (iX9_0 h0)))) ?_
      refine Eq.trans (e_iload_n dX9_takenFor_44 rfl) ?_
      refine Eq.trans (e_iald dX9_takenFor_45 (aX0_3 (iX3_4 (iX9_0 h0))) (nX0_3 (iX3_4 (iX9_0 h0)))) (g_cj ?_)
      exact e_ireti dX9_takenFor_46 rfl
    · refine Eq.trans (e_iload_n dX9_takenFor_47 rfl) ?_
      refine Eq.trans (e_iconst (x := 2) dX9_takenFor_48 (by decide)) ?_
      refine Eq.trans (e_ic_ne (t := 85) dX9_takenFor_49 (by decide)) (g_ite ?_ ?_)
      · refine Eq.trans (e_aload_n dX9_takenFor_52 rfl) ?_
        refine Eq.trans (e_getr (b := a0 + 1) dX9_takenFor_53 fl_9_10 (kX9 h0) (sX9_0 h0)) ?_
        refine Eq.trans (e_getr (b := a0 + 9) dX9_takenFor_56 fl_9_81 (kX3 (iX9_0 h0)) (sX3_4 (iX9_0 h0))) ?_
        refine Eq.trans (e_getr (b := a0 + 16) dX9_takenFor_59 fl_9_105 (kX0 (iX3_4 (iX9_0 h0))) (sX0_6 (iX3_4 (iX9_0 h0)))) ?_
        refine Eq.trans (e_iload_n dX9_takenFor_62 rfl) ?_
        refine Eq.trans (e_iald dX9_takenFor_63 (aX0_6 (iX3_4 (iX9_0 h0))) (nX0_6 (iX3_4 (iX9_0 h0)))) (g_cj ?_)
        refine Eq.trans (e_if_le (t := 82) dX9_takenFor_64 (by decide)) (g_ite ?_ ?_)
        · refine Eq.trans (e_aload_n dX9_takenFor_67 rfl) ?_
          refine Eq.trans (e_getr (b := a0 + 1) dX9_takenFor_68 fl_9_10 (kX9 h0) (sX9_0 h0)) ?_
          refine Eq.trans (e_getr (b := a0 + 9) dX9_takenFor_71 fl_9_81 (kX3 (iX9_0 h0)) (sX3_4 (iX9_0 h0))) ?_
          refine Eq.trans (e_getr (b := a0 + 16) dX9_takenFor_74 fl_9_105 (kX0 (iX3_4 (iX9_0 h0))) (sX0_6 (iX3_4 (iX9_0 h0)))) ?_
          refine Eq.trans (e_iload_n dX9_takenFor_77 rfl) ?_
          refine Eq.trans (e_iald dX9_takenFor_78 (aX0_6 (iX3_4 (iX9_0 h0))) (nX0_6 (iX3_4 (iX9_0 h0)))) (g_cj ?_)
          refine Eq.trans (e_goto (t := 84) dX9_takenFor_79 (by decide)) ?_
          exact e_ireti dX9_takenFor_84 rfl
        · refine Eq.trans (e_bipush (x := (-12)) dX9_takenFor_82 (by decide)) ?_
          exact e_ireti dX9_takenFor_84 rfl
      · refine Eq.trans (e_aload_n dX9_takenFor_85 rfl) ?_
        refine Eq.trans (e_getr (b := a0 + 1) dX9_takenFor_86 fl_9_10 (kX9 h0) (sX9_0 h0)) ?_
        refine Eq.trans (e_getr (b := a0 + 9) dX9_takenFor_89 fl_9_81 (kX3 (iX9_0 h0)) (sX3_4 (iX9_0 h0))) ?_
        refine Eq.trans (e_getr (b := a0 + 17) dX9_takenFor_92 fl_9_157 (kX0 (iX3_4 (iX9_0 h0))) (sX0_7 (iX3_4 (iX9_0 h0)))) ?_
        refine Eq.trans (e_iload_n dX9_takenFor_95 rfl) ?_
        refine Eq.trans (e_iald dX9_takenFor_96 (aX0_7 (iX3_4 (iX9_0 h0))) (nX0_7 (iX3_4 (iX9_0 h0)))) (g_cj ?_)
        refine Eq.trans (e_iconst (x := (-1)) dX9_takenFor_97 (by decide)) ?_
        refine Eq.trans (e_ic_ne (t := 106) dX9_takenFor_98 (by decide)) (g_ite ?_ ?_)
        · refine Eq.trans (e_bipush (x := (-12)) dX9_takenFor_101 (by decide)) ?_
          refine Eq.trans (e_goto (t := 118) dX9_takenFor_103 (by decide)) ?_
          exact e_ireti dX9_takenFor_118 rfl
        · refine Eq.trans (e_aload_n dX9_takenFor_106 rfl) ?_
          refine Eq.trans (e_getr (b := a0 + 1) dX9_takenFor_107 fl_9_10 (kX9 h0) (sX9_0 h0)) ?_
          refine Eq.trans (e_getr (b := a0 + 9) dX9_takenFor_110 fl_9_81 (kX3 (iX9_0 h0)) (sX3_4 (iX9_0 h0))) ?_
          refine Eq.trans (e_getr (b := a0 + 17) dX9_takenFor_113 fl_9_157 (kX0 (iX3_4 (iX9_0 h0))) (sX0_7 (iX3_4 (iX9_0 h0)))) ?_
          refine Eq.trans (e_iload_n dX9_takenFor_116 rfl) ?_
          refine Eq.trans (e_iald dX9_takenFor_117 (aX0_7 (iX3_4 (iX9_0 h0))) (nX0_7 (iX3_4 (iX9_0 h0)))) (g_cj ?_)
          exact e_ireti dX9_takenFor_118 rfl
theorem BX9_count_0 {C : gC} {G : gG} {Q : gK} {σ : gM} {a0 : Nat} {v1 : Int32} (h0 : isX9 G a0) : gw C G mX9_count Q 0 [.ref a0, .int v1] [] σ = (if v1 = 0 then Q (some (.int (σ (a0 + 3) 0))) σ else (if v1 = 1 then (g_inv C mX0_manyOf [.ref (a0 + 9), .int 1] σ fun r σ' => gw C G mX9_count Q 70 [.ref a0, .int v1] (r.toList ++ []) σ') else (if v1 = 2 then (g_inv C mX0_manyOf [.ref (a0 + 9), .int 2] σ fun r σ' => gw C G mX9_count Q 82 [.ref a0, .int v1] (r.toList ++ []) σ') else (if v1 = 3 then Q (some (.int (σ (a0 + 19) 0))) σ else (if v1 = 4 then Q (some (.int (σ (a0 + 1) 0))) σ else (if v1 = 5 then (g_inv C mX0_cellsInAll [.ref (a0 + 9)] σ fun r σ' => gw C G mX9_count Q 112 [.ref a0, .int v1] (r.toList ++ []) σ') else (if v1 = 6 then Q (some (.int (σ (a0 + 95) 0))) σ else (if v1 = 7 then (g_inv C mX2_manyHolding [.ref (a0 + 99)] σ fun r σ' => gw C G mX9_count Q 128 [.ref a0, .int v1] (r.toList ++ []) σ') else Q (some (.int (-1))) σ)))))))) := by
  refine Eq.trans (e_iload_n dX9_count_0 rfl) ?_
  refine Eq.trans (e_switch dX9_count_1 (by decide)) ?_
  refine Eq.trans (g_sw1 (y := 0) (t := 48) (by decide) (by decide) (g_sw1 (y := 1) (t := 59) (by decide) (by decide) (g_sw1 (y := 2) (t := 71) (by decide) (by decide) (g_sw1 (y := 3) (t := 83) (by decide) (by decide) (g_sw1 (y := 4) (t := 94) (by decide) (by decide) (g_sw1 (y := 5) (t := 102) (by decide) (by decide) (g_sw1 (y := 6) (t := 113) (by decide) (by decide) (g_sw1 (y := 7) (t := 121) (by decide) (by decide) (g_sw0 (t := 129) (by decide)))))))))) ?_
  refine g_ite ?_ (g_ite ?_ (g_ite ?_ (g_ite ?_ (g_ite ?_ (g_ite ?_ (g_ite ?_ (g_ite ?_ (?_))))))))
  · refine Eq.trans (e_aload_n dX9_count_48 rfl) ?_
    refine Eq.trans (e_getr (b := a0 + 1) dX9_count_49 fl_9_10 (kX9 h0) (sX9_0 h0)) ?_
    refine Eq.trans (e_getr (b := a0 + 3) dX9_count_52 fl_9_57 (kX3 (iX9_0 h0)) (sX3_2 (iX9_0 h0))) ?_
    refine Eq.trans (e_geti dX9_count_55 fl_9_321 (kX5 (iX3_2 (iX9_0 h0)))) ?_
    exact e_ireti dX9_count_58 rfl
  · refine Eq.trans (e_aload_n dX9_count_59 rfl) ?_
    refine Eq.trans (e_getr (b := a0 + 1) dX9_count_60 fl_9_10 (kX9 h0) (sX9_0 h0)) ?_
    refine Eq.trans (e_getr (b := a0 + 9) dX9_count_63 fl_9_81 (kX3 (iX9_0 h0)) (sX3_4 (iX9_0 h0))) ?_
    refine Eq.trans (e_iconst (x := 1) dX9_count_66 (by decide)) ?_
    exact e_invv dX9_count_67 cl_9_299 (kX0 (iX3_4 (iX9_0 h0))) (by simp) rfl rfl (by simp)
  · refine Eq.trans (e_aload_n dX9_count_71 rfl) ?_
    refine Eq.trans (e_getr (b := a0 + 1) dX9_count_72 fl_9_10 (kX9 h0) (sX9_0 h0)) ?_
    refine Eq.trans (e_getr (b := a0 + 9) dX9_count_75 fl_9_81 (kX3 (iX9_0 h0)) (sX3_4 (iX9_0 h0))) ?_
    refine Eq.trans (e_iconst (x := 2) dX9_count_78 (by decide)) ?_
    exact e_invv dX9_count_79 cl_9_299 (kX0 (iX3_4 (iX9_0 h0))) (by simp) rfl rfl (by simp)
  · refine Eq.trans (e_aload_n dX9_count_83 rfl) ?_
    refine Eq.trans (e_getr (b := a0 + 1) dX9_count_84 fl_9_10 (kX9 h0) (sX9_0 h0)) ?_
    refine Eq.trans (e_getr (b := a0 + 19) dX9_count_87 fl_9_197 (kX3 (iX9_0 h0)) (sX3_5 (iX9_0 h0))) ?_
    refine Eq.trans (e_geti dX9_count_90 fl_9_201 (kX6 (iX3_5 (iX9_0 h0)))) ?_
    exact e_ireti dX9_count_93 rfl
  · refine Eq.trans (e_aload_n dX9_count_94 rfl) ?_
    refine Eq.trans (e_getr (b := a0 + 1) dX9_count_95 fl_9_10 (kX9 h0) (sX9_0 h0)) ?_
    refine Eq.trans (e_geti dX9_count_98 fl_9_113 (kX3 (iX9_0 h0))) ?_
    exact e_ireti dX9_count_101 rfl
  · refine Eq.trans (e_aload_n dX9_count_102 rfl) ?_
    refine Eq.trans (e_getr (b := a0 + 1) dX9_count_103 fl_9_10 (kX9 h0) (sX9_0 h0)) ?_
    refine Eq.trans (e_getr (b := a0 + 9) dX9_count_106 fl_9_81 (kX3 (iX9_0 h0)) (sX3_4 (iX9_0 h0))) ?_
    exact e_invv dX9_count_109 cl_9_322 (kX0 (iX3_4 (iX9_0 h0))) (by simp) rfl rfl (by simp)
  · refine Eq.trans (e_aload_n dX9_count_113 rfl) ?_
    refine Eq.trans (e_getr (b := a0 + 95) dX9_count_114 fl_9_42 (kX9 h0) (sX9_6 h0)) ?_
    refine Eq.trans (e_geti dX9_count_117 fl_9_285 (kX7 (iX9_6 h0))) ?_
    exact e_ireti dX9_count_120 rfl
  · refine Eq.trans (e_aload_n dX9_count_121 rfl) ?_
    refine Eq.trans (e_getr (b := a0 + 99) dX9_count_122 fl_9_49 (kX9 h0) (sX9_7 h0)) ?_
    exact e_invv dX9_count_125 cl_9_325 (kX2 (iX9_7 h0)) (by simp) rfl rfl (by simp)
  · refine Eq.trans (e_iconst (x := (-1)) dX9_count_129 (by decide)) ?_
    exact e_ireti dX9_count_130 rfl
theorem BX9_count_70 {C : gC} {G : gG} {Q : gK} {σ : gM} {a0 : Nat} {v1 : Int32} {s0 : Int32} (h0 : isX9 G a0) : gw C G mX9_count Q 70 [.ref a0, .int v1] [.int s0] σ = Q (some (.int s0)) σ := by
  exact e_ireti dX9_count_70 rfl
theorem BX9_count_82 {C : gC} {G : gG} {Q : gK} {σ : gM} {a0 : Nat} {v1 : Int32} {s0 : Int32} (h0 : isX9 G a0) : gw C G mX9_count Q 82 [.ref a0, .int v1] [.int s0] σ = Q (some (.int s0)) σ := by
  exact e_ireti dX9_count_82 rfl
theorem BX9_count_112 {C : gC} {G : gG} {Q : gK} {σ : gM} {a0 : Nat} {v1 : Int32} {s0 : Int32} (h0 : isX9 G a0) : gw C G mX9_count Q 112 [.ref a0, .int v1] [.int s0] σ = Q (some (.int s0)) σ := by
  exact e_ireti dX9_count_112 rfl
theorem BX9_count_128 {C : gC} {G : gG} {Q : gK} {σ : gM} {a0 : Nat} {v1 : Int32} {s0 : Int32} (h0 : isX9 G a0) : gw C G mX9_count Q 128 [.ref a0, .int v1] [.int s0] σ = Q (some (.int s0)) σ := by
  exact e_ireti dX9_count_128 rfl
