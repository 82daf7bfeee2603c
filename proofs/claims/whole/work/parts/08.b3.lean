theorem BX10_region_0 {C : gC} {G : gG} {Q : gK} {σ : gM} {a0 : Nat} {v1 : Int32} {v2 : Int32} (h0 : isX10 G a0) : gw C G mX10_region Q 0 [.ref a0, .int v1, .int v2, .long 0, .long 0] [] σ = (g_inv C mX10_in [.int v1, .int 8, .int 120] σ fun r σ' => gw C G mX10_region Q 8 [.ref a0, .int v1, .int v2, .long 0, .long 0] (r.toList ++ []) σ') := by
  refine Eq.trans (e_iload_n dX10_region_0 rfl) ?_
  refine Eq.trans (e_bipush (x := 8) dX10_region_1 (by decide)) ?_
  refine Eq.trans (e_bipush (x := 120) dX10_region_3 (by decide)) ?_
  exact e_invs dX10_region_5 cl_10_65 (by decide) (by simp) rfl rfl (by simp)
theorem BX10_region_8 {C : gC} {G : gG} {Q : gK} {σ : gM} {a0 : Nat} {v1 : Int32} {v2 : Int32} {wv3 : Value} {wv4 : Value} {s0 : Int32} (h0 : isX10 G a0) : gw C G mX10_region Q 8 [.ref a0, .int v1, .int v2, wv3, wv4] [.int s0] σ = (if s0 = 0 then Q (some (.int (-1))) σ else (g_inv C mX10_in [.int v2, .int 0, .int 1] σ fun r σ' => gw C G mX10_region Q 17 [.ref a0, .int v1, .int v2, wv3, wv4] (r.toList ++ []) σ')) := by
  refine Eq.trans (e_if_eq (t := 20) dX10_region_8 (by decide)) (g_ite ?_ ?_)
  · refine Eq.trans (e_iconst (x := (-1)) dX10_region_20 (by decide)) ?_
    exact e_ireti dX10_region_21 rfl
  · refine Eq.trans (e_iload_n dX10_region_11 rfl) ?_
    refine Eq.trans (e_iconst (x := 0) dX10_region_12 (by decide)) ?_
    refine Eq.trans (e_iconst (x := 1) dX10_region_13 (by decide)) ?_
    exact e_invs dX10_region_14 cl_10_65 (by decide) (by simp) rfl rfl (by simp)
theorem BX10_region_17 {C : gC} {G : gG} {Q : gK} {σ : gM} {a0 : Nat} {v1 : Int32} {v2 : Int32} {wv3 : Value} {wv4 : Value} {s0 : Int32} (h0 : isX10 G a0) : gw C G mX10_region Q 17 [.ref a0, .int v1, .int v2, wv3, wv4] [.int s0] σ = (if s0 = 0 then Q (some (.int (-1))) σ else gw C G mX10_region Q 27 [.ref a0, .int v1, .int v2, .int 0, .int 0] [] σ) := by
  refine Eq.trans (e_if_ne (t := 22) dX10_region_17 (by decide)) (g_ite ?_ ?_)
  · refine Eq.trans (e_iconst (x := (-1)) dX10_region_20 (by decide)) ?_
    exact e_ireti dX10_region_21 rfl
  · refine Eq.trans (e_iconst (x := 0) dX10_region_22 (by decide)) ?_
    refine Eq.trans (e_istore_n dX10_region_23 (Nat.le_of_ble_eq_true rfl)) ?_
    refine Eq.trans (e_iconst (x := 0) dX10_region_24 (by decide)) ?_
    refine Eq.trans (e_istore dX10_region_25 (Nat.le_of_ble_eq_true rfl)) ?_
    rfl
theorem BX10_region_27 {C : gC} {G : gG} {Q : gK} {σ : gM} {a0 : Nat} {v1 : Int32} {v2 : Int32} {v3 : Int32} {v4 : Int32} (h0 : isX10 G a0) : gw C G mX10_region Q 27 [.ref a0, .int v1, .int v2, .int v3, .int v4] [] σ = (vp_in 570 607 ∧ (if v4 < (σ (a0 + 1) (570 : Int32).toNatClampNeg) then (g_inv C mX10_end [.ref a0, .int v4] σ fun r σ' => gw C G mX10_region Q 46 [.ref a0, .int v1, .int v2, .int v3, .int v4] (r.toList ++ []) σ') else (vp_in 570 607 ∧ (if (σ (a0 + 1) (570 : Int32).toNatClampNeg) = 6 then Q (some (.int (-3))) σ else (if 240 < (v3 + v1) then Q (some (.int (-3))) σ else (vp_in 570 607 ∧ (vp_in 570 607 ∧ gw C G mX10_region Q 105 [.ref a0, .int v1, .int v2, .int v3, .int v4] [.int (σ (a0 + 1) (570 : Int32).toNatClampNeg)] (g_up σ (a0 + 1) (570 : Int32).toNatClampNeg ((σ (a0 + 1) (570 : Int32).toNatClampNeg) + 1))))))))) := by
  refine Eq.trans (e_iload dX10_region_27 rfl) ?_
  refine Eq.trans (e_aload_n dX10_region_29 rfl) ?_
  refine Eq.trans (e_getr (b := a0 + 1) dX10_region_30 fl_10_9 (kX10 h0) (sX10_0 h0)) ?_
  refine Eq.trans (e_sipush (x := 570) dX10_region_33 (by decide)) ?_
  refine Eq.trans (e_iald dX10_region_36 (aX10_0 h0) (nX10_0 h0)) (g_cj ?_)
  refine Eq.trans (e_ic_ge (t := 67) dX10_region_37 (by decide)) (g_ite ?_ ?_)
  · refine Eq.trans (e_aload_n dX10_region_40 rfl) ?_
    refine Eq.trans (e_iload dX10_region_41 rfl) ?_
    exact e_invv dX10_region_43 cl_10_69 (kX10 h0) (by simp) rfl rfl (by simp)
  · refine Eq.trans (e_aload_n dX10_region_67 rfl) ?_
    refine Eq.trans (e_getr (b := a0 + 1) dX10_region_68 fl_10_9 (kX10 h0) (sX10_0 h0)) ?_
    refine Eq.trans (e_sipush (x := 570) dX10_region_71 (by decide)) ?_
    refine Eq.trans (e_iald dX10_region_74 (aX10_0 h0) (nX10_0 h0)) (g_cj ?_)
    refine Eq.trans (e_bipush (x := 6) dX10_region_75 (by decide)) ?_
    refine Eq.trans (e_ic_eq (t := 89) dX10_region_77 (by decide)) (g_ite ?_ ?_)
    · refine Eq.trans (e_bipush (x := (-3)) dX10_region_89 (by decide)) ?_
      exact e_ireti dX10_region_91 rfl
    · refine Eq.trans (e_iload_n dX10_region_80 rfl) ?_
      refine Eq.trans (e_iload_n dX10_region_81 rfl) ?_
      refine Eq.trans (e_iadd dX10_region_82) ?_
      refine Eq.trans (e_sipush (x := 240) dX10_region_83 (by decide)) ?_
      refine Eq.trans (e_ic_le (t := 92) dX10_region_86 (by decide)) (g_ite ?_ ?_)
      · refine Eq.trans (e_bipush (x := (-3)) dX10_region_89 (by decide)) ?_
        exact e_ireti dX10_region_91 rfl
      · refine Eq.trans (e_aload_n dX10_region_92 rfl) ?_
        refine Eq.trans (e_getr (b := a0 + 1) dX10_region_93 fl_10_9 (kX10 h0) (sX10_0 h0)) ?_
        refine Eq.trans (e_sipush (x := 570) dX10_region_96 (by decide)) ?_
        refine Eq.trans (e_dup2 dX10_region_99) ?_
        refine Eq.trans (e_iald dX10_region_100 (aX10_0 h0) (nX10_0 h0)) (g_cj ?_)
        refine Eq.trans (e_dup_x2 dX10_region_101) ?_
        refine Eq.trans (e_iconst (x := 1) dX10_region_102 (by decide)) ?_
        refine Eq.trans (e_iadd dX10_region_103) ?_
        refine Eq.trans (e_iast dX10_region_104 (aX10_0 h0) (nX10_0 h0)) (g_cj ?_)
        rfl
theorem BX10_region_46 {C : gC} {G : gG} {Q : gK} {σ : gM} {a0 : Nat} {v1 : Int32} {v2 : Int32} {v3 : Int32} {v4 : Int32} {s0 : Int32} (h0 : isX10 G a0) : gw C G mX10_region Q 46 [.ref a0, .int v1, .int v2, .int v3, .int v4] [.int s0] σ = (if v3 < s0 then (g_inv C mX10_end [.ref a0, .int v4] σ fun r σ' => gw C G mX10_region Q 56 [.ref a0, .int v1, .int v2, .int v3, .int v4] (r.toList ++ []) σ') else gw C G mX10_region Q 27 [.ref a0, .int v1, .int v2, .int v3, .int (v4 + 1)] [] σ) := by
  refine Eq.trans (e_iload_n dX10_region_46 rfl) ?_
  refine Eq.trans (e_ic_le (t := 59) dX10_region_47 (by decide)) (g_ite ?_ ?_)
  · refine Eq.trans (e_aload_n dX10_region_50 rfl) ?_
    refine Eq.trans (e_iload dX10_region_51 rfl) ?_
    exact e_invv dX10_region_53 cl_10_69 (kX10 h0) (by simp) rfl rfl (by simp)
  · refine Eq.trans (e_iload_n dX10_region_59 rfl) ?_
    refine Eq.trans (e_istore_n dX10_region_60 (Nat.le_of_ble_eq_true rfl)) ?_
    refine Eq.trans (e_iinc (y := 1) dX10_region_61 rfl (by decide)) ?_
    refine Eq.trans (e_goto (t := 27) dX10_region_64 (by decide)) ?_
    rfl
theorem BX10_region_56 {C : gC} {G : gG} {Q : gK} {σ : gM} {a0 : Nat} {v1 : Int32} {v2 : Int32} {v3 : Int32} {v4 : Int32} {s0 : Int32} (h0 : isX10 G a0) : gw C G mX10_region Q 56 [.ref a0, .int v1, .int v2, .int v3, .int v4] [.int s0] σ = gw C G mX10_region Q 27 [.ref a0, .int v1, .int v2, .int s0, .int (v4 + 1)] [] σ := by
  refine Eq.trans (e_goto (t := 60) dX10_region_56 (by decide)) ?_
  refine Eq.trans (e_istore_n dX10_region_60 (Nat.le_of_ble_eq_true rfl)) ?_
  refine Eq.trans (e_iinc (y := 1) dX10_region_61 rfl (by decide)) ?_
  refine Eq.trans (e_goto (t := 27) dX10_region_64 (by decide)) ?_
  rfl
theorem BX10_region_105 {C : gC} {G : gG} {Q : gK} {σ : gM} {a0 : Nat} {v1 : Int32} {v2 : Int32} {v3 : Int32} {v4 : Int32} {s0 : Int32} (h0 : isX10 G a0) : gw C G mX10_region Q 105 [.ref a0, .int v1, .int v2, .int v3, .int v4] [.int s0] σ = (vp_in (571 + s0) 607 ∧ gw C G mX10_region Q 119 [.ref a0, .int v1, .int v2, .int v3, .int s0] [] (g_up σ (a0 + 1) (571 + s0).toNatClampNeg v3)) := by
  refine Eq.trans (e_istore dX10_region_105 (Nat.le_of_ble_eq_true rfl)) ?_
  refine Eq.trans (e_aload_n dX10_region_107 rfl) ?_
  refine Eq.trans (e_getr (b := a0 + 1) dX10_region_108 fl_10_9 (kX10 h0) (sX10_0 h0)) ?_
  refine Eq.trans (e_sipush (x := 571) dX10_region_111 (by decide)) ?_
  refine Eq.trans (e_iload dX10_region_114 rfl) ?_
  refine Eq.trans (e_iadd dX10_region_116) ?_
  refine Eq.trans (e_iload_n dX10_region_117 rfl) ?_
  refine Eq.trans (e_iast dX10_region_118 (aX10_0 h0) (nX10_0 h0)) (g_cj ?_)
  rfl
theorem BX10_region_119 {C : gC} {G : gG} {Q : gK} {σ : gM} {a0 : Nat} {v1 : Int32} {v2 : Int32} {v3 : Int32} {v4 : Int32} (h0 : isX10 G a0) : gw C G mX10_region Q 119 [.ref a0, .int v1, .int v2, .int v3, .int v4] [] σ = (vp_in (577 + v4) 607 ∧ gw C G mX10_region Q 131 [.ref a0, .int v1, .int v2, .int v3, .int v4] [] (g_up σ (a0 + 1) (577 + v4).toNatClampNeg v1)) := by
  refine Eq.trans (e_aload_n dX10_region_119 rfl) ?_
  refine Eq.trans (e_getr (b := a0 + 1) dX10_region_120 fl_10_9 (kX10 h0) (sX10_0 h0)) ?_
  refine Eq.trans (e_sipush (x := 577) dX10_region_123 (by decide)) ?_
  refine Eq.trans (e_iload dX10_region_126 rfl) ?_
  refine Eq.trans (e_iadd dX10_region_128) ?_
  refine Eq.trans (e_iload_n dX10_region_129 rfl) ?_
  refine Eq.trans (e_iast dX10_region_130 (aX10_0 h0) (nX10_0 h0)) (g_cj ?_)
  rfl
theorem BX10_region_131 {C : gC} {G : gG} {Q : gK} {σ : gM} {a0 : Nat} {v1 : Int32} {v2 : Int32} {v3 : Int32} {v4 : Int32} (h0 : isX10 G a0) : gw C G mX10_region Q 131 [.ref a0, .int v1, .int v2, .int v3, .int v4] [] σ = (vp_in (583 + v4) 607 ∧ Q (some (.int v4)) (g_up σ (a0 + 1) (583 + v4).toNatClampNeg v2)) := by
  refine Eq.trans (e_aload_n dX10_region_131 rfl) ?_
  refine Eq.trans (e_getr (b := a0 + 1) dX10_region_132 fl_10_9 (kX10 h0) (sX10_0 h0)) ?_
  refine Eq.trans (e_sipush (x := 583) dX10_region_135 (by decide)) ?_
  refine Eq.trans (e_iload dX10_region_138 rfl) ?_
  refine Eq.trans (e_iadd dX10_region_140) ?_
  refine Eq.trans (e_iload_n dX10_region_141 rfl) ?_
  refine Eq.trans (e_iast dX10_region_142 (aX10_0 h0) (nX10_0 h0)) (g_cj ?_)
  refine Eq.trans (e_iload dX10_region_143 rfl) ?_
  exact e_ireti dX10_region_145 rfl
theorem BX10_in_0 {C : gC} {G : gG} {Q : gK} {σ : gM} {v0 : Int32} {v1 : Int32} {v2 : Int32}  : gw C G mX10_in Q 0 [.int v0, .int v1, .int v2] [] σ = (if v0 < v1 then Q (some (.int 0)) σ else (if v2 < v0 then Q (some (.int 0)) σ else Q (some (.int 1)) σ)) := by
  refine Eq.trans (e_iload_n dX10_in_0 rfl) ?_
  refine Eq.trans (e_iload_n dX10_in_1 rfl) ?_
  refine Eq.trans (e_ic_lt (t := 14) dX10_in_2 (by decide)) (g_ite ?_ ?_)
  · refine Eq.trans (e_iconst (x := 0) dX10_in_14 (by decide)) ?_
    exact Eq.trans (e_iretz dX10_in_15 rfl) (g_and (by decide))
  · refine Eq.trans (e_iload_n dX10_in_5 rfl) ?_
    refine Eq.trans (e_iload_n dX10_in_6 rfl) ?_
    refine Eq.trans (e_ic_gt (t := 14) dX10_in_7 (by decide)) (g_ite ?_ ?_)
    · refine Eq.trans (e_iconst (x := 0) dX10_in_14 (by decide)) ?_
      exact Eq.trans (e_iretz dX10_in_15 rfl) (g_and (by decide))
    · refine Eq.trans (e_iconst (x := 1) dX10_in_10 (by decide)) ?_
      refine Eq.trans (e_goto (t := 15) dX10_in_11 (by decide)) ?_
      exact Eq.trans (e_iretz dX10_in_15 rfl) (g_and (by decide))
theorem BX10_end_0 {C : gC} {G : gG} {Q : gK} {σ : gM} {a0 : Nat} {v1 : Int32} (h0 : isX10 G a0) : gw C G mX10_end Q 0 [.ref a0, .int v1] [] σ = (vp_in (571 + v1) 607 ∧ (vp_in (577 + v1) 607 ∧ Q (some (.int ((σ (a0 + 1) (571 + v1).toNatClampNeg) + (σ (a0 + 1) (577 + v1).toNatClampNeg)))) σ)) := by
  refine Eq.trans (e_aload_n dX10_end_0 rfl) ?_
  refine Eq.trans (e_getr (b := a0 + 1) dX10_end_1 fl_10_9 (kX10 h0) (sX10_0 h0)) ?_
  refine Eq.trans (e_sipush (x := 571) dX10_end_4 (by decide)) ?_
  refine Eq.trans (e_iload_n dX10_end_7 rfl) ?_
  refine Eq.trans (e_iadd dX10_end_8) ?_
  refine Eq.trans (e_iald dX10_end_9 (aX10_0 h0) (nX10_0 h0)) (g_cj ?_)
  refine Eq.trans (e_aload_n dX10_end_10 rfl) ?_
  refine Eq.trans (e_getr (b := a0 + 1) dX10_end_11 fl_10_9 (kX10 h0) (sX10_0 h0)) ?_
  refine Eq.trans (e_sipush (x := 577) dX10_end_14 (by decide)) ?_
  refine Eq.trans (e_iload_n dX10_end_17 rfl) ?_
  refine Eq.trans (e_iadd dX10_end_18) ?_
  refine Eq.trans (e_iald dX10_end_19 (aX10_0 h0) (nX10_0 h0)) (g_cj ?_)
  refine Eq.trans (e_iadd dX10_end_20) ?_
  exact e_ireti dX10_end_21 rfl
theorem BX10_block_0 {C : gC} {G : gG} {Q : gK} {σ : gM} {a0 : Nat} {v1 : Int32} {v2 : Int32} {v3 : Int32} (h0 : isX10 G a0) : gw C G mX10_block Q 0 [.ref a0, .int v1, .int v2, .int v3, .long 0, .long 0, .long 0] [] σ = (g_inv C mX10_isRegion [.ref a0, .int v1] σ fun r σ' => gw C G mX10_block Q 5 [.ref a0, .int v1, .int v2, .int v3, .long 0, .long 0, .long 0] (r.toList ++ []) σ') := by
  refine Eq.trans (e_aload_n dX10_block_0 rfl) ?_
  refine Eq.trans (e_iload_n dX10_block_1 rfl) ?_
  exact e_invv dX10_block_2 cl_10_73 (kX10 h0) (by simp) rfl rfl (by simp)
theorem BX10_block_5 {C : gC} {G : gG} {Q : gK} {σ : gM} {a0 : Nat} {v1 : Int32} {v2 : Int32} {v3 : Int32} {wv4 : Value} {wv5 : Value} {wv6 : Value} {s0 : Int32} (h0 : isX10 G a0) : gw C G mX10_block Q 5 [.ref a0, .int v1, .int v2, .int v3, wv4, wv5, wv6] [.int s0] σ = (if s0 = 0 then Q (some (.int (-1))) σ else (g_inv C mX10_in [.int v2, .int 1, .int 40] σ fun r σ' => gw C G mX10_block Q 15 [.ref a0, .int v1, .int v2, .int v3, wv4, wv5, wv6] (r.toList ++ []) σ')) := by
  refine Eq.trans (e_if_eq (t := 28) dX10_block_5 (by decide)) (g_ite ?_ ?_)
  · refine Eq.trans (e_iconst (x := (-1)) dX10_block_28 (by decide)) ?_
    exact e_ireti dX10_block_29 rfl
  · refine Eq.trans (e_iload_n dX10_block_8 rfl) ?_
    refine Eq.trans (e_iconst (x := 1) dX10_block_9 (by decide)) ?_
    refine Eq.trans (e_bipush (x := 40) dX10_block_10 (by decide)) ?_
    exact e_invs dX10_block_12 cl_10_65 (by decide) (by simp) rfl rfl (by simp)
theorem BX10_block_15 {C : gC} {G : gG} {Q : gK} {σ : gM} {a0 : Nat} {v1 : Int32} {v2 : Int32} {v3 : Int32} {wv4 : Value} {wv5 : Value} {wv6 : Value} {s0 : Int32} (h0 : isX10 G a0) : gw C G mX10_block Q 15 [.ref a0, .int v1, .int v2, .int v3, wv4, wv5, wv6] [.int s0] σ = (if s0 = 0 then Q (some (.int (-1))) σ else (g_inv C mX10_in [.int v3, .int 0, .int 9] σ fun r σ' => gw C G mX10_block Q 25 [.ref a0, .int v1, .int v2, .int v3, wv4, wv5, wv6] (r.toList ++ []) σ')) := by
  refine Eq.trans (e_if_eq (t := 28) dX10_block_15 (by decide)) (g_ite ?_ ?_)
  · refine Eq.trans (e_iconst (x := (-1)) dX10_block_28 (by decide)) ?_
    exact e_ireti dX10_block_29 rfl
  · refine Eq.trans (e_iload_n dX10_block_18 rfl) ?_
    refine Eq.trans (e_iconst (x := 0) dX10_block_19 (by decide)) ?_
    refine Eq.trans (e_bipush (x := 9) dX10_block_20 (by decide)) ?_
    exact e_invs dX10_block_22 cl_10_65 (by decide) (by simp) rfl rfl (by simp)
theorem BX10_block_25 {C : gC} {G : gG} {Q : gK} {σ : gM} {a0 : Nat} {v1 : Int32} {v2 : Int32} {v3 : Int32} {wv4 : Value} {wv5 : Value} {wv6 : Value} {s0 : Int32} (h0 : isX10 G a0) : gw C G mX10_block Q 25 [.ref a0, .int v1, .int v2, .int v3, wv4, wv5, wv6] [.int s0] σ = (if s0 = 0 then Q (some (.int (-1))) σ else (g_inv C mX10_used [.ref a0, .int v3] σ fun r σ' => gw C G mX10_block Q 35 [.ref a0, .int v1, .int v2, .int v3, wv4, wv5, wv6] (r.toList ++ []) σ')) := by
  refine Eq.trans (e_if_ne (t := 30) dX10_block_25 (by decide)) (g_ite ?_ ?_)
  · refine Eq.trans (e_iconst (x := (-1)) dX10_block_28 (by decide)) ?_
    exact e_ireti dX10_block_29 rfl
  · refine Eq.trans (e_aload_n dX10_block_30 rfl) ?_
    refine Eq.trans (e_iload_n dX10_block_31 rfl) ?_
    exact e_invv dX10_block_32 cl_10_76 (kX10 h0) (by simp) rfl rfl (by simp)
theorem BX10_block_35 {C : gC} {G : gG} {Q : gK} {σ : gM} {a0 : Nat} {v1 : Int32} {v2 : Int32} {v3 : Int32} {wv4 : Value} {wv5 : Value} {wv6 : Value} {s0 : Int32} (h0 : isX10 G a0) : gw C G mX10_block Q 35 [.ref a0, .int v1, .int v2, .int v3, wv4, wv5, wv6] [.int s0] σ = (vp_in (589 + v3) 607 ∧ (if (σ (a0 + 1) (589 + v3).toNatClampNeg) < (s0 + v2) then Q (some (.int (-6))) σ else (g_inv C mX10_laid [.ref a0] σ fun r σ' => gw C G mX10_block Q 57 [.ref a0, .int v1, .int v2, .int v3, wv4, wv5, wv6] (r.toList ++ []) σ'))) := by
  refine Eq.trans (e_iload_n dX10_block_35 rfl) ?_
  refine Eq.trans (e_iadd dX10_block_36) ?_
  refine Eq.trans (e_aload_n dX10_block_37 rfl) ?_
  refine Eq.trans (e_getr (b := a0 + 1) dX10_block_38 fl_10_9 (kX10 h0) (sX10_0 h0)) ?_
  refine Eq.trans (e_sipush (x := 589) dX10_block_41 (by decide)) ?_
  refine Eq.trans (e_iload_n dX10_block_44 rfl) ?_
  refine Eq.trans (e_iadd dX10_block_45) ?_
  refine Eq.trans (e_iald dX10_block_46 (aX10_0 h0) (nX10_0 h0)) (g_cj ?_)
  refine Eq.trans (e_ic_le (t := 53) dX10_block_47 (by decide)) (g_ite ?_ ?_)
  · refine Eq.trans (e_bipush (x := (-6)) dX10_block_50 (by decide)) ?_
    exact e_ireti dX10_block_52 rfl
  · refine Eq.trans (e_aload_n dX10_block_53 rfl) ?_
    exact e_invv dX10_block_54 cl_10_79 (kX10 h0) (by simp) rfl rfl (by simp)
theorem BX10_block_57 {C : gC} {G : gG} {Q : gK} {σ : gM} {a0 : Nat} {v1 : Int32} {v2 : Int32} {v3 : Int32} {wv4 : Value} {wv5 : Value} {wv6 : Value} (h0 : isX10 G a0) : gw C G mX10_block Q 57 [.ref a0, .int v1, .int v2, .int v3, wv4, wv5, wv6] [] σ = (g_inv C mX10_placed [.ref a0, .int v1, .int v2] σ fun r σ' => gw C G mX10_block Q 63 [.ref a0, .int v1, .int v2, .int v3, wv4, wv5, wv6] (r.toList ++ []) σ') := by
  refine Eq.trans (e_aload_n dX10_block_57 rfl) ?_
  refine Eq.trans (e_iload_n dX10_block_58 rfl) ?_
  refine Eq.trans (e_iload_n dX10_block_59 rfl) ?_
  exact e_invv dX10_block_60 cl_10_82 (kX10 h0) (by simp) rfl rfl (by simp)
theorem BX10_block_63 {C : gC} {G : gG} {Q : gK} {σ : gM} {a0 : Nat} {v1 : Int32} {v2 : Int32} {v3 : Int32} {wv4 : Value} {wv5 : Value} {wv6 : Value} {s0 : Int32} (h0 : isX10 G a0) : gw C G mX10_block Q 63 [.ref a0, .int v1, .int v2, .int v3, wv4, wv5, wv6] [.int s0] σ = (g_inv C mX10_freeSlot [.ref a0] σ fun r σ' => gw C G mX10_block Q 69 [.ref a0, .int v1, .int v2, .int v3, .int s0, wv5, wv6] (r.toList ++ []) σ') := by
  refine Eq.trans (e_istore dX10_block_63 (Nat.le_of_ble_eq_true rfl)) ?_
  refine Eq.trans (e_aload_n dX10_block_65 rfl) ?_
  exact e_invv dX10_block_66 cl_10_85 (kX10 h0) (by simp) rfl rfl (by simp)
theorem BX10_block_69 {C : gC} {G : gG} {Q : gK} {σ : gM} {a0 : Nat} {v1 : Int32} {v2 : Int32} {v3 : Int32} {v4 : Int32} {wv5 : Value} {wv6 : Value} {s0 : Int32} (h0 : isX10 G a0) : gw C G mX10_block Q 69 [.ref a0, .int v1, .int v2, .int v3, .int v4, wv5, wv6] [.int s0] σ = (if v4 < 0 then Q (some (.int (-3))) σ else (if s0 < 0 then Q (some (.int (-3))) σ else (g_inv C mX10_sets [.ref a0, .int s0, .int 0, .int 1] σ fun r σ' => gw C G mX10_block Q 92 [.ref a0, .int v1, .int v2, .int v3, .int v4, .int s0, wv6] (r.toList ++ []) σ'))) := by
  refine Eq.trans (e_istore dX10_block_69 (Nat.le_of_ble_eq_true rfl)) ?_
  refine Eq.trans (e_iload dX10_block_71 rfl) ?_
  refine Eq.trans (e_if_lt (t := 81) dX10_block_73 (by decide)) (g_ite ?_ ?_)
  · refine Eq.trans (e_bipush (x := (-3)) dX10_block_81 (by decide)) ?_
    exact e_ireti dX10_block_83 rfl
  · refine Eq.trans (e_iload dX10_block_76 rfl) ?_
    refine Eq.trans (e_if_ge (t := 84) dX10_block_78 (by decide)) (g_ite ?_ ?_)
    · refine Eq.trans (e_bipush (x := (-3)) dX10_block_81 (by decide)) ?_
      exact e_ireti dX10_block_83 rfl
    · refine Eq.trans (e_aload_n dX10_block_84 rfl) ?_
      refine Eq.trans (e_iload dX10_block_85 rfl) ?_
      refine Eq.trans (e_iconst (x := 0) dX10_block_87 (by decide)) ?_
      refine Eq.trans (e_iconst (x := 1) dX10_block_88 (by decide)) ?_
      exact e_invv dX10_block_89 cl_10_89 (kX10 h0) (by simp) rfl rfl (by simp)
theorem BX10_block_92 {C : gC} {G : gG} {Q : gK} {σ : gM} {a0 : Nat} {v1 : Int32} {v2 : Int32} {v3 : Int32} {v4 : Int32} {v5 : Int32} {wv6 : Value} (h0 : isX10 G a0) : gw C G mX10_block Q 92 [.ref a0, .int v1, .int v2, .int v3, .int v4, .int v5, wv6] [] σ = (g_inv C mX10_at [.ref a0, .int v5, .int 1] σ fun r σ' => gw C G mX10_block Q 103 [.ref a0, .int v1, .int v2, .int v3, .int v4, .int v5, wv6] (r.toList ++ [.int 1, .int v5, .ref a0]) σ') := by
  refine Eq.trans (e_aload_n dX10_block_92 rfl) ?_
  refine Eq.trans (e_iload dX10_block_93 rfl) ?_
  refine Eq.trans (e_iconst (x := 1) dX10_block_95 (by decide)) ?_
  refine Eq.trans (e_aload_n dX10_block_96 rfl) ?_
  refine Eq.trans (e_iload dX10_block_97 rfl) ?_
  refine Eq.trans (e_iconst (x := 1) dX10_block_99 (by decide)) ?_
  exact e_invv dX10_block_100 cl_10_57 (kX10 h0) (by simp) rfl rfl (by simp)
theorem BX10_block_103 {C : gC} {G : gG} {Q : gK} {σ : gM} {a0 : Nat} {v1 : Int32} {v2 : Int32} {v3 : Int32} {v4 : Int32} {v5 : Int32} {wv6 : Value} {s1 : Int32} {s2 : Int32} {s3 : Int32} (h0 : isX10 G a0) : gw C G mX10_block Q 103 [.ref a0, .int v1, .int v2, .int v3, .int v4, .int v5, wv6] [.int s3, .int s2, .int s1, .ref a0] σ = (g_inv C mX10_sets [.ref a0, .int s1, .int s2, .int (s3 + 1)] σ fun r σ' => gw C G mX10_block Q 108 [.ref a0, .int v1, .int v2, .int v3, .int v4, .int v5, wv6] (r.toList ++ []) σ') := by
  refine Eq.trans (e_iconst (x := 1) dX10_block_103 (by decide)) ?_
  refine Eq.trans (e_iadd dX10_block_104) ?_
  exact e_invv dX10_block_105 cl_10_89 (kX10 h0) (by simp) rfl rfl (by simp)
theorem BX10_block_108 {C : gC} {G : gG} {Q : gK} {σ : gM} {a0 : Nat} {v1 : Int32} {v2 : Int32} {v3 : Int32} {v4 : Int32} {v5 : Int32} {wv6 : Value} (h0 : isX10 G a0) : gw C G mX10_block Q 108 [.ref a0, .int v1, .int v2, .int v3, .int v4, .int v5, wv6] [] σ = (g_inv C mX10_sets [.ref a0, .int v5, .int 2, .int v4] σ fun r σ' => gw C G mX10_block Q 117 [.ref a0, .int v1, .int v2, .int v3, .int v4, .int v5, wv6] (r.toList ++ []) σ') := by
  refine Eq.trans (e_aload_n dX10_block_108 rfl) ?_
  refine Eq.trans (e_iload dX10_block_109 rfl) ?_
  refine Eq.trans (e_iconst (x := 2) dX10_block_111 (by decide)) ?_
  refine Eq.trans (e_iload dX10_block_112 rfl) ?_
  exact e_invv dX10_block_114 cl_10_89 (kX10 h0) (by simp) rfl rfl (by simp)
theorem BX10_block_117 {C : gC} {G : gG} {Q : gK} {σ : gM} {a0 : Nat} {v1 : Int32} {v2 : Int32} {v3 : Int32} {v4 : Int32} {v5 : Int32} {wv6 : Value} (h0 : isX10 G a0) : gw C G mX10_block Q 117 [.ref a0, .int v1, .int v2, .int v3, .int v4, .int v5, wv6] [] σ = (g_inv C mX10_sets [.ref a0, .int v5, .int 3, .int v2] σ fun r σ' => gw C G mX10_block Q 125 [.ref a0, .int v1, .int v2, .int v3, .int v4, .int v5, wv6] (r.toList ++ []) σ') := by
  refine Eq.trans (e_aload_n dX10_block_117 rfl) ?_
  refine Eq.trans (e_iload dX10_block_118 rfl) ?_
  refine Eq.trans (e_iconst (x := 3) dX10_block_120 (by decide)) ?_
  refine Eq.trans (e_iload_n dX10_block_121 rfl) ?_
  exact e_invv dX10_block_122 cl_10_89 (kX10 h0) (by simp) rfl rfl (by simp)
theorem BX10_block_125 {C : gC} {G : gG} {Q : gK} {σ : gM} {a0 : Nat} {v1 : Int32} {v2 : Int32} {v3 : Int32} {v4 : Int32} {v5 : Int32} {wv6 : Value} (h0 : isX10 G a0) : gw C G mX10_block Q 125 [.ref a0, .int v1, .int v2, .int v3, .int v4, .int v5, wv6] [] σ = (g_inv C mX10_sets [.ref a0, .int v5, .int 4, .int v1] σ fun r σ' => gw C G mX10_block Q 133 [.ref a0, .int v1, .int v2, .int v3, .int v4, .int v5, wv6] (r.toList ++ []) σ') := by
  refine Eq.trans (e_aload_n dX10_block_125 rfl) ?_
  refine Eq.trans (e_iload dX10_block_126 rfl) ?_
  refine Eq.trans (e_iconst (x := 4) dX10_block_128 (by decide)) ?_
  refine Eq.trans (e_iload_n dX10_block_129 rfl) ?_
  exact e_invv dX10_block_130 cl_10_89 (kX10 h0) (by simp) rfl rfl (by simp)
theorem BX10_block_133 {C : gC} {G : gG} {Q : gK} {σ : gM} {a0 : Nat} {v1 : Int32} {v2 : Int32} {v3 : Int32} {v4 : Int32} {v5 : Int32} {wv6 : Value} (h0 : isX10 G a0) : gw C G mX10_block Q 133 [.ref a0, .int v1, .int v2, .int v3, .int v4, .int v5, wv6] [] σ = (g_inv C mX10_sets [.ref a0, .int v5, .int 5, .int v3] σ fun r σ' => gw C G mX10_block Q 141 [.ref a0, .int v1, .int v2, .int v3, .int v4, .int v5, wv6] (r.toList ++ []) σ') := by
  refine Eq.trans (e_aload_n dX10_block_133 rfl) ?_
  refine Eq.trans (e_iload dX10_block_134 rfl) ?_
  refine Eq.trans (e_iconst (x := 5) dX10_block_136 (by decide)) ?_
  refine Eq.trans (e_iload_n dX10_block_137 rfl) ?_
  exact e_invv dX10_block_138 cl_10_89 (kX10 h0) (by simp) rfl rfl (by simp)
theorem BX10_block_141 {C : gC} {G : gG} {Q : gK} {σ : gM} {a0 : Nat} {v1 : Int32} {v2 : Int32} {v3 : Int32} {v4 : Int32} {v5 : Int32} {wv6 : Value} (h0 : isX10 G a0) : gw C G mX10_block Q 141 [.ref a0, .int v1, .int v2, .int v3, .int v4, .int v5, wv6] [] σ = (g_inv C mX10_sets [.ref a0, .int v5, .int 6, .int 0] σ fun r σ' => gw C G mX10_block Q 150 [.ref a0, .int v1, .int v2, .int v3, .int v4, .int v5, wv6] (r.toList ++ []) σ') := by
  refine Eq.trans (e_aload_n dX10_block_141 rfl) ?_
  refine Eq.trans (e_iload dX10_block_142 rfl) ?_
  refine Eq.trans (e_bipush (x := 6) dX10_block_144 (by decide)) ?_
  refine Eq.trans (e_iconst (x := 0) dX10_block_146 (by decide)) ?_
  exact e_invv dX10_block_147 cl_10_89 (kX10 h0) (by simp) rfl rfl (by simp)
theorem BX10_block_150 {C : gC} {G : gG} {Q : gK} {σ : gM} {a0 : Nat} {v1 : Int32} {v2 : Int32} {v3 : Int32} {v4 : Int32} {v5 : Int32} {wv6 : Value} (h0 : isX10 G a0) : gw C G mX10_block Q 150 [.ref a0, .int v1, .int v2, .int v3, .int v4, .int v5, wv6] [] σ = (g_inv C mX10_sets [.ref a0, .int v5, .int 7, .int (-1)] σ fun r σ' => gw C G mX10_block Q 159 [.ref a0, .int v1, .int v2, .int v3, .int v4, .int v5, wv6] (r.toList ++ []) σ') := by
  refine Eq.trans (e_aload_n dX10_block_150 rfl) ?_
  refine Eq.trans (e_iload dX10_block_151 rfl) ?_
  refine Eq.trans (e_bipush (x := 7) dX10_block_153 (by decide)) ?_
  refine Eq.trans (e_iconst (x := (-1)) dX10_block_155 (by decide)) ?_
  exact e_invv dX10_block_156 cl_10_89 (kX10 h0) (by simp) rfl rfl (by simp)
theorem BX10_block_159 {C : gC} {G : gG} {Q : gK} {σ : gM} {a0 : Nat} {v1 : Int32} {v2 : Int32} {v3 : Int32} {v4 : Int32} {v5 : Int32} {wv6 : Value} (h0 : isX10 G a0) : gw C G mX10_block Q 159 [.ref a0, .int v1, .int v2, .int v3, .int v4, .int v5, wv6] [] σ = gw C G mX10_block Q 162 [.ref a0, .int v1, .int v2, .int v3, .int v4, .int v5, .int 0] [] σ := by
  refine Eq.trans (e_iconst (x := 0) dX10_block_159 (by decide)) ?_
  refine Eq.trans (e_istore dX10_block_160 (Nat.le_of_ble_eq_true rfl)) ?_
  rfl
theorem BX10_block_162 {C : gC} {G : gG} {Q : gK} {σ : gM} {a0 : Nat} {v1 : Int32} {v2 : Int32} {v3 : Int32} {v4 : Int32} {v5 : Int32} {v6 : Int32} (h0 : isX10 G a0) : gw C G mX10_block Q 162 [.ref a0, .int v1, .int v2, .int v3, .int v4, .int v5, .int v6] [] σ = (if v6 < v2 then (vp_in ((330 + v4) + v6) 607 ∧ gw C G mX10_block Q 162 [.ref a0, .int v1, .int v2, .int v3, .int v4, .int v5, .int (v6 + 1)] [] (g_up σ (a0 + 1) ((330 + v4) + v6).toNatClampNeg 0)) else (g_inv C mX10_handleOf [.ref a0, .int v5] σ fun r σ' => gw C G mX10_block Q 195 [.ref a0, .int v1, .int v2, .int v3, .int v4, .int v5, .int v6] (r.toList ++ []) σ')) := by
  refine Eq.trans (e_iload dX10_block_162 rfl) ?_
  refine Eq.trans (e_iload_n dX10_block_164 rfl) ?_
  refine Eq.trans (e_ic_ge (t := 189) dX10_block_165 (by decide)) (g_ite ?_ ?_)
  · refine Eq.trans (e_aload_n dX10_block_168 rfl) ?_
    refine Eq.trans (e_getr (b := a0 + 1) dX10_block_169 fl_10_9 (kX10 h0) (sX10_0 h0)) ?_
    refine Eq.trans (e_sipush (x := 330) dX10_block_172 (by decide)) ?_
    refine Eq.trans (e_iload dX10_block_175 rfl) ?_
    refine Eq.trans (e_iadd dX10_block_177) ?_
    refine Eq.trans (e_iload dX10_block_178 rfl) ?_
    refine Eq.trans (e_iadd dX10_block_180) ?_
    refine Eq.trans (e_iconst (x := 0) dX10_block_181 (by decide)) ?_
    refine Eq.trans (e_iast dX10_block_182 (aX10_0 h0) (nX10_0 h0)) (g_cj ?_)
    refine Eq.trans (e_iinc (y := 1) dX10_block_183 rfl (by decide)) ?_
    refine Eq.trans (e_goto (t := 162) dX10_block_186 (by decide)) ?_
    rfl
  · refine Eq.trans (e_aload_n dX10_block_189 rfl) ?_
    refine Eq.trans (e_iload dX10_block_190 rfl) ?_
    exact e_invv dX10_block_192 cl_10_93 (kX10 h0) (by simp) rfl rfl (by simp)
theorem BX10_block_195 {C : gC} {G : gG} {Q : gK} {σ : gM} {a0 : Nat} {v1 : Int32} {v2 : Int32} {v3 : Int32} {v4 : Int32} {v5 : Int32} {v6 : Int32} {s0 : Int32} (h0 : isX10 G a0) : gw C G mX10_block Q 195 [.ref a0, .int v1, .int v2, .int v3, .int v4, .int v5, .int v6] [.int s0] σ = Q (some (.int s0)) σ := by
  exact e_ireti dX10_block_195 rfl
theorem BX10_isRegion_0 {C : gC} {G : gG} {Q : gK} {σ : gM} {a0 : Nat} {v1 : Int32} (h0 : isX10 G a0) : gw C G mX10_isRegion Q 0 [.ref a0, .int v1] [] σ = (vp_in 570 607 ∧ (g_inv C mX10_in [.int v1, .int 0, .int ((σ (a0 + 1) (570 : Int32).toNatClampNeg) - 1)] σ fun r σ' => gw C G mX10_isRegion Q 15 [.ref a0, .int v1] (r.toList ++ []) σ')) := by
  refine Eq.trans (e_iload_n dX10_isRegion_0 rfl) ?_
  refine Eq.trans (e_iconst (x := 0) dX10_isRegion_1 (by decide)) ?_
  refine Eq.trans (e_aload_n dX10_isRegion_2 rfl) ?_
  refine Eq.trans (e_getr (b := a0 + 1) dX10_isRegion_3 fl_10_9 (kX10 h0) (sX10_0 h0)) ?_
  refine Eq.trans (e_sipush (x := 570) dX10_isRegion_6 (by decide)) ?_
  refine Eq.trans (e_iald dX10_isRegion_9 (aX10_0 h0) (nX10_0 h0)) (g_cj ?_)
  refine Eq.trans (e_iconst (x := 1) dX10_isRegion_10 (by decide)) ?_
  refine Eq.trans (e_isub dX10_isRegion_11) ?_
  exact e_invs dX10_isRegion_12 cl_10_65 (by decide) (by simp) rfl rfl (by simp)
theorem BX10_isRegion_15 {C : gC} {G : gG} {Q : gK} {σ : gM} {a0 : Nat} {v1 : Int32} {s0 : Int32} (h0 : isX10 G a0) : gw C G mX10_isRegion Q 15 [.ref a0, .int v1] [.int s0] σ = ((s0 = 0 ∨ s0 = 1) ∧ Q (some (.int s0)) σ) := by
  exact e_iretz dX10_isRegion_15 rfl
theorem BX10_used_0 {C : gC} {G : gG} {Q : gK} {σ : gM} {a0 : Nat} {v1 : Int32} (h0 : isX10 G a0) : gw C G mX10_used Q 0 [.ref a0, .int v1, .long 0, .long 0] [] σ = gw C G mX10_used Q 4 [.ref a0, .int v1, .int 0, .int 0] [] σ := by
  refine Eq.trans (e_iconst (x := 0) dX10_used_0 (by decide)) ?_
  refine Eq.trans (e_istore_n dX10_used_1 (Nat.le_of_ble_eq_true rfl)) ?_
  refine Eq.trans (e_iconst (x := 0) dX10_used_2 (by decide)) ?_
  refine Eq.trans (e_istore_n dX10_used_3 (Nat.le_of_ble_eq_true rfl)) ?_
  rfl
theorem BX10_used_4 {C : gC} {G : gG} {Q : gK} {σ : gM} {a0 : Nat} {v1 : Int32} {v2 : Int32} {v3 : Int32} (h0 : isX10 G a0) : gw C G mX10_used Q 4 [.ref a0, .int v1, .int v2, .int v3] [] σ = (if v3 < 30 then (g_inv C mX10_at [.ref a0, .int v3, .int 0] σ fun r σ' => gw C G mX10_used Q 17 [.ref a0, .int v1, .int v2, .int v3] (r.toList ++ [.int v2]) σ') else Q (some (.int v2)) σ) := by
  refine Eq.trans (e_iload_n dX10_used_4 rfl) ?_
  refine Eq.trans (e_bipush (x := 30) dX10_used_5 (by decide)) ?_
  refine Eq.trans (e_ic_ge (t := 48) dX10_used_7 (by decide)) (g_ite ?_ ?_)
  · refine Eq.trans (e_iload_n dX10_used_10 rfl) ?_
    refine Eq.trans (e_aload_n dX10_used_11 rfl) ?_
    refine Eq.trans (e_iload_n dX10_used_12 rfl) ?_
    refine Eq.trans (e_iconst (x := 0) dX10_used_13 (by decide)) ?_
    exact e_invv dX10_used_14 cl_10_57 (kX10 h0) (by simp) rfl rfl (by simp)
  · refine Eq.trans (e_iload_n dX10_used_48 rfl) ?_
    exact e_ireti dX10_used_49 rfl
theorem BX10_used_17 {C : gC} {G : gG} {Q : gK} {σ : gM} {a0 : Nat} {v1 : Int32} {v2 : Int32} {v3 : Int32} {s0 : Int32} {s1 : Int32} (h0 : isX10 G a0) : gw C G mX10_used Q 17 [.ref a0, .int v1, .int v2, .int v3] [.int s1, .int s0] σ = (if s1 = 0 then gw C G mX10_used Q 4 [.ref a0, .int v1, .int (s0 + 0), .int (v3 + 1)] [] σ else (g_inv C mX10_at [.ref a0, .int v3, .int 5] σ fun r σ' => gw C G mX10_used Q 26 [.ref a0, .int v1, .int v2, .int v3] (r.toList ++ [.int s0]) σ')) := by
  refine Eq.trans (e_if_eq (t := 39) dX10_used_17 (by decide)) (g_ite ?_ ?_)
  · refine Eq.trans (e_iconst (x := 0) dX10_used_39 (by decide)) ?_
    refine Eq.trans (e_iadd dX10_used_40) ?_
    refine Eq.trans (e_istore_n dX10_used_41 (Nat.le_of_ble_eq_true rfl)) ?_
    refine Eq.trans (e_iinc (y := 1) dX10_used_42 rfl (by decide)) ?_
    refine Eq.trans (e_goto (t := 4) dX10_used_45 (by decide)) ?_
    rfl
  · refine Eq.trans (e_aload_n dX10_used_20 rfl) ?_
    refine Eq.trans (e_iload_n dX10_used_21 rfl) ?_
    refine Eq.trans (e_iconst (x := 5) dX10_used_22 (by decide)) ?_
    exact e_invv dX10_used_23 cl_10_57 (kX10 h0) (by simp) rfl rfl (by simp)
theorem BX10_used_26 {C : gC} {G : gG} {Q : gK} {σ : gM} {a0 : Nat} {v1 : Int32} {v2 : Int32} {v3 : Int32} {s0 : Int32} {s1 : Int32} (h0 : isX10 G a0) : gw C G mX10_used Q 26 [.ref a0, .int v1, .int v2, .int v3] [.int s1, .int s0] σ = (if s1 = v1 then (g_inv C mX10_at [.ref a0, .int v3, .int 3] σ fun r σ' => gw C G mX10_used Q 36 [.ref a0, .int v1, .int v2, .int v3] (r.toList ++ [.int s0]) σ') else gw C G mX10_used Q 4 [.ref a0, .int v1, .int (s0 + 0), .int (v3 + 1)] [] σ) := by
  refine Eq.trans (e_iload_n dX10_used_26 rfl) ?_
  refine Eq.trans (e_ic_ne (t := 39) dX10_used_27 (by decide)) (g_ite ?_ ?_)
  · refine Eq.trans (e_aload_n dX10_used_30 rfl) ?_
    refine Eq.trans (e_iload_n dX10_used_31 rfl) ?_
    refine Eq.trans (e_iconst (x := 3) dX10_used_32 (by decide)) ?_
    exact e_invv dX10_used_33 cl_10_57 (kX10 h0) (by simp) rfl rfl (by simp)
  · refine Eq.trans (e_iconst (x := 0) dX10_used_39 (by decide)) ?_
    refine Eq.trans (e_iadd dX10_used_40) ?_
    refine Eq.trans (e_istore_n dX10_used_41 (Nat.le_of_ble_eq_true rfl)) ?_
    refine Eq.trans (e_iinc (y := 1) dX10_used_42 rfl (by decide)) ?_
    refine Eq.trans (e_goto (t := 4) dX10_used_45 (by decide)) ?_
    rfl
theorem BX10_used_36 {C : gC} {G : gG} {Q : gK} {σ : gM} {a0 : Nat} {v1 : Int32} {v2 : Int32} {v3 : Int32} {s0 : Int32} {s1 : Int32} (h0 : isX10 G a0) : gw C G mX10_used Q 36 [.ref a0, .int v1, .int v2, .int v3] [.int s1, .int s0] σ = gw C G mX10_used Q 4 [.ref a0, .int v1, .int (s0 + s1), .int (v3 + 1)] [] σ := by
  refine Eq.trans (e_goto (t := 40) dX10_used_36 (by decide)) ?_
  refine Eq.trans (e_iadd dX10_used_40) ?_
  refine Eq.trans (e_istore_n dX10_used_41 (Nat.le_of_ble_eq_true rfl)) ?_
  refine Eq.trans (e_iinc (y := 1) dX10_used_42 rfl (by decide)) ?_
  refine Eq.trans (e_goto (t := 4) dX10_used_45 (by decide)) ?_
  rfl
theorem BX10_at_0 {C : gC} {G : gG} {Q : gK} {σ : gM} {a0 : Nat} {v1 : Int32} {v2 : Int32} (h0 : isX10 G a0) : gw C G mX10_at Q 0 [.ref a0, .int v1, .int v2] [] σ = (vp_in ((v1 * 11) + v2) 607 ∧ Q (some (.int (σ (a0 + 1) ((v1 * 11) + v2).toNatClampNeg))) σ) := by
  refine Eq.trans (e_aload_n dX10_at_0 rfl) ?_
  refine Eq.trans (e_getr (b := a0 + 1) dX10_at_1 fl_10_9 (kX10 h0) (sX10_0 h0)) ?_
  refine Eq.trans (e_iload_n dX10_at_4 rfl) ?_
  refine Eq.trans (e_bipush (x := 11) dX10_at_5 (by decide)) ?_
  refine Eq.trans (e_imul dX10_at_7) ?_
  refine Eq.trans (e_iload_n dX10_at_8 rfl) ?_
  refine Eq.trans (e_iadd dX10_at_9) ?_
  refine Eq.trans (e_iald dX10_at_10 (aX10_0 h0) (nX10_0 h0)) (g_cj ?_)
  exact e_ireti dX10_at_11 rfl
theorem BX10_laid_0 {C : gC} {G : gG} {Q : gK} {σ : gM} {a0 : Nat} (h0 : isX10 G a0) : gw C G mX10_laid Q 0 [.ref a0, .long 0, .long 0] [] σ = gw C G mX10_laid Q 2 [.ref a0, .int 0, .long 0] [] σ := by
  refine Eq.trans (e_iconst (x := 0) dX10_laid_0 (by decide)) ?_
  refine Eq.trans (e_istore_n dX10_laid_1 (Nat.le_of_ble_eq_true rfl)) ?_
  rfl
theorem BX10_laid_2 {C : gC} {G : gG} {Q : gK} {σ : gM} {a0 : Nat} {v1 : Int32} {wv2 : Value} (h0 : isX10 G a0) : gw C G mX10_laid Q 2 [.ref a0, .int v1, wv2] [] σ = (if v1 < 240 then (vp_in v1 240 ∧ gw C G mX10_laid Q 2 [.ref a0, .int (v1 + 1), wv2] [] (g_up σ (a0 + 5) v1.toNatClampNeg 101)) else gw C G mX10_laid Q 25 [.ref a0, .int 0, wv2] [] σ) := by
  refine Eq.trans (e_iload_n dX10_laid_2 rfl) ?_
  refine Eq.trans (e_sipush (x := 240) dX10_laid_3 (by decide)) ?_
  refine Eq.trans (e_ic_ge (t := 23) dX10_laid_6 (by decide)) (g_ite ?_ ?_)
  · refine Eq.trans (e_aload_n dX10_laid_9 rfl) ?_
    refine Eq.trans (e_getr (b := a0 + 5) dX10_laid_10 fl_10_22 (kX10 h0) (sX10_5 h0)) ?_
    refine Eq.trans (e_iload_n dX10_laid_13 rfl) ?_
    refine Eq.trans (e_bipush (x := 101) dX10_laid_14 (by decide)) ?_
    refine Eq.trans (e_iast dX10_laid_16 (aX10_5 h0) (nX10_5 h0)) (g_cj ?_)
    refine Eq.trans (e_iinc (y := 1) dX10_laid_17 rfl (by decide)) ?_
    refine Eq.trans (e_goto (t := 2) dX10_laid_20 (by decide)) ?_
    rfl
  · refine Eq.trans (e_iconst (x := 0) dX10_laid_23 (by decide)) ?_
    refine Eq.trans (e_istore_n dX10_laid_24 (Nat.le_of_ble_eq_true rfl)) ?_
    rfl
theorem BX10_laid_25 {C : gC} {G : gG} {Q : gK} {σ : gM} {a0 : Nat} {v1 : Int32} {wv2 : Value} (h0 : isX10 G a0) : gw C G mX10_laid Q 25 [.ref a0, .int v1, wv2] [] σ = (vp_in 570 607 ∧ (if v1 < (σ (a0 + 1) (570 : Int32).toNatClampNeg) then gw C G mX10_laid Q 39 [.ref a0, .int v1, .int 0] [] σ else gw C G mX10_laid Q 86 [.ref a0, .int 0, wv2] [] σ)) := by
  refine Eq.trans (e_iload_n dX10_laid_25 rfl) ?_
  refine Eq.trans (e_aload_n dX10_laid_26 rfl) ?_
  refine Eq.trans (e_getr (b := a0 + 1) dX10_laid_27 fl_10_9 (kX10 h0) (sX10_0 h0)) ?_
  refine Eq.trans (e_sipush (x := 570) dX10_laid_30 (by decide)) ?_
  refine Eq.trans (e_iald dX10_laid_33 (aX10_0 h0) (nX10_0 h0)) (g_cj ?_)
  refine Eq.trans (e_ic_ge (t := 84) dX10_laid_34 (by decide)) (g_ite ?_ ?_)
  · refine Eq.trans (e_iconst (x := 0) dX10_laid_37 (by decide)) ?_
    refine Eq.trans (e_istore_n dX10_laid_38 (Nat.le_of_ble_eq_true rfl)) ?_
    rfl
  · refine Eq.trans (e_iconst (x := 0) dX10_laid_84 (by decide)) ?_
    refine Eq.trans (e_istore_n dX10_laid_85 (Nat.le_of_ble_eq_true rfl)) ?_
    rfl
theorem BX10_laid_39 {C : gC} {G : gG} {Q : gK} {σ : gM} {a0 : Nat} {v1 : Int32} {v2 : Int32} (h0 : isX10 G a0) : gw C G mX10_laid Q 39 [.ref a0, .int v1, .int v2] [] σ = (vp_in (577 + v1) 607 ∧ (if v2 < (σ (a0 + 1) (577 + v1).toNatClampNeg) then (vp_in (571 + v1) 607 ∧ (vp_in ((σ (a0 + 1) (571 + v1).toNatClampNeg) + v2) 240 ∧ gw C G mX10_laid Q 39 [.ref a0, .int v1, .int (v2 + 1)] [] (g_up σ (a0 + 5) ((σ (a0 + 1) (571 + v1).toNatClampNeg) + v2).toNatClampNeg 100))) else gw C G mX10_laid Q 25 [.ref a0, .int (v1 + 1), .int v2] [] σ)) := by
  refine Eq.trans (e_iload_n dX10_laid_39 rfl) ?_
  refine Eq.trans (e_aload_n dX10_laid_40 rfl) ?_
  refine Eq.trans (e_getr (b := a0 + 1) dX10_laid_41 fl_10_9 (kX10 h0) (sX10_0 h0)) ?_
  refine Eq.trans (e_sipush (x := 577) dX10_laid_44 (by decide)) ?_
  refine Eq.trans (e_iload_n dX10_laid_47 rfl) ?_
  refine Eq.trans (e_iadd dX10_laid_48) ?_
  refine Eq.trans (e_iald dX10_laid_49 (aX10_0 h0) (nX10_0 h0)) (g_cj ?_)
  refine Eq.trans (e_ic_ge (t := 78) dX10_laid_50 (by decide)) (g_ite ?_ ?_)
  · refine Eq.trans (e_aload_n dX10_laid_53 rfl) ?_
    refine Eq.trans (e_getr (b := a0 + 5) dX10_laid_54 fl_10_22 (kX10 h0) (sX10_5 h0)) ?_
    refine Eq.trans (e_aload_n dX10_laid_57 rfl) ?_
    refine Eq.trans (e_getr (b := a0 + 1) dX10_laid_58 fl_10_9 (kX10 h0) (sX10_0 h0)) ?_
    refine Eq.trans (e_sipush (x := 571) dX10_laid_61 (by decide)) ?_
    refine Eq.trans (e_iload_n dX10_laid_64 rfl) ?_
    refine Eq.trans (e_iadd dX10_laid_65) ?_
    refine Eq.trans (e_iald dX10_laid_66 (aX10_0 h0) (nX10_0 h0)) (g_cj ?_)
    refine Eq.trans (e_iload_n dX10_laid_67 rfl) ?_
    refine Eq.trans (e_iadd dX10_laid_68) ?_
    refine Eq.trans (e_bipush (x := 100) dX10_laid_69 (by decide)) ?_
    refine Eq.trans (e_iast dX10_laid_71 (aX10_5 h0) (nX10_5 h0)) (g_cj ?_)
    refine Eq.trans (e_iinc (y := 1) dX10_laid_72 rfl (by decide)) ?_
    refine Eq.trans (e_goto (t := 39) dX10_laid_75 (by decide)) ?_
    rfl
  · refine Eq.trans (e_iinc (y := 1) dX10_laid_78 rfl (by decide)) ?_
    refine Eq.trans (e_goto (t := 25) dX10_laid_81 (by decide)) ?_
    rfl
theorem BX10_laid_86 {C : gC} {G : gG} {Q : gK} {σ : gM} {a0 : Nat} {v1 : Int32} {wv2 : Value} (h0 : isX10 G a0) : gw C G mX10_laid Q 86 [.ref a0, .int v1, wv2] [] σ = (if v1 < 30 then gw C G mX10_laid Q 94 [.ref a0, .int v1, .int 0] [] σ else Q none σ) := by
  refine Eq.trans (e_iload_n dX10_laid_86 rfl) ?_
  refine Eq.trans (e_bipush (x := 30) dX10_laid_87 (by decide)) ?_
  refine Eq.trans (e_ic_ge (t := 139) dX10_laid_89 (by decide)) (g_ite ?_ ?_)
  · refine Eq.trans (e_iconst (x := 0) dX10_laid_92 (by decide)) ?_
    refine Eq.trans (e_istore_n dX10_laid_93 (Nat.le_of_ble_eq_true rfl)) ?_
    rfl
  · exact e_ret dX10_laid_139 rfl
theorem BX10_laid_94 {C : gC} {G : gG} {Q : gK} {σ : gM} {a0 : Nat} {v1 : Int32} {v2 : Int32} (h0 : isX10 G a0) : gw C G mX10_laid Q 94 [.ref a0, .int v1, .int v2] [] σ = (g_inv C mX10_at [.ref a0, .int v1, .int 3] σ fun r σ' => gw C G mX10_laid Q 101 [.ref a0, .int v1, .int v2] (r.toList ++ [.int v2]) σ') := by
  refine Eq.trans (e_iload_n dX10_laid_94 rfl) ?_
  refine Eq.trans (e_aload_n dX10_laid_95 rfl) ?_
  refine Eq.trans (e_iload_n dX10_laid_96 rfl) ?_
  refine Eq.trans (e_iconst (x := 3) dX10_laid_97 (by decide)) ?_
  exact e_invv dX10_laid_98 cl_10_57 (kX10 h0) (by simp) rfl rfl (by simp)
theorem BX10_laid_101 {C : gC} {G : gG} {Q : gK} {σ : gM} {a0 : Nat} {v1 : Int32} {v2 : Int32} {s0 : Int32} {s1 : Int32} (h0 : isX10 G a0) : gw C G mX10_laid Q 101 [.ref a0, .int v1, .int v2] [.int s1, .int s0] σ = (if s0 < s1 then (g_inv C mX10_at [.ref a0, .int v1, .int 0] σ fun r σ' => gw C G mX10_laid Q 110 [.ref a0, .int v1, .int v2] (r.toList ++ []) σ') else gw C G mX10_laid Q 86 [.ref a0, .int (v1 + 1), .int v2] [] σ) := by
  refine Eq.trans (e_ic_ge (t := 133) dX10_laid_101 (by decide)) (g_ite ?_ ?_)
  · refine Eq.trans (e_aload_n dX10_laid_104 rfl) ?_
    refine Eq.trans (e_iload_n dX10_laid_105 rfl) ?_
    refine Eq.trans (e_iconst (x := 0) dX10_laid_106 (by decide)) ?_
    exact e_invv dX10_laid_107 cl_10_57 (kX10 h0) (by simp) rfl rfl (by simp)
  · refine Eq.trans (e_iinc (y := 1) dX10_laid_133 rfl (by decide)) ?_
    refine Eq.trans (e_goto (t := 86) dX10_laid_136 (by decide)) ?_
    rfl
theorem BX10_laid_110 {C : gC} {G : gG} {Q : gK} {σ : gM} {a0 : Nat} {v1 : Int32} {v2 : Int32} {s0 : Int32} (h0 : isX10 G a0) : gw C G mX10_laid Q 110 [.ref a0, .int v1, .int v2] [.int s0] σ = (if s0 = 0 then gw C G mX10_laid Q 86 [.ref a0, .int (v1 + 1), .int v2] [] σ else (g_inv C mX10_at [.ref a0, .int v1, .int 2] σ fun r σ' => gw C G mX10_laid Q 123 [.ref a0, .int v1, .int v2] (r.toList ++ [.ref (a0 + 5)]) σ')) := by
  refine Eq.trans (e_if_eq (t := 133) dX10_laid_110 (by decide)) (g_ite ?_ ?_)
  · refine Eq.trans (e_iinc (y := 1) dX10_laid_133 rfl (by decide)) ?_
    refine Eq.trans (e_goto (t := 86) dX10_laid_136 (by decide)) ?_
    rfl
  · refine Eq.trans (e_aload_n dX10_laid_113 rfl) ?_
    refine Eq.trans (e_getr (b := a0 + 5) dX10_laid_114 fl_10_22 (kX10 h0) (sX10_5 h0)) ?_
    refine Eq.trans (e_aload_n dX10_laid_117 rfl) ?_
    refine Eq.trans (e_iload_n dX10_laid_118 rfl) ?_
    refine Eq.trans (e_iconst (x := 2) dX10_laid_119 (by decide)) ?_
    exact e_invv dX10_laid_120 cl_10_57 (kX10 h0) (by simp) rfl rfl (by simp)
theorem BX10_laid_123 {C : gC} {G : gG} {Q : gK} {σ : gM} {a0 : Nat} {v1 : Int32} {v2 : Int32} {s1 : Int32} (h0 : isX10 G a0) : gw C G mX10_laid Q 123 [.ref a0, .int v1, .int v2] [.int s1, .ref (a0 + 5)] σ = (vp_in (s1 + v2) 240 ∧ gw C G mX10_laid Q 94 [.ref a0, .int v1, .int (v2 + 1)] [] (g_up σ (a0 + 5) (s1 + v2).toNatClampNeg v1)) := by
  refine Eq.trans (e_iload_n dX10_laid_123 rfl) ?_
  refine Eq.trans (e_iadd dX10_laid_124) ?_
  refine Eq.trans (e_iload_n dX10_laid_125 rfl) ?_
  refine Eq.trans (e_iast dX10_laid_126 (aX10_5 h0) (nX10_5 h0)) (g_cj ?_)
  refine Eq.trans (e_iinc (y := 1) dX10_laid_127 rfl (by decide)) ?_
  refine Eq.trans (e_goto (t := 94) dX10_laid_130 (by decide)) ?_
  rfl
theorem BX10_placed_0 {C : gC} {G : gG} {Q : gK} {σ : gM} {a0 : Nat} {v1 : Int32} {v2 : Int32} (h0 : isX10 G a0) : gw C G mX10_placed Q 0 [.ref a0, .int v1, .int v2, .long 0, .long 0, .long 0, .long 0] [] σ = (vp_in (583 + v1) 607 ∧ (if (σ (a0 + 1) (583 + v1).toNatClampNeg) = 0 then gw C G mX10_placed Q 25 [.ref a0, .int v1, .int v2, .int 1, .int 0, .int 0, .long 0] [] σ else gw C G mX10_placed Q 25 [.ref a0, .int v1, .int v2, .int 0, .int 0, .int 0, .long 0] [] σ)) := by
  refine Eq.trans (e_aload_n dX10_placed_0 rfl) ?_
  refine Eq.trans (e_getr (b := a0 + 1) dX10_placed_1 fl_10_9 (kX10 h0) (sX10_0 h0)) ?_
  refine Eq.trans (e_sipush (x := 583) dX10_placed_4 (by decide)) ?_
  refine Eq.trans (e_iload_n dX10_placed_7 rfl) ?_
  refine Eq.trans (e_iadd dX10_placed_8) ?_
  refine Eq.trans (e_iald dX10_placed_9 (aX10_0 h0) (nX10_0 h0)) (g_cj ?_)
  refine Eq.trans (e_if_ne (t := 17) dX10_placed_10 (by decide)) (g_ite ?_ ?_)
  · refine Eq.trans (e_iconst (x := 1) dX10_placed_13 (by decide)) ?_
    refine Eq.trans (e_goto (t := 18) dX10_placed_14 (by decide)) ?_
    refine Eq.trans (e_istore_n dX10_placed_18 (Nat.le_of_ble_eq_true rfl)) ?_
    refine Eq.trans (e_iconst (x := 0) dX10_placed_19 (by decide)) ?_
    refine Eq.trans (e_istore dX10_placed_20 (Nat.le_of_ble_eq_true rfl)) ?_
    refine Eq.trans (e_iconst (x := 0) dX10_placed_22 (by decide)) ?_
    refine Eq.trans (e_istore dX10_placed_23 (Nat.le_of_ble_eq_true rfl)) ?_
    rfl
  · refine Eq.trans (e_iconst (x := 0) dX10_placed_17 (by decide)) ?_
    refine Eq.trans (e_istore_n dX10_placed_18 (Nat.le_of_ble_eq_true rfl)) ?_
    refine Eq.trans (e_iconst (x := 0) dX10_placed_19 (by decide)) ?_
    refine Eq.trans (e_istore dX10_placed_20 (Nat.le_of_ble_eq_true rfl)) ?_
    refine Eq.trans (e_iconst (x := 0) dX10_placed_22 (by decide)) ?_
    refine Eq.trans (e_istore dX10_placed_23 (Nat.le_of_ble_eq_true rfl)) ?_
    rfl
theorem BX10_placed_25 {C : gC} {G : gG} {Q : gK} {σ : gM} {a0 : Nat} {v1 : Int32} {v2 : Int32} {v3 : Int32} {v4 : Int32} {v5 : Int32} {wv6 : Value} (h0 : isX10 G a0) : gw C G mX10_placed Q 25 [.ref a0, .int v1, .int v2, .int v3, .int v4, .int v5, wv6] [] σ = (vp_in (577 + v1) 607 ∧ (if v5 < (σ (a0 + 1) (577 + v1).toNatClampNeg) then (if v3 = 0 then (g_inv C mX10_end [.ref a0, .int v1] σ fun r σ' => gw C G mX10_placed Q 65 [.ref a0, .int v1, .int v2, .int v3, .int v4, .int v5, wv6] (r.toList ++ []) σ') else (vp_in (571 + v1) 607 ∧ gw C G mX10_placed Q 70 [.ref a0, .int v1, .int v2, .int v3, .int v4, .int v5, wv6] [.int ((σ (a0 + 1) (571 + v1).toNatClampNeg) + v5)] σ)) else Q (some (.int (-2))) σ)) := by
  refine Eq.trans (e_iload dX10_placed_25 rfl) ?_
  refine Eq.trans (e_aload_n dX10_placed_27 rfl) ?_
  refine Eq.trans (e_getr (b := a0 + 1) dX10_placed_28 fl_10_9 (kX10 h0) (sX10_0 h0)) ?_
  refine Eq.trans (e_sipush (x := 577) dX10_placed_31 (by decide)) ?_
  refine Eq.trans (e_iload_n dX10_placed_34 rfl) ?_
  refine Eq.trans (e_iadd dX10_placed_35) ?_
  refine Eq.trans (e_iald dX10_placed_36 (aX10_0 h0) (nX10_0 h0)) (g_cj ?_)
  refine Eq.trans (e_ic_ge (t := 122) dX10_placed_37 (by decide)) (g_ite ?_ ?_)
  · refine Eq.trans (e_iload_n dX10_placed_40 rfl) ?_
    refine Eq.trans (e_if_eq (t := 60) dX10_placed_41 (by decide)) (g_ite ?_ ?_)
    · refine Eq.trans (e_aload_n dX10_placed_60 rfl) ?_
      refine Eq.trans (e_iload_n dX10_placed_61 rfl) ?_
      exact e_invv dX10_placed_62 cl_10_69 (kX10 h0) (by simp) rfl rfl (by simp)
    · refine Eq.trans (e_aload_n dX10_placed_44 rfl) ?_
      refine Eq.trans (e_getr (b := a0 + 1) dX10_placed_45 fl_10_9 (kX10 h0) (sX10_0 h0)) ?_
      refine Eq.trans (e_sipush (x := 571) dX10_placed_48 (by decide)) ?_
      refine Eq.trans (e_iload_n dX10_placed_51 rfl) ?_
      refine Eq.trans (e_iadd dX10_placed_52) ?_
      refine Eq.trans (e_iald dX10_placed_53 (aX10_0 h0) (nX10_0 h0)) (g_cj ?_)
      refine Eq.trans (e_iload dX10_placed_54 rfl) ?_
      refine Eq.trans (e_iadd dX10_placed_56) ?_
      refine Eq.trans (e_goto (t := 70) dX10_placed_57 (by decide)) ?_
      rfl
  · refine Eq.trans (e_bipush (x := (-2)) dX10_placed_122 (by decide)) ?_
    exact e_ireti dX10_placed_124 rfl
theorem BX10_placed_65 {C : gC} {G : gG} {Q : gK} {σ : gM} {a0 : Nat} {v1 : Int32} {v2 : Int32} {v3 : Int32} {v4 : Int32} {v5 : Int32} {wv6 : Value} {s0 : Int32} (h0 : isX10 G a0) : gw C G mX10_placed Q 65 [.ref a0, .int v1, .int v2, .int v3, .int v4, .int v5, wv6] [.int s0] σ = gw C G mX10_placed Q 70 [.ref a0, .int v1, .int v2, .int v3, .int v4, .int v5, wv6] [.int ((s0 - 1) - v5)] σ := by
  refine Eq.trans (e_iconst (x := 1) dX10_placed_65 (by decide)) ?_
  refine Eq.trans (e_isub dX10_placed_66) ?_
  refine Eq.trans (e_iload dX10_placed_67 rfl) ?_
  refine Eq.trans (e_isub dX10_placed_69) ?_
  rfl
theorem BX10_placed_70 {C : gC} {G : gG} {Q : gK} {σ : gM} {a0 : Nat} {v1 : Int32} {v2 : Int32} {v3 : Int32} {v4 : Int32} {v5 : Int32} {wv6 : Value} {s0 : Int32} (h0 : isX10 G a0) : gw C G mX10_placed Q 70 [.ref a0, .int v1, .int v2, .int v3, .int v4, .int v5, wv6] [.int s0] σ = (vp_in s0 240 ∧ (if (σ (a0 + 5) s0.toNatClampNeg) = 100 then gw C G mX10_placed Q 92 [.ref a0, .int v1, .int v2, .int v3, .int v4, .int v5, .int s0] [.int (v4 + 1)] σ else gw C G mX10_placed Q 92 [.ref a0, .int v1, .int v2, .int v3, .int v4, .int v5, .int s0] [.int 0] σ)) := by
  refine Eq.trans (e_istore dX10_placed_70 (Nat.le_of_ble_eq_true rfl)) ?_
  refine Eq.trans (e_aload_n dX10_placed_72 rfl) ?_
  refine Eq.trans (e_getr (b := a0 + 5) dX10_placed_73 fl_10_22 (kX10 h0) (sX10_5 h0)) ?_
  refine Eq.trans (e_iload dX10_placed_76 rfl) ?_
  refine Eq.trans (e_iald dX10_placed_78 (aX10_5 h0) (nX10_5 h0)) (g_cj ?_)
  refine Eq.trans (e_bipush (x := 100) dX10_placed_79 (by decide)) ?_
  refine Eq.trans (e_ic_ne (t := 91) dX10_placed_81 (by decide)) (g_ite ?_ ?_)
  · refine Eq.trans (e_iload dX10_placed_84 rfl) ?_
    refine Eq.trans (e_iconst (x := 1) dX10_placed_86 (by decide)) ?_
    refine Eq.trans (e_iadd dX10_placed_87) ?_
    refine Eq.trans (e_goto (t := 92) dX10_placed_88 (by decide)) ?_
    rfl
  · refine Eq.trans (e_iconst (x := 0) dX10_placed_91 (by decide)) ?_
    rfl
theorem BX10_placed_92 {C : gC} {G : gG} {Q : gK} {σ : gM} {a0 : Nat} {v1 : Int32} {v2 : Int32} {v3 : Int32} {v4 : Int32} {v5 : Int32} {v6 : Int32} {s0 : Int32} (h0 : isX10 G a0) : gw C G mX10_placed Q 92 [.ref a0, .int v1, .int v2, .int v3, .int v4, .int v5, .int v6] [.int s0] σ = (if s0 = v2 then (if v3 = 0 then Q (some (.int v6)) σ else Q (some (.int ((v6 - v2) + 1))) σ) else gw C G mX10_placed Q 25 [.ref a0, .int v1, .int v2, .int v3, .int s0, .int (v5 + 1), .int v6] [] σ) := by
  refine Eq.trans (e_istore dX10_placed_92 (Nat.le_of_ble_eq_true rfl)) ?_
  refine Eq.trans (e_iload dX10_placed_94 rfl) ?_
  refine Eq.trans (e_iload_n dX10_placed_96 rfl) ?_
  refine Eq.trans (e_ic_ne (t := 116) dX10_placed_97 (by decide)) (g_ite ?_ ?_)
  · refine Eq.trans (e_iload_n dX10_placed_100 rfl) ?_
    refine Eq.trans (e_if_eq (t := 113) dX10_placed_101 (by decide)) (g_ite ?_ ?_)
    · refine Eq.trans (e_iload dX10_placed_113 rfl) ?_
      exact e_ireti dX10_placed_115 rfl
    · refine Eq.trans (e_iload dX10_placed_104 rfl) ?_
      refine Eq.trans (e_iload_n dX10_placed_106 rfl) ?_
      refine Eq.trans (e_isub dX10_placed_107) ?_
      refine Eq.trans (e_iconst (x := 1) dX10_placed_108 (by decide)) ?_
      refine Eq.trans (e_iadd dX10_placed_109) ?_
      refine Eq.trans (e_goto (t := 115) dX10_placed_110 (by decide)) ?_
      exact e_ireti dX10_placed_115 rfl
  · refine Eq.trans (e_iinc (y := 1) dX10_placed_116 rfl (by decide)) ?_
    refine Eq.trans (e_goto (t := 25) dX10_placed_119 (by decide)) ?_
    rfl
theorem BX10_freeSlot_0 {C : gC} {G : gG} {Q : gK} {σ : gM} {a0 : Nat} (h0 : isX10 G a0) : gw C G mX10_freeSlot Q 0 [.ref a0, .long 0] [] σ = gw C G mX10_freeSlot Q 2 [.ref a0, .int 0] [] σ := by
  refine Eq.trans (e_iconst (x := 0) dX10_freeSlot_0 (by decide)) ?_
  refine Eq.trans (e_istore_n dX10_freeSlot_1 (Nat.le_of_ble_eq_true rfl)) ?_
  rfl
theorem BX10_freeSlot_2 {C : gC} {G : gG} {Q : gK} {σ : gM} {a0 : Nat} {v1 : Int32} (h0 : isX10 G a0) : gw C G mX10_freeSlot Q 2 [.ref a0, .int v1] [] σ = (if v1 < 30 then (g_inv C mX10_at [.ref a0, .int v1, .int 0] σ fun r σ' => gw C G mX10_freeSlot Q 14 [.ref a0, .int v1] (r.toList ++ []) σ') else Q (some (.int (-2))) σ) := by
  refine Eq.trans (e_iload_n dX10_freeSlot_2 rfl) ?_
  refine Eq.trans (e_bipush (x := 30) dX10_freeSlot_3 (by decide)) ?_
  refine Eq.trans (e_ic_ge (t := 25) dX10_freeSlot_5 (by decide)) (g_ite ?_ ?_)
  · refine Eq.trans (e_aload_n dX10_freeSlot_8 rfl) ?_
    refine Eq.trans (e_iload_n dX10_freeSlot_9 rfl) ?_
    refine Eq.trans (e_iconst (x := 0) dX10_freeSlot_10 (by decide)) ?_
    exact e_invv dX10_freeSlot_11 cl_10_57 (kX10 h0) (by simp) rfl rfl (by simp)
  · refine Eq.trans (e_bipush (x := (-2)) dX10_freeSlot_25 (by decide)) ?_
    exact e_ireti dX10_freeSlot_27 rfl
theorem BX10_freeSlot_14 {C : gC} {G : gG} {Q : gK} {σ : gM} {a0 : Nat} {v1 : Int32} {s0 : Int32} (h0 : isX10 G a0) : gw C G mX10_freeSlot Q 14 [.ref a0, .int v1] [.int s0] σ = (if s0 = 0 then Q (some (.int v1)) σ else gw C G mX10_freeSlot Q 2 [.ref a0, .int (v1 + 1)] [] σ) := by
  refine Eq.trans (e_if_ne (t := 19) dX10_freeSlot_14 (by decide)) (g_ite ?_ ?_)
  · refine Eq.trans (e_iload_n dX10_freeSlot_17 rfl) ?_
    exact e_ireti dX10_freeSlot_18 rfl
  · refine Eq.trans (e_iinc (y := 1) dX10_freeSlot_19 rfl (by decide)) ?_
    refine Eq.trans (e_goto (t := 2) dX10_freeSlot_22 (by decide)) ?_
    rfl
theorem BX10_sets_0 {C : gC} {G : gG} {Q : gK} {σ : gM} {a0 : Nat} {v1 : Int32} {v2 : Int32} {v3 : Int32} (h0 : isX10 G a0) : gw C G mX10_sets Q 0 [.ref a0, .int v1, .int v2, .int v3] [] σ = (vp_in ((v1 * 11) + v2) 607 ∧ Q none (g_up σ (a0 + 1) ((v1 * 11) + v2).toNatClampNeg v3)) := by
  refine Eq.trans (e_aload_n dX10_sets_0 rfl) ?_
  refine Eq.trans (e_getr (b := a0 + 1) dX10_sets_1 fl_10_9 (kX10 h0) (sX10_0 h0)) ?_
  refine Eq.trans (e_iload_n dX10_sets_4 rfl) ?_
  refine Eq.trans (e_bipush (x := 11) dX10_sets_5 (by decide)) ?_
  refine Eq.trans (e_imul dX10_sets_7) ?_
  refine Eq.trans (e_iload_n dX10_sets_8 rfl) ?_
  refine Eq.trans (e_iadd dX10_sets_9) ?_
  refine Eq.trans (e_iload_n dX10_sets_10 rfl) ?_
  refine Eq.trans (e_iast dX10_sets_11 (aX10_0 h0) (nX10_0 h0)) (g_cj ?_)
  exact e_ret dX10_sets_12 rfl
theorem BX10_handleOf_0 {C : gC} {G : gG} {Q : gK} {σ : gM} {a0 : Nat} {v1 : Int32} (h0 : isX10 G a0) : gw C G mX10_handleOf Q 0 [.ref a0, .int v1] [] σ = (g_inv C mX10_at [.ref a0, .int v1, .int 1] σ fun r σ' => gw C G mX10_handleOf Q 8 [.ref a0, .int v1] (r.toList ++ [.int 100]) σ') := by
  refine Eq.trans (e_bipush (x := 100) dX10_handleOf_0 (by decide)) ?_
  refine Eq.trans (e_aload_n dX10_handleOf_2 rfl) ?_
  refine Eq.trans (e_iload_n dX10_handleOf_3 rfl) ?_
  refine Eq.trans (e_iconst (x := 1) dX10_handleOf_4 (by decide)) ?_
  exact e_invv dX10_handleOf_5 cl_10_57 (kX10 h0) (by simp) rfl rfl (by simp)
theorem BX10_handleOf_8 {C : gC} {G : gG} {Q : gK} {σ : gM} {a0 : Nat} {v1 : Int32} {s0 : Int32} {s1 : Int32} (h0 : isX10 G a0) : gw C G mX10_handleOf Q 8 [.ref a0, .int v1] [.int s1, .int s0] σ = Q (some (.int ((s0 * s1) + v1))) σ := by
  refine Eq.trans (e_imul dX10_handleOf_8) ?_
  refine Eq.trans (e_iload_n dX10_handleOf_9 rfl) ?_
  refine Eq.trans (e_iadd dX10_handleOf_10) ?_
  exact e_ireti dX10_handleOf_11 rfl
theorem BX10_free_0 {C : gC} {G : gG} {Q : gK} {σ : gM} {a0 : Nat} {v1 : Int32} (h0 : isX10 G a0) : gw C G mX10_free Q 0 [.ref a0, .int v1, .long 0] [] σ = (g_inv C mX10_good [.ref a0, .int v1] σ fun r σ' => gw C G mX10_free Q 5 [.ref a0, .int v1, .long 0] (r.toList ++ []) σ') := by
  refine Eq.trans (e_aload_n dX10_free_0 rfl) ?_
  refine Eq.trans (e_iload_n dX10_free_1 rfl) ?_
  exact e_invv dX10_free_2 cl_10_96 (kX10 h0) (by simp) rfl rfl (by simp)
theorem BX10_free_5 {C : gC} {G : gG} {Q : gK} {σ : gM} {a0 : Nat} {v1 : Int32} {wv2 : Value} {s0 : Int32} (h0 : isX10 G a0) : gw C G mX10_free Q 5 [.ref a0, .int v1, wv2] [.int s0] σ = (if s0 < 0 then Q (some (.int (-4))) σ else (g_inv C mX10_at [.ref a0, .int s0, .int 6] σ fun r σ' => gw C G mX10_free Q 20 [.ref a0, .int v1, .int s0] (r.toList ++ []) σ')) := by
  refine Eq.trans (e_istore_n dX10_free_5 (Nat.le_of_ble_eq_true rfl)) ?_
  refine Eq.trans (e_iload_n dX10_free_6 rfl) ?_
  refine Eq.trans (e_if_ge (t := 13) dX10_free_7 (by decide)) (g_ite ?_ ?_)
  · refine Eq.trans (e_bipush (x := (-4)) dX10_free_10 (by decide)) ?_
    exact e_ireti dX10_free_12 rfl
  · refine Eq.trans (e_aload_n dX10_free_13 rfl) ?_
    refine Eq.trans (e_iload_n dX10_free_14 rfl) ?_
    refine Eq.trans (e_bipush (x := 6) dX10_free_15 (by decide)) ?_
    exact e_invv dX10_free_17 cl_10_57 (kX10 h0) (by simp) rfl rfl (by simp)
theorem BX10_free_20 {C : gC} {G : gG} {Q : gK} {σ : gM} {a0 : Nat} {v1 : Int32} {v2 : Int32} {s0 : Int32} (h0 : isX10 G a0) : gw C G mX10_free Q 20 [.ref a0, .int v1, .int v2] [.int s0] σ = (if 0 < s0 then Q (some (.int (-5))) σ else (g_inv C mX10_sets [.ref a0, .int v2, .int 0, .int 2] σ fun r σ' => gw C G mX10_free Q 33 [.ref a0, .int v1, .int v2] (r.toList ++ []) σ')) := by
  refine Eq.trans (e_if_le (t := 26) dX10_free_20 (by decide)) (g_ite ?_ ?_)
  · refine Eq.trans (e_bipush (x := (-5)) dX10_free_23 (by decide)) ?_
    exact e_ireti dX10_free_25 rfl
  · refine Eq.trans (e_aload_n dX10_free_26 rfl) ?_
    refine Eq.trans (e_iload_n dX10_free_27 rfl) ?_
    refine Eq.trans (e_iconst (x := 0) dX10_free_28 (by decide)) ?_
    refine Eq.trans (e_iconst (x := 2) dX10_free_29 (by decide)) ?_
    exact e_invv dX10_free_30 cl_10_89 (kX10 h0) (by simp) rfl rfl (by simp)
theorem BX10_free_33 {C : gC} {G : gG} {Q : gK} {σ : gM} {a0 : Nat} {v1 : Int32} {v2 : Int32} (h0 : isX10 G a0) : gw C G mX10_free Q 33 [.ref a0, .int v1, .int v2] [] σ = (g_inv C mX10_sets [.ref a0, .int v2, .int 7, .int (-1)] σ fun r σ' => gw C G mX10_free Q 41 [.ref a0, .int v1, .int v2] (r.toList ++ []) σ') := by
  refine Eq.trans (e_aload_n dX10_free_33 rfl) ?_
  refine Eq.trans (e_iload_n dX10_free_34 rfl) ?_
  refine Eq.trans (e_bipush (x := 7) dX10_free_35 (by decide)) ?_
  refine Eq.trans (e_iconst (x := (-1)) dX10_free_37 (by decide)) ?_
  exact e_invv dX10_free_38 cl_10_89 (kX10 h0) (by simp) rfl rfl (by simp)
theorem BX10_free_41 {C : gC} {G : gG} {Q : gK} {σ : gM} {a0 : Nat} {v1 : Int32} {v2 : Int32} (h0 : isX10 G a0) : gw C G mX10_free Q 41 [.ref a0, .int v1, .int v2] [] σ = (vp_in 605 607 ∧ (g_inv C mX10_sets [.ref a0, .int v2, .int 9, .int (σ (a0 + 1) (605 : Int32).toNatClampNeg)] σ fun r σ' => gw C G mX10_free Q 56 [.ref a0, .int v1, .int v2] (r.toList ++ []) σ')) := by
  refine Eq.trans (e_aload_n dX10_free_41 rfl) ?_
  refine Eq.trans (e_iload_n dX10_free_42 rfl) ?_
  refine Eq.trans (e_bipush (x := 9) dX10_free_43 (by decide)) ?_
  refine Eq.trans (e_aload_n dX10_free_45 rfl) ?_
  refine Eq.trans (e_getr (b := a0 + 1) dX10_free_46 fl_10_9 (kX10 h0) (sX10_0 h0)) ?_
  refine Eq.trans (e_sipush (x := 605) dX10_free_49 (by decide)) ?_
  refine Eq.trans (e_iald dX10_free_52 (aX10_0 h0) (nX10_0 h0)) (g_cj ?_)
  exact e_invv dX10_free_53 cl_10_89 (kX10 h0) (by simp) rfl rfl (by simp)
theorem BX10_free_56 {C : gC} {G : gG} {Q : gK} {σ : gM} {a0 : Nat} {v1 : Int32} {v2 : Int32} (h0 : isX10 G a0) : gw C G mX10_free Q 56 [.ref a0, .int v1, .int v2] [] σ = (vp_in 606 607 ∧ (vp_in 606 607 ∧ gw C G mX10_free Q 73 [.ref a0, .int v1, .int v2] [.int (σ (a0 + 1) (606 : Int32).toNatClampNeg), .int 10, .int v2, .ref a0] (g_up σ (a0 + 1) (606 : Int32).toNatClampNeg ((σ (a0 + 1) (606 : Int32).toNatClampNeg) + 1)))) := by
  refine Eq.trans (e_aload_n dX10_free_56 rfl) ?_
  refine Eq.trans (e_iload_n dX10_free_57 rfl) ?_
  refine Eq.trans (e_bipush (x := 10) dX10_free_58 (by decide)) ?_
  refine Eq.trans (e_aload_n dX10_free_60 rfl) ?_
  refine Eq.trans (e_getr (b := a0 + 1) dX10_free_61 fl_10_9 (kX10 h0) (sX10_0 h0)) ?_
  refine Eq.trans (e_sipush (x := 606) dX10_free_64 (by decide)) ?_
  refine Eq.trans (e_dup2 dX10_free_67) ?_
  refine Eq.trans (e_iald dX10_free_68 (aX10_0 h0) (nX10_0 h0)) (g_cj ?_)
  refine Eq.trans (e_dup_x2 dX10_free_69) ?_
  refine Eq.trans (e_iconst (x := 1) dX10_free_70 (by decide)) ?_
  refine Eq.trans (e_iadd dX10_free_71) ?_
  refine Eq.trans (e_iast dX10_free_72 (aX10_0 h0) (nX10_0 h0)) (g_cj ?_)
  rfl
theorem BX10_free_73 {C : gC} {G : gG} {Q : gK} {σ : gM} {a0 : Nat} {v1 : Int32} {v2 : Int32} {s1 : Int32} {s2 : Int32} {s3 : Int32} (h0 : isX10 G a0) : gw C G mX10_free Q 73 [.ref a0, .int v1, .int v2] [.int s3, .int s2, .int s1, .ref a0] σ = (g_inv C mX10_sets [.ref a0, .int s1, .int s2, .int s3] σ fun r σ' => gw C G mX10_free Q 76 [.ref a0, .int v1, .int v2] (r.toList ++ []) σ') := by
  exact e_invv dX10_free_73 cl_10_89 (kX10 h0) (by simp) rfl rfl (by simp)
theorem BX10_free_76 {C : gC} {G : gG} {Q : gK} {σ : gM} {a0 : Nat} {v1 : Int32} {v2 : Int32} (h0 : isX10 G a0) : gw C G mX10_free Q 76 [.ref a0, .int v1, .int v2] [] σ = (vp_in 605 607 ∧ Q (some (.int (σ (a0 + 1) (605 : Int32).toNatClampNeg))) σ) := by
  refine Eq.trans (e_aload_n dX10_free_76 rfl) ?_
  refine Eq.trans (e_getr (b := a0 + 1) dX10_free_77 fl_10_9 (kX10 h0) (sX10_0 h0)) ?_
  refine Eq.trans (e_sipush (x := 605) dX10_free_80 (by decide)) ?_
  refine Eq.trans (e_iald dX10_free_83 (aX10_0 h0) (nX10_0 h0)) (g_cj ?_)
  exact e_ireti dX10_free_84 rfl
theorem BX10_good_0 {C : gC} {G : gG} {Q : gK} {σ : gM} {a0 : Nat} {v1 : Int32} (h0 : isX10 G a0) : gw C G mX10_good Q 0 [.ref a0, .int v1, .long 0] [] σ = (if v1 < 0 then gw C G mX10_good Q 13 [.ref a0, .int v1, .long 0] [.int 30] σ else gw C G mX10_good Q 13 [.ref a0, .int v1, .long 0] [.int (v1 - v1 / 100 * 100)] σ) := by
  refine Eq.trans (e_iload_n dX10_good_0 rfl) ?_
  refine Eq.trans (e_if_ge (t := 9) dX10_good_1 (by decide)) (g_ite ?_ ?_)
  · refine Eq.trans (e_bipush (x := 30) dX10_good_4 (by decide)) ?_
    refine Eq.trans (e_goto (t := 13) dX10_good_6 (by decide)) ?_
    rfl
  · refine Eq.trans (e_iload_n dX10_good_9 rfl) ?_
    refine Eq.trans (e_bipush (x := 100) dX10_good_10 (by decide)) ?_
    refine Eq.trans (e_irem dX10_good_12 (by decide)) ?_
    rfl
theorem BX10_good_13 {C : gC} {G : gG} {Q : gK} {σ : gM} {a0 : Nat} {v1 : Int32} {wv2 : Value} {s0 : Int32} (h0 : isX10 G a0) : gw C G mX10_good Q 13 [.ref a0, .int v1, wv2] [.int s0] σ = (if s0 < 30 then (g_inv C mX10_isLive [.ref a0, .int s0] σ fun r σ' => gw C G mX10_good Q 25 [.ref a0, .int v1, .int s0] (r.toList ++ []) σ') else Q (some (.int (-2))) σ) := by
  refine Eq.trans (e_istore_n dX10_good_13 (Nat.le_of_ble_eq_true rfl)) ?_
  refine Eq.trans (e_iload_n dX10_good_14 rfl) ?_
  refine Eq.trans (e_bipush (x := 30) dX10_good_15 (by decide)) ?_
  refine Eq.trans (e_ic_ge (t := 45) dX10_good_17 (by decide)) (g_ite ?_ ?_)
  · refine Eq.trans (e_aload_n dX10_good_20 rfl) ?_
    refine Eq.trans (e_iload_n dX10_good_21 rfl) ?_
    exact e_invv dX10_good_22 cl_10_61 (kX10 h0) (by simp) rfl rfl (by simp)
  · refine Eq.trans (e_bipush (x := (-2)) dX10_good_45 (by decide)) ?_
    exact e_ireti dX10_good_47 rfl
theorem BX10_good_25 {C : gC} {G : gG} {Q : gK} {σ : gM} {a0 : Nat} {v1 : Int32} {v2 : Int32} {s0 : Int32} (h0 : isX10 G a0) : gw C G mX10_good Q 25 [.ref a0, .int v1, .int v2] [.int s0] σ = (if s0 = 0 then Q (some (.int (-2))) σ else (g_inv C mX10_at [.ref a0, .int v2, .int 1] σ fun r σ' => gw C G mX10_good Q 34 [.ref a0, .int v1, .int v2] (r.toList ++ []) σ')) := by
  refine Eq.trans (e_if_eq (t := 45) dX10_good_25 (by decide)) (g_ite ?_ ?_)
  · refine Eq.trans (e_bipush (x := (-2)) dX10_good_45 (by decide)) ?_
    exact e_ireti dX10_good_47 rfl
  · refine Eq.trans (e_aload_n dX10_good_28 rfl) ?_
    refine Eq.trans (e_iload_n dX10_good_29 rfl) ?_
    refine Eq.trans (e_iconst (x := 1) dX10_good_30 (by decide)) ?_
    exact e_invv dX10_good_31 cl_10_57 (kX10 h0) (by simp) rfl rfl (by simp)
theorem BX10_good_34 {C : gC} {G : gG} {Q : gK} {σ : gM} {a0 : Nat} {v1 : Int32} {v2 : Int32} {s0 : Int32} (h0 : isX10 G a0) : gw C G mX10_good Q 34 [.ref a0, .int v1, .int v2] [.int s0] σ = (if s0 = (v1 / 100) then Q (some (.int v2)) σ else Q (some (.int (-2))) σ) := by
  refine Eq.trans (e_iload_n dX10_good_34 rfl) ?_
  refine Eq.trans (e_bipush (x := 100) dX10_good_35 (by decide)) ?_
  refine Eq.trans (e_idiv dX10_good_37 (by decide)) ?_
  refine Eq.trans (e_ic_ne (t := 45) dX10_good_38 (by decide)) (g_ite ?_ ?_)
  · refine Eq.trans (e_iload_n dX10_good_41 rfl) ?_
    refine Eq.trans (e_goto (t := 47) dX10_good_42 (by decide)) ?_
    exact e_ireti dX10_good_47 rfl
  · refine Eq.trans (e_bipush (x := (-2)) dX10_good_45 (by decide)) ?_
    exact e_ireti dX10_good_47 rfl
theorem BX10_isLive_0 {C : gC} {G : gG} {Q : gK} {σ : gM} {a0 : Nat} {v1 : Int32} (h0 : isX10 G a0) : gw C G mX10_isLive Q 0 [.ref a0, .int v1] [] σ = (g_inv C mX10_at [.ref a0, .int v1, .int 0] σ fun r σ' => gw C G mX10_isLive Q 6 [.ref a0, .int v1] (r.toList ++ []) σ') := by
  refine Eq.trans (e_aload_n dX10_isLive_0 rfl) ?_
  refine Eq.trans (e_iload_n dX10_isLive_1 rfl) ?_
  refine Eq.trans (e_iconst (x := 0) dX10_isLive_2 (by decide)) ?_
  exact e_invv dX10_isLive_3 cl_10_57 (kX10 h0) (by simp) rfl rfl (by simp)
theorem BX10_isLive_6 {C : gC} {G : gG} {Q : gK} {σ : gM} {a0 : Nat} {v1 : Int32} {s0 : Int32} (h0 : isX10 G a0) : gw C G mX10_isLive Q 6 [.ref a0, .int v1] [.int s0] σ = (if s0 = 1 then Q (some (.int 1)) σ else Q (some (.int 0)) σ) := by
  refine Eq.trans (e_iconst (x := 1) dX10_isLive_6 (by decide)) ?_
  refine Eq.trans (e_ic_ne (t := 14) dX10_isLive_7 (by decide)) (g_ite ?_ ?_)
  · refine Eq.trans (e_iconst (x := 1) dX10_isLive_10 (by decide)) ?_
    refine Eq.trans (e_goto (t := 15) dX10_isLive_11 (by decide)) ?_
    exact Eq.trans (e_iretz dX10_isLive_15 rfl) (g_and (by decide))
  · refine Eq.trans (e_iconst (x := 0) dX10_isLive_14 (by decide)) ?_
    exact Eq.trans (e_iretz dX10_isLive_15 rfl) (g_and (by decide))
theorem BX10_pin_0 {C : gC} {G : gG} {Q : gK} {σ : gM} {a0 : Nat} {v1 : Int32} {v2 : Int32} (h0 : isX10 G a0) : gw C G mX10_pin Q 0 [.ref a0, .int v1, .int v2, .long 0] [] σ = (if v2 = 1 then gw C G mX10_pin Q 12 [.ref a0, .int v1, .int v2, .long 0] [] σ else (if v2 = (-1) then gw C G mX10_pin Q 12 [.ref a0, .int v1, .int v2, .long 0] [] σ else Q (some (.int (-1))) σ)) := by
  refine Eq.trans (e_iload_n dX10_pin_0 rfl) ?_
  refine Eq.trans (e_iconst (x := 1) dX10_pin_1 (by decide)) ?_
  refine Eq.trans (e_ic_eq (t := 12) dX10_pin_2 (by decide)) (g_ite ?_ ?_)
  · rfl
  · refine Eq.trans (e_iload_n dX10_pin_5 rfl) ?_
    refine Eq.trans (e_iconst (x := (-1)) dX10_pin_6 (by decide)) ?_
    refine Eq.trans (e_ic_eq (t := 12) dX10_pin_7 (by decide)) (g_ite ?_ ?_)
    · rfl
    · refine Eq.trans (e_iconst (x := (-1)) dX10_pin_10 (by decide)) ?_
      exact e_ireti dX10_pin_11 rfl
theorem BX10_pin_12 {C : gC} {G : gG} {Q : gK} {σ : gM} {a0 : Nat} {v1 : Int32} {v2 : Int32} {wv3 : Value} (h0 : isX10 G a0) : gw C G mX10_pin Q 12 [.ref a0, .int v1, .int v2, wv3] [] σ = (g_inv C mX10_good [.ref a0, .int v1] σ fun r σ' => gw C G mX10_pin Q 17 [.ref a0, .int v1, .int v2, wv3] (r.toList ++ []) σ') := by
  refine Eq.trans (e_aload_n dX10_pin_12 rfl) ?_
  refine Eq.trans (e_iload_n dX10_pin_13 rfl) ?_
  exact e_invv dX10_pin_14 cl_10_96 (kX10 h0) (by simp) rfl rfl (by simp)
theorem BX10_pin_17 {C : gC} {G : gG} {Q : gK} {σ : gM} {a0 : Nat} {v1 : Int32} {v2 : Int32} {wv3 : Value} {s0 : Int32} (h0 : isX10 G a0) : gw C G mX10_pin Q 17 [.ref a0, .int v1, .int v2, wv3] [.int s0] σ = (if s0 < 0 then Q (some (.int (-4))) σ else (g_inv C mX10_at [.ref a0, .int s0, .int 6] σ fun r σ' => gw C G mX10_pin Q 32 [.ref a0, .int v1, .int v2, .int s0] (r.toList ++ []) σ')) := by
  refine Eq.trans (e_istore_n dX10_pin_17 (Nat.le_of_ble_eq_true rfl)) ?_
  refine Eq.trans (e_iload_n dX10_pin_18 rfl) ?_
  refine Eq.trans (e_if_ge (t := 25) dX10_pin_19 (by decide)) (g_ite ?_ ?_)
  · refine Eq.trans (e_bipush (x := (-4)) dX10_pin_22 (by decide)) ?_
    exact e_ireti dX10_pin_24 rfl
  · refine Eq.trans (e_aload_n dX10_pin_25 rfl) ?_
    refine Eq.trans (e_iload_n dX10_pin_26 rfl) ?_
    refine Eq.trans (e_bipush (x := 6) dX10_pin_27 (by decide)) ?_
    exact e_invv dX10_pin_29 cl_10_57 (kX10 h0) (by simp) rfl rfl (by simp)
theorem BX10_pin_32 {C : gC} {G : gG} {Q : gK} {σ : gM} {a0 : Nat} {v1 : Int32} {v2 : Int32} {v3 : Int32} {s0 : Int32} (h0 : isX10 G a0) : gw C G mX10_pin Q 32 [.ref a0, .int v1, .int v2, .int v3] [.int s0] σ = (g_inv C mX10_in [.int (s0 + v2), .int 0, .int 9] σ fun r σ' => gw C G mX10_pin Q 40 [.ref a0, .int v1, .int v2, .int v3] (r.toList ++ []) σ') := by
  refine Eq.trans (e_iload_n dX10_pin_32 rfl) ?_
  refine Eq.trans (e_iadd dX10_pin_33) ?_
  refine Eq.trans (e_iconst (x := 0) dX10_pin_34 (by decide)) ?_
  refine Eq.trans (e_bipush (x := 9) dX10_pin_35 (by decide)) ?_
  exact e_invs dX10_pin_37 cl_10_65 (by decide) (by simp) rfl rfl (by simp)
theorem BX10_pin_40 {C : gC} {G : gG} {Q : gK} {σ : gM} {a0 : Nat} {v1 : Int32} {v2 : Int32} {v3 : Int32} {s0 : Int32} (h0 : isX10 G a0) : gw C G mX10_pin Q 40 [.ref a0, .int v1, .int v2, .int v3] [.int s0] σ = (if s0 = 0 then Q (some (.int (-5))) σ else (g_inv C mX10_at [.ref a0, .int v3, .int 6] σ fun r σ' => gw C G mX10_pin Q 57 [.ref a0, .int v1, .int v2, .int v3] (r.toList ++ [.int 6, .int v3, .ref a0]) σ')) := by
  refine Eq.trans (e_if_ne (t := 46) dX10_pin_40 (by decide)) (g_ite ?_ ?_)
  · refine Eq.trans (e_bipush (x := (-5)) dX10_pin_43 (by decide)) ?_
    exact e_ireti dX10_pin_45 rfl
  · refine Eq.trans (e_aload_n dX10_pin_46 rfl) ?_
    refine Eq.trans (e_iload_n dX10_pin_47 rfl) ?_
    refine Eq.trans (e_bipush (x := 6) dX10_pin_48 (by decide)) ?_
    refine Eq.trans (e_aload_n dX10_pin_50 rfl) ?_
    refine Eq.trans (e_iload_n dX10_pin_51 rfl) ?_
    refine Eq.trans (e_bipush (x := 6) dX10_pin_52 (by decide)) ?_
    exact e_invv dX10_pin_54 cl_10_57 (kX10 h0) (by simp) rfl rfl (by simp)
theorem BX10_pin_57 {C : gC} {G : gG} {Q : gK} {σ : gM} {a0 : Nat} {v1 : Int32} {v2 : Int32} {v3 : Int32} {s1 : Int32} {s2 : Int32} {s3 : Int32} (h0 : isX10 G a0) : gw C G mX10_pin Q 57 [.ref a0, .int v1, .int v2, .int v3] [.int s3, .int s2, .int s1, .ref a0] σ = (g_inv C mX10_sets [.ref a0, .int s1, .int s2, .int (s3 + v2)] σ fun r σ' => gw C G mX10_pin Q 62 [.ref a0, .int v1, .int v2, .int v3] (r.toList ++ []) σ') := by
  refine Eq.trans (e_iload_n dX10_pin_57 rfl) ?_
  refine Eq.trans (e_iadd dX10_pin_58) ?_
  exact e_invv dX10_pin_59 cl_10_89 (kX10 h0) (by simp) rfl rfl (by simp)
theorem BX10_pin_62 {C : gC} {G : gG} {Q : gK} {σ : gM} {a0 : Nat} {v1 : Int32} {v2 : Int32} {v3 : Int32} (h0 : isX10 G a0) : gw C G mX10_pin Q 62 [.ref a0, .int v1, .int v2, .int v3] [] σ = (g_inv C mX10_at [.ref a0, .int v3, .int 6] σ fun r σ' => gw C G mX10_pin Q 69 [.ref a0, .int v1, .int v2, .int v3] (r.toList ++ []) σ') := by
  refine Eq.trans (e_aload_n dX10_pin_62 rfl) ?_
  refine Eq.trans (e_iload_n dX10_pin_63 rfl) ?_
  refine Eq.trans (e_bipush (x := 6) dX10_pin_64 (by decide)) ?_
  exact e_invv dX10_pin_66 cl_10_57 (kX10 h0) (by simp) rfl rfl (by simp)
theorem BX10_pin_69 {C : gC} {G : gG} {Q : gK} {σ : gM} {a0 : Nat} {v1 : Int32} {v2 : Int32} {v3 : Int32} {s0 : Int32} (h0 : isX10 G a0) : gw C G mX10_pin Q 69 [.ref a0, .int v1, .int v2, .int v3] [.int s0] σ = Q (some (.int s0)) σ := by
  exact e_ireti dX10_pin_69 rfl
theorem BX10_grow_0 {C : gC} {G : gG} {Q : gK} {σ : gM} {a0 : Nat} {v1 : Int32} {v2 : Int32} (h0 : isX10 G a0) : gw C G mX10_grow Q 0 [.ref a0, .int v1, .int v2, .long 0, .long 0, .long 0, .long 0, .long 0] [] σ = (g_inv C mX10_in [.int v2, .int 1, .int 39] σ fun r σ' => gw C G mX10_grow Q 7 [.ref a0, .int v1, .int v2, .long 0, .long 0, .long 0, .long 0, .long 0] (r.toList ++ []) σ') := by
  refine Eq.trans (e_iload_n dX10_grow_0 rfl) ?_
  refine Eq.trans (e_iconst (x := 1) dX10_grow_1 (by decide)) ?_
  refine Eq.trans (e_bipush (x := 39) dX10_grow_2 (by decide)) ?_
  exact e_invs dX10_grow_4 cl_10_65 (by decide) (by simp) rfl rfl (by simp)
theorem BX10_grow_7 {C : gC} {G : gG} {Q : gK} {σ : gM} {a0 : Nat} {v1 : Int32} {v2 : Int32} {wv3 : Value} {wv4 : Value} {wv5 : Value} {wv6 : Value} {wv7 : Value} {s0 : Int32} (h0 : isX10 G a0) : gw C G mX10_grow Q 7 [.ref a0, .int v1, .int v2, wv3, wv4, wv5, wv6, wv7] [.int s0] σ = (if s0 = 0 then Q (some (.int (-1))) σ else (g_inv C mX10_good [.ref a0, .int v1] σ fun r σ' => gw C G mX10_grow Q 17 [.ref a0, .int v1, .int v2, wv3, wv4, wv5, wv6, wv7] (r.toList ++ []) σ')) := by
  refine Eq.trans (e_if_ne (t := 12) dX10_grow_7 (by decide)) (g_ite ?_ ?_)
  · refine Eq.trans (e_iconst (x := (-1)) dX10_grow_10 (by decide)) ?_
    exact e_ireti dX10_grow_11 rfl
  · refine Eq.trans (e_aload_n dX10_grow_12 rfl) ?_
    refine Eq.trans (e_iload_n dX10_grow_13 rfl) ?_
    exact e_invv dX10_grow_14 cl_10_96 (kX10 h0) (by simp) rfl rfl (by simp)
theorem BX10_grow_17 {C : gC} {G : gG} {Q : gK} {σ : gM} {a0 : Nat} {v1 : Int32} {v2 : Int32} {wv3 : Value} {wv4 : Value} {wv5 : Value} {wv6 : Value} {wv7 : Value} {s0 : Int32} (h0 : isX10 G a0) : gw C G mX10_grow Q 17 [.ref a0, .int v1, .int v2, wv3, wv4, wv5, wv6, wv7] [.int s0] σ = (if s0 < 0 then Q (some (.int (-4))) σ else (g_inv C mX10_at [.ref a0, .int s0, .int 6] σ fun r σ' => gw C G mX10_grow Q 32 [.ref a0, .int v1, .int v2, .int s0, wv4, wv5, wv6, wv7] (r.toList ++ []) σ')) := by
  refine Eq.trans (e_istore_n dX10_grow_17 (Nat.le_of_ble_eq_true rfl)) ?_
  refine Eq.trans (e_iload_n dX10_grow_18 rfl) ?_
  refine Eq.trans (e_if_ge (t := 25) dX10_grow_19 (by decide)) (g_ite ?_ ?_)
  · refine Eq.trans (e_bipush (x := (-4)) dX10_grow_22 (by decide)) ?_
    exact e_ireti dX10_grow_24 rfl
  · refine Eq.trans (e_aload_n dX10_grow_25 rfl) ?_
    refine Eq.trans (e_iload_n dX10_grow_26 rfl) ?_
    refine Eq.trans (e_bipush (x := 6) dX10_grow_27 (by decide)) ?_
    exact e_invv dX10_grow_29 cl_10_57 (kX10 h0) (by simp) rfl rfl (by simp)
theorem BX10_grow_32 {C : gC} {G : gG} {Q : gK} {σ : gM} {a0 : Nat} {v1 : Int32} {v2 : Int32} {v3 : Int32} {wv4 : Value} {wv5 : Value} {wv6 : Value} {wv7 : Value} {s0 : Int32} (h0 : isX10 G a0) : gw C G mX10_grow Q 32 [.ref a0, .int v1, .int v2, .int v3, wv4, wv5, wv6, wv7] [.int s0] σ = (if 0 < s0 then Q (some (.int (-5))) σ else (g_inv C mX10_at [.ref a0, .int v3, .int 5] σ fun r σ' => gw C G mX10_grow Q 45 [.ref a0, .int v1, .int v2, .int v3, wv4, wv5, wv6, wv7] (r.toList ++ [.ref a0]) σ')) := by
  refine Eq.trans (e_if_le (t := 38) dX10_grow_32 (by decide)) (g_ite ?_ ?_)
  · refine Eq.trans (e_bipush (x := (-5)) dX10_grow_35 (by decide)) ?_
    exact e_ireti dX10_grow_37 rfl
  · refine Eq.trans (e_aload_n dX10_grow_38 rfl) ?_
    refine Eq.trans (e_aload_n dX10_grow_39 rfl) ?_
    refine Eq.trans (e_iload_n dX10_grow_40 rfl) ?_
    refine Eq.trans (e_iconst (x := 5) dX10_grow_41 (by decide)) ?_
    exact e_invv dX10_grow_42 cl_10_57 (kX10 h0) (by simp) rfl rfl (by simp)
theorem BX10_grow_45 {C : gC} {G : gG} {Q : gK} {σ : gM} {a0 : Nat} {v1 : Int32} {v2 : Int32} {v3 : Int32} {wv4 : Value} {wv5 : Value} {wv6 : Value} {wv7 : Value} {s1 : Int32} (h0 : isX10 G a0) : gw C G mX10_grow Q 45 [.ref a0, .int v1, .int v2, .int v3, wv4, wv5, wv6, wv7] [.int s1, .ref a0] σ = (g_inv C mX10_used [.ref a0, .int s1] σ fun r σ' => gw C G mX10_grow Q 48 [.ref a0, .int v1, .int v2, .int v3, wv4, wv5, wv6, wv7] (r.toList ++ []) σ') := by
  exact e_invv dX10_grow_45 cl_10_76 (kX10 h0) (by simp) rfl rfl (by simp)
theorem BX10_grow_48 {C : gC} {G : gG} {Q : gK} {σ : gM} {a0 : Nat} {v1 : Int32} {v2 : Int32} {v3 : Int32} {wv4 : Value} {wv5 : Value} {wv6 : Value} {wv7 : Value} {s0 : Int32} (h0 : isX10 G a0) : gw C G mX10_grow Q 48 [.ref a0, .int v1, .int v2, .int v3, wv4, wv5, wv6, wv7] [.int s0] σ = (g_inv C mX10_at [.ref a0, .int v3, .int 5] σ fun r σ' => gw C G mX10_grow Q 63 [.ref a0, .int v1, .int v2, .int v3, wv4, wv5, wv6, wv7] (r.toList ++ [.int 589, .ref (a0 + 1), .int (s0 + v2)]) σ') := by
  refine Eq.trans (e_iload_n dX10_grow_48 rfl) ?_
  refine Eq.trans (e_iadd dX10_grow_49) ?_
  refine Eq.trans (e_aload_n dX10_grow_50 rfl) ?_
  refine Eq.trans (e_getr (b := a0 + 1) dX10_grow_51 fl_10_9 (kX10 h0) (sX10_0 h0)) ?_
  refine Eq.trans (e_sipush (x := 589) dX10_grow_54 (by decide)) ?_
  refine Eq.trans (e_aload_n dX10_grow_57 rfl) ?_
  refine Eq.trans (e_iload_n dX10_grow_58 rfl) ?_
  refine Eq.trans (e_iconst (x := 5) dX10_grow_59 (by decide)) ?_
  exact e_invv dX10_grow_60 cl_10_57 (kX10 h0) (by simp) rfl rfl (by simp)
theorem BX10_grow_63 {C : gC} {G : gG} {Q : gK} {σ : gM} {a0 : Nat} {v1 : Int32} {v2 : Int32} {v3 : Int32} {wv4 : Value} {wv5 : Value} {wv6 : Value} {wv7 : Value} {s0 : Int32} {s2 : Int32} {s3 : Int32} (h0 : isX10 G a0) : gw C G mX10_grow Q 63 [.ref a0, .int v1, .int v2, .int v3, wv4, wv5, wv6, wv7] [.int s3, .int s2, .ref (a0 + 1), .int s0] σ = (vp_in (s2 + s3) 607 ∧ (if (σ (a0 + 1) (s2 + s3).toNatClampNeg) < s0 then Q (some (.int (-6))) σ else (g_inv C mX10_at [.ref a0, .int v3, .int 3] σ fun r σ' => gw C G mX10_grow Q 77 [.ref a0, .int v1, .int v2, .int v3, wv4, wv5, wv6, wv7] (r.toList ++ []) σ'))) := by
  refine Eq.trans (e_iadd dX10_grow_63) ?_
  refine Eq.trans (e_iald dX10_grow_64 (aX10_0 h0) (nX10_0 h0)) (g_cj ?_)
  refine Eq.trans (e_ic_le (t := 71) dX10_grow_65 (by decide)) (g_ite ?_ ?_)
  · refine Eq.trans (e_bipush (x := (-6)) dX10_grow_68 (by decide)) ?_
    exact e_ireti dX10_grow_70 rfl
  · refine Eq.trans (e_aload_n dX10_grow_71 rfl) ?_
    refine Eq.trans (e_iload_n dX10_grow_72 rfl) ?_
    refine Eq.trans (e_iconst (x := 3) dX10_grow_73 (by decide)) ?_
    exact e_invv dX10_grow_74 cl_10_57 (kX10 h0) (by simp) rfl rfl (by simp)
theorem BX10_grow_77 {C : gC} {G : gG} {Q : gK} {σ : gM} {a0 : Nat} {v1 : Int32} {v2 : Int32} {v3 : Int32} {wv4 : Value} {wv5 : Value} {wv6 : Value} {wv7 : Value} {s0 : Int32} (h0 : isX10 G a0) : gw C G mX10_grow Q 77 [.ref a0, .int v1, .int v2, .int v3, wv4, wv5, wv6, wv7] [.int s0] σ = (g_inv C mX10_laid [.ref a0] σ fun r σ' => gw C G mX10_grow Q 85 [.ref a0, .int v1, .int v2, .int v3, .int (s0 + v2), wv5, wv6, wv7] (r.toList ++ []) σ') := by
  refine Eq.trans (e_iload_n dX10_grow_77 rfl) ?_
  refine Eq.trans (e_iadd dX10_grow_78) ?_
  refine Eq.trans (e_istore dX10_grow_79 (Nat.le_of_ble_eq_true rfl)) ?_
  refine Eq.trans (e_aload_n dX10_grow_81 rfl) ?_
  exact e_invv dX10_grow_82 cl_10_79 (kX10 h0) (by simp) rfl rfl (by simp)
theorem BX10_grow_85 {C : gC} {G : gG} {Q : gK} {σ : gM} {a0 : Nat} {v1 : Int32} {v2 : Int32} {v3 : Int32} {v4 : Int32} {wv5 : Value} {wv6 : Value} {wv7 : Value} (h0 : isX10 G a0) : gw C G mX10_grow Q 85 [.ref a0, .int v1, .int v2, .int v3, .int v4, wv5, wv6, wv7] [] σ = (g_inv C mX10_isFreeBehind [.ref a0, .int v3, .int v2] σ fun r σ' => gw C G mX10_grow Q 91 [.ref a0, .int v1, .int v2, .int v3, .int v4, wv5, wv6, wv7] (r.toList ++ []) σ') := by
  refine Eq.trans (e_aload_n dX10_grow_85 rfl) ?_
  refine Eq.trans (e_iload_n dX10_grow_86 rfl) ?_
  refine Eq.trans (e_iload_n dX10_grow_87 rfl) ?_
  exact e_invv dX10_grow_88 cl_10_99 (kX10 h0) (by simp) rfl rfl (by simp)
theorem BX10_grow_91 {C : gC} {G : gG} {Q : gK} {σ : gM} {a0 : Nat} {v1 : Int32} {v2 : Int32} {v3 : Int32} {v4 : Int32} {wv5 : Value} {wv6 : Value} {wv7 : Value} {s0 : Int32} (h0 : isX10 G a0) : gw C G mX10_grow Q 91 [.ref a0, .int v1, .int v2, .int v3, .int v4, wv5, wv6, wv7] [.int s0] σ = (if s0 = 0 then (g_inv C mX10_at [.ref a0, .int v3, .int 4] σ fun r σ' => gw C G mX10_grow Q 114 [.ref a0, .int v1, .int v2, .int v3, .int v4, .int s0, wv6, wv7] (r.toList ++ [.ref a0]) σ') else (g_inv C mX10_at [.ref a0, .int v3, .int 2] σ fun r σ' => gw C G mX10_grow Q 104 [.ref a0, .int v1, .int v2, .int v3, .int v4, .int s0, wv6, wv7] (r.toList ++ []) σ')) := by
  refine Eq.trans (e_istore dX10_grow_91 (Nat.le_of_ble_eq_true rfl)) ?_
  refine Eq.trans (e_iload dX10_grow_93 rfl) ?_
  refine Eq.trans (e_if_eq (t := 107) dX10_grow_95 (by decide)) (g_ite ?_ ?_)
  · refine Eq.trans (e_aload_n dX10_grow_107 rfl) ?_
    refine Eq.trans (e_aload_n dX10_grow_108 rfl) ?_
    refine Eq.trans (e_iload_n dX10_grow_109 rfl) ?_
    refine Eq.trans (e_iconst (x := 4) dX10_grow_110 (by decide)) ?_
    exact e_invv dX10_grow_111 cl_10_57 (kX10 h0) (by simp) rfl rfl (by simp)
  · refine Eq.trans (e_aload_n dX10_grow_98 rfl) ?_
    refine Eq.trans (e_iload_n dX10_grow_99 rfl) ?_
    refine Eq.trans (e_iconst (x := 2) dX10_grow_100 (by decide)) ?_
    exact e_invv dX10_grow_101 cl_10_57 (kX10 h0) (by simp) rfl rfl (by simp)
theorem BX10_grow_104 {C : gC} {G : gG} {Q : gK} {σ : gM} {a0 : Nat} {v1 : Int32} {v2 : Int32} {v3 : Int32} {v4 : Int32} {v5 : Int32} {wv6 : Value} {wv7 : Value} {s0 : Int32} (h0 : isX10 G a0) : gw C G mX10_grow Q 104 [.ref a0, .int v1, .int v2, .int v3, .int v4, .int v5, wv6, wv7] [.int s0] σ = gw C G mX10_grow Q 119 [.ref a0, .int v1, .int v2, .int v3, .int v4, .int v5, wv6, wv7] [.int s0] σ := by
  refine Eq.trans (e_goto (t := 119) dX10_grow_104 (by decide)) ?_
  rfl
theorem BX10_grow_114 {C : gC} {G : gG} {Q : gK} {σ : gM} {a0 : Nat} {v1 : Int32} {v2 : Int32} {v3 : Int32} {v4 : Int32} {v5 : Int32} {wv6 : Value} {wv7 : Value} {s1 : Int32} (h0 : isX10 G a0) : gw C G mX10_grow Q 114 [.ref a0, .int v1, .int v2, .int v3, .int v4, .int v5, wv6, wv7] [.int s1, .ref a0] σ = (g_inv C mX10_placed [.ref a0, .int s1, .int v4] σ fun r σ' => gw C G mX10_grow Q 119 [.ref a0, .int v1, .int v2, .int v3, .int v4, .int v5, wv6, wv7] (r.toList ++ []) σ') := by
  refine Eq.trans (e_iload dX10_grow_114 rfl) ?_
  exact e_invv dX10_grow_116 cl_10_82 (kX10 h0) (by simp) rfl rfl (by simp)
theorem BX10_grow_119 {C : gC} {G : gG} {Q : gK} {σ : gM} {a0 : Nat} {v1 : Int32} {v2 : Int32} {v3 : Int32} {v4 : Int32} {v5 : Int32} {wv6 : Value} {wv7 : Value} {s0 : Int32} (h0 : isX10 G a0) : gw C G mX10_grow Q 119 [.ref a0, .int v1, .int v2, .int v3, .int v4, .int v5, wv6, wv7] [.int s0] σ = (if 40 < v4 then Q (some (.int (-3))) σ else (if s0 < 0 then Q (some (.int (-3))) σ else (g_inv C mX10_goes [.ref a0, .int v3, .int s0] σ fun r σ' => gw C G mX10_grow Q 143 [.ref a0, .int v1, .int v2, .int v3, .int v4, .int v5, .int s0, wv7] (r.toList ++ []) σ'))) := by
  refine Eq.trans (e_istore dX10_grow_119 (Nat.le_of_ble_eq_true rfl)) ?_
  refine Eq.trans (e_iload dX10_grow_121 rfl) ?_
  refine Eq.trans (e_bipush (x := 40) dX10_grow_123 (by decide)) ?_
  refine Eq.trans (e_ic_gt (t := 133) dX10_grow_125 (by decide)) (g_ite ?_ ?_)
  · refine Eq.trans (e_bipush (x := (-3)) dX10_grow_133 (by decide)) ?_
    exact e_ireti dX10_grow_135 rfl
  · refine Eq.trans (e_iload dX10_grow_128 rfl) ?_
    refine Eq.trans (e_if_ge (t := 136) dX10_grow_130 (by decide)) (g_ite ?_ ?_)
    · refine Eq.trans (e_bipush (x := (-3)) dX10_grow_133 (by decide)) ?_
      exact e_ireti dX10_grow_135 rfl
    · refine Eq.trans (e_aload_n dX10_grow_136 rfl) ?_
      refine Eq.trans (e_iload_n dX10_grow_137 rfl) ?_
      refine Eq.trans (e_iload dX10_grow_138 rfl) ?_
      exact e_invv dX10_grow_140 cl_10_103 (kX10 h0) (by simp) rfl rfl (by simp)
theorem BX10_grow_143 {C : gC} {G : gG} {Q : gK} {σ : gM} {a0 : Nat} {v1 : Int32} {v2 : Int32} {v3 : Int32} {v4 : Int32} {v5 : Int32} {v6 : Int32} {wv7 : Value} (h0 : isX10 G a0) : gw C G mX10_grow Q 143 [.ref a0, .int v1, .int v2, .int v3, .int v4, .int v5, .int v6, wv7] [] σ = (g_inv C mX10_at [.ref a0, .int v3, .int 3] σ fun r σ' => gw C G mX10_grow Q 149 [.ref a0, .int v1, .int v2, .int v3, .int v4, .int v5, .int v6, wv7] (r.toList ++ []) σ') := by
  refine Eq.trans (e_aload_n dX10_grow_143 rfl) ?_
  refine Eq.trans (e_iload_n dX10_grow_144 rfl) ?_
  refine Eq.trans (e_iconst (x := 3) dX10_grow_145 (by decide)) ?_
  exact e_invv dX10_grow_146 cl_10_57 (kX10 h0) (by simp) rfl rfl (by simp)
theorem BX10_grow_149 {C : gC} {G : gG} {Q : gK} {σ : gM} {a0 : Nat} {v1 : Int32} {v2 : Int32} {v3 : Int32} {v4 : Int32} {v5 : Int32} {v6 : Int32} {wv7 : Value} {s0 : Int32} (h0 : isX10 G a0) : gw C G mX10_grow Q 149 [.ref a0, .int v1, .int v2, .int v3, .int v4, .int v5, .int v6, wv7] [.int s0] σ = gw C G mX10_grow Q 151 [.ref a0, .int v1, .int v2, .int v3, .int v4, .int v5, .int v6, .int s0] [] σ := by
  refine Eq.trans (e_istore dX10_grow_149 (Nat.le_of_ble_eq_true rfl)) ?_
  rfl
theorem BX10_grow_151 {C : gC} {G : gG} {Q : gK} {σ : gM} {a0 : Nat} {v1 : Int32} {v2 : Int32} {v3 : Int32} {v4 : Int32} {v5 : Int32} {v6 : Int32} {v7 : Int32} (h0 : isX10 G a0) : gw C G mX10_grow Q 151 [.ref a0, .int v1, .int v2, .int v3, .int v4, .int v5, .int v6, .int v7] [] σ = (if v7 < v4 then (vp_in ((330 + v6) + v7) 607 ∧ gw C G mX10_grow Q 151 [.ref a0, .int v1, .int v2, .int v3, .int v4, .int v5, .int v6, .int (v7 + 1)] [] (g_up σ (a0 + 1) ((330 + v6) + v7).toNatClampNeg 0)) else (g_inv C mX10_sets [.ref a0, .int v3, .int 3, .int v4] σ fun r σ' => gw C G mX10_grow Q 187 [.ref a0, .int v1, .int v2, .int v3, .int v4, .int v5, .int v6, .int v7] (r.toList ++ []) σ')) := by
  refine Eq.trans (e_iload dX10_grow_151 rfl) ?_
  refine Eq.trans (e_iload dX10_grow_153 rfl) ?_
  refine Eq.trans (e_ic_ge (t := 179) dX10_grow_155 (by decide)) (g_ite ?_ ?_)
  · refine Eq.trans (e_aload_n dX10_grow_158 rfl) ?_
    refine Eq.trans (e_getr (b := a0 + 1) dX10_grow_159 fl_10_9 (kX10 h0) (sX10_0 h0)) ?_
    refine Eq.trans (e_sipush (x := 330) dX10_grow_162 (by decide)) ?_
    refine Eq.trans (e_iload dX10_grow_165 rfl) ?_
    refine Eq.trans (e_iadd dX10_grow_167) ?_
    refine Eq.trans (e_iload dX10_grow_168 rfl) ?_
    refine Eq.trans (e_iadd dX10_grow_170) ?_
    refine Eq.trans (e_iconst (x := 0) dX10_grow_171 (by decide)) ?_
    refine Eq.trans (e_iast dX10_grow_172 (aX10_0 h0) (nX10_0 h0)) (g_cj ?_)
    refine Eq.trans (e_iinc (y := 1) dX10_grow_173 rfl (by decide)) ?_
    refine Eq.trans (e_goto (t := 151) dX10_grow_176 (by decide)) ?_
    rfl
  · refine Eq.trans (e_aload_n dX10_grow_179 rfl) ?_
    refine Eq.trans (e_iload_n dX10_grow_180 rfl) ?_
    refine Eq.trans (e_iconst (x := 3) dX10_grow_181 (by decide)) ?_
    refine Eq.trans (e_iload dX10_grow_182 rfl) ?_
    exact e_invv dX10_grow_184 cl_10_89 (kX10 h0) (by simp) rfl rfl (by simp)
theorem BX10_grow_187 {C : gC} {G : gG} {Q : gK} {σ : gM} {a0 : Nat} {v1 : Int32} {v2 : Int32} {v3 : Int32} {v4 : Int32} {v5 : Int32} {v6 : Int32} {v7 : Int32} (h0 : isX10 G a0) : gw C G mX10_grow Q 187 [.ref a0, .int v1, .int v2, .int v3, .int v4, .int v5, .int v6, .int v7] [] σ = Q (some (.int v4)) σ := by
  refine Eq.trans (e_iload dX10_grow_187 rfl) ?_
  exact e_ireti dX10_grow_189 rfl
theorem BX10_isFreeBehind_0 {C : gC} {G : gG} {Q : gK} {σ : gM} {a0 : Nat} {v1 : Int32} {v2 : Int32} (h0 : isX10 G a0) : gw C G mX10_isFreeBehind Q 0 [.ref a0, .int v1, .int v2, .long 0, .long 0] [] σ = (g_inv C mX10_at [.ref a0, .int v1, .int 2] σ fun r σ' => gw C G mX10_isFreeBehind Q 6 [.ref a0, .int v1, .int v2, .long 0, .long 0] (r.toList ++ []) σ') := by
  refine Eq.trans (e_aload_n dX10_isFreeBehind_0 rfl) ?_
  refine Eq.trans (e_iload_n dX10_isFreeBehind_1 rfl) ?_
  refine Eq.trans (e_iconst (x := 2) dX10_isFreeBehind_2 (by decide)) ?_
  exact e_invv dX10_isFreeBehind_3 cl_10_57 (kX10 h0) (by simp) rfl rfl (by simp)
theorem BX10_isFreeBehind_6 {C : gC} {G : gG} {Q : gK} {σ : gM} {a0 : Nat} {v1 : Int32} {v2 : Int32} {wv3 : Value} {wv4 : Value} {s0 : Int32} (h0 : isX10 G a0) : gw C G mX10_isFreeBehind Q 6 [.ref a0, .int v1, .int v2, wv3, wv4] [.int s0] σ = (g_inv C mX10_at [.ref a0, .int v1, .int 3] σ fun r σ' => gw C G mX10_isFreeBehind Q 12 [.ref a0, .int v1, .int v2, wv3, wv4] (r.toList ++ [.int s0]) σ') := by
  refine Eq.trans (e_aload_n dX10_isFreeBehind_6 rfl) ?_
  refine Eq.trans (e_iload_n dX10_isFreeBehind_7 rfl) ?_
  refine Eq.trans (e_iconst (x := 3) dX10_isFreeBehind_8 (by decide)) ?_
  exact e_invv dX10_isFreeBehind_9 cl_10_57 (kX10 h0) (by simp) rfl rfl (by simp)
theorem BX10_isFreeBehind_12 {C : gC} {G : gG} {Q : gK} {σ : gM} {a0 : Nat} {v1 : Int32} {v2 : Int32} {wv3 : Value} {wv4 : Value} {s0 : Int32} {s1 : Int32} (h0 : isX10 G a0) : gw C G mX10_isFreeBehind Q 12 [.ref a0, .int v1, .int v2, wv3, wv4] [.int s1, .int s0] σ = gw C G mX10_isFreeBehind Q 17 [.ref a0, .int v1, .int v2, .int (s0 + s1), .int 0] [] σ := by
  refine Eq.trans (e_iadd dX10_isFreeBehind_12) ?_
  refine Eq.trans (e_istore_n dX10_isFreeBehind_13 (Nat.le_of_ble_eq_true rfl)) ?_
  refine Eq.trans (e_iconst (x := 0) dX10_isFreeBehind_14 (by decide)) ?_
  refine Eq.trans (e_istore dX10_isFreeBehind_15 (Nat.le_of_ble_eq_true rfl)) ?_
  rfl
theorem BX10_isFreeBehind_17 {C : gC} {G : gG} {Q : gK} {σ : gM} {a0 : Nat} {v1 : Int32} {v2 : Int32} {v3 : Int32} {v4 : Int32} (h0 : isX10 G a0) : gw C G mX10_isFreeBehind Q 17 [.ref a0, .int v1, .int v2, .int v3, .int v4] [] σ = (if v4 < v2 then (g_inv C mX10_at [.ref a0, .int v1, .int 4] σ fun r σ' => gw C G mX10_isFreeBehind Q 34 [.ref a0, .int v1, .int v2, .int v3, .int v4] (r.toList ++ [.ref a0, .int (v3 + v4)]) σ') else Q (some (.int 1)) σ) := by
  refine Eq.trans (e_iload dX10_isFreeBehind_17 rfl) ?_
  refine Eq.trans (e_iload_n dX10_isFreeBehind_19 rfl) ?_
  refine Eq.trans (e_ic_ge (t := 62) dX10_isFreeBehind_20 (by decide)) (g_ite ?_ ?_)
  · refine Eq.trans (e_iload_n dX10_isFreeBehind_23 rfl) ?_
    refine Eq.trans (e_iload dX10_isFreeBehind_24 rfl) ?_
    refine Eq.trans (e_iadd dX10_isFreeBehind_26) ?_
    refine Eq.trans (e_aload_n dX10_isFreeBehind_27 rfl) ?_
    refine Eq.trans (e_aload_n dX10_isFreeBehind_28 rfl) ?_
    refine Eq.trans (e_iload_n dX10_isFreeBehind_29 rfl) ?_
    refine Eq.trans (e_iconst (x := 4) dX10_isFreeBehind_30 (by decide)) ?_
    exact e_invv dX10_isFreeBehind_31 cl_10_57 (kX10 h0) (by simp) rfl rfl (by simp)
  · refine Eq.trans (e_iconst (x := 1) dX10_isFreeBehind_62 (by decide)) ?_
    exact Eq.trans (e_iretz dX10_isFreeBehind_63 rfl) (g_and (by decide))
theorem BX10_isFreeBehind_34 {C : gC} {G : gG} {Q : gK} {σ : gM} {a0 : Nat} {v1 : Int32} {v2 : Int32} {v3 : Int32} {v4 : Int32} {s0 : Int32} {s2 : Int32} (h0 : isX10 G a0) : gw C G mX10_isFreeBehind Q 34 [.ref a0, .int v1, .int v2, .int v3, .int v4] [.int s2, .ref a0, .int s0] σ = (g_inv C mX10_end [.ref a0, .int s2] σ fun r σ' => gw C G mX10_isFreeBehind Q 37 [.ref a0, .int v1, .int v2, .int v3, .int v4] (r.toList ++ [.int s0]) σ') := by
  exact e_invv dX10_isFreeBehind_34 cl_10_69 (kX10 h0) (by simp) rfl rfl (by simp)
theorem BX10_isFreeBehind_37 {C : gC} {G : gG} {Q : gK} {σ : gM} {a0 : Nat} {v1 : Int32} {v2 : Int32} {v3 : Int32} {v4 : Int32} {s0 : Int32} {s1 : Int32} (h0 : isX10 G a0) : gw C G mX10_isFreeBehind Q 37 [.ref a0, .int v1, .int v2, .int v3, .int v4] [.int s1, .int s0] σ = (if s0 < s1 then (vp_in (v3 + v4) 240 ∧ (if (σ (a0 + 5) (v3 + v4).toNatClampNeg) = 100 then gw C G mX10_isFreeBehind Q 17 [.ref a0, .int v1, .int v2, .int v3, .int (v4 + 1)] [] σ else Q (some (.int 0)) σ)) else Q (some (.int 0)) σ) := by
  refine Eq.trans (e_ic_ge (t := 54) dX10_isFreeBehind_37 (by decide)) (g_ite ?_ ?_)
  · refine Eq.trans (e_aload_n dX10_isFreeBehind_40 rfl) ?_
    refine Eq.trans (e_getr (b := a0 + 5) dX10_isFreeBehind_41 fl_10_22 (kX10 h0) (sX10_5 h0)) ?_
    refine Eq.trans (e_iload_n dX10_isFreeBehind_44 rfl) ?_
    refine Eq.trans (e_iload dX10_isFreeBehind_45 rfl) ?_
    refine Eq.trans (e_iadd dX10_isFreeBehind_47) ?_
    refine Eq.trans (e_iald dX10_isFreeBehind_48 (aX10_5 h0) (nX10_5 h0)) (g_cj ?_)
    refine Eq.trans (e_bipush (x := 100) dX10_isFreeBehind_49 (by decide)) ?_
    refine Eq.trans (e_ic_eq (t := 56) dX10_isFreeBehind_51 (by decide)) (g_ite ?_ ?_)
    · refine Eq.trans (e_iinc (y := 1) dX10_isFreeBehind_56 rfl (by decide)) ?_
      refine Eq.trans (e_goto (t := 17) dX10_isFreeBehind_59 (by decide)) ?_
      rfl
    · refine Eq.trans (e_iconst (x := 0) dX10_isFreeBehind_54 (by decide)) ?_
      exact Eq.trans (e_iretz dX10_isFreeBehind_55 rfl) (g_and (by decide))
  · refine Eq.trans (e_iconst (x := 0) dX10_isFreeBehind_54 (by decide)) ?_
    exact Eq.trans (e_iretz dX10_isFreeBehind_55 rfl) (g_and (by decide))
theorem BX10_goes_0 {C : gC} {G : gG} {Q : gK} {σ : gM} {a0 : Nat} {v1 : Int32} {v2 : Int32} (h0 : isX10 G a0) : gw C G mX10_goes Q 0 [.ref a0, .int v1, .int v2, .long 0, .long 0] [] σ = (g_inv C mX10_at [.ref a0, .int v1, .int 2] σ fun r σ' => gw C G mX10_goes Q 9 [.ref a0, .int v1, .int v2, .long 0, .long 0] (r.toList ++ [.int 330]) σ') := by
  refine Eq.trans (e_sipush (x := 330) dX10_goes_0 (by decide)) ?_
  refine Eq.trans (e_aload_n dX10_goes_3 rfl) ?_
  refine Eq.trans (e_iload_n dX10_goes_4 rfl) ?_
  refine Eq.trans (e_iconst (x := 2) dX10_goes_5 (by decide)) ?_
  exact e_invv dX10_goes_6 cl_10_57 (kX10 h0) (by simp) rfl rfl (by simp)
theorem BX10_goes_9 {C : gC} {G : gG} {Q : gK} {σ : gM} {a0 : Nat} {v1 : Int32} {v2 : Int32} {wv3 : Value} {wv4 : Value} {s0 : Int32} {s1 : Int32} (h0 : isX10 G a0) : gw C G mX10_goes Q 9 [.ref a0, .int v1, .int v2, wv3, wv4] [.int s1, .int s0] σ = gw C G mX10_goes Q 14 [.ref a0, .int v1, .int v2, .int (s0 + s1), .int 0] [] σ := by
  refine Eq.trans (e_iadd dX10_goes_9) ?_
  refine Eq.trans (e_istore_n dX10_goes_10 (Nat.le_of_ble_eq_true rfl)) ?_
  refine Eq.trans (e_iconst (x := 0) dX10_goes_11 (by decide)) ?_
  refine Eq.trans (e_istore dX10_goes_12 (Nat.le_of_ble_eq_true rfl)) ?_
  rfl
theorem BX10_goes_14 {C : gC} {G : gG} {Q : gK} {σ : gM} {a0 : Nat} {v1 : Int32} {v2 : Int32} {v3 : Int32} {v4 : Int32} (h0 : isX10 G a0) : gw C G mX10_goes Q 14 [.ref a0, .int v1, .int v2, .int v3, .int v4] [] σ = (g_inv C mX10_at [.ref a0, .int v1, .int 3] σ fun r σ' => gw C G mX10_goes Q 22 [.ref a0, .int v1, .int v2, .int v3, .int v4] (r.toList ++ [.int v4]) σ') := by
  refine Eq.trans (e_iload dX10_goes_14 rfl) ?_
  refine Eq.trans (e_aload_n dX10_goes_16 rfl) ?_
  refine Eq.trans (e_iload_n dX10_goes_17 rfl) ?_
  refine Eq.trans (e_iconst (x := 3) dX10_goes_18 (by decide)) ?_
  exact e_invv dX10_goes_19 cl_10_57 (kX10 h0) (by simp) rfl rfl (by simp)
theorem BX10_goes_22 {C : gC} {G : gG} {Q : gK} {σ : gM} {a0 : Nat} {v1 : Int32} {v2 : Int32} {v3 : Int32} {v4 : Int32} {s0 : Int32} {s1 : Int32} (h0 : isX10 G a0) : gw C G mX10_goes Q 22 [.ref a0, .int v1, .int v2, .int v3, .int v4] [.int s1, .int s0] σ = (if s0 < s1 then (vp_in (v3 + v4) 607 ∧ (vp_in v4 240 ∧ gw C G mX10_goes Q 14 [.ref a0, .int v1, .int v2, .int v3, .int (v4 + 1)] [] (g_up σ (a0 + 6) v4.toNatClampNeg (σ (a0 + 1) (v3 + v4).toNatClampNeg)))) else gw C G mX10_goes Q 50 [.ref a0, .int v1, .int v2, .int v3, .int 0] [] σ) := by
  refine Eq.trans (e_ic_ge (t := 47) dX10_goes_22 (by decide)) (g_ite ?_ ?_)
  · refine Eq.trans (e_aload_n dX10_goes_25 rfl) ?_
    refine Eq.trans (e_getr (b := a0 + 6) dX10_goes_26 fl_10_25 (kX10 h0) (sX10_6 h0)) ?_
    refine Eq.trans (e_iload dX10_goes_29 rfl) ?_
    refine Eq.trans (e_aload_n dX10_goes_31 rfl) ?_
    refine Eq.trans (e_getr (b := a0 + 1) dX10_goes_32 fl_10_9 (kX10 h0) (sX10_0 h0)) ?_
    refine Eq.trans (e_iload_n dX10_goes_35 rfl) ?_
    refine Eq.trans (e_iload dX10_goes_36 rfl) ?_
    refine Eq.trans (e_iadd dX10_goes_38) ?_
    refine Eq.trans (e_iald dX10_goes_39 (aX10_0 h0) (nX10_0 h0)) (g_cj ?_)
    refine Eq.trans (e_iast dX10_goes_40 (aX10_6 h0) (nX10_6 h0)) (g_cj ?_)
    refine Eq.trans (e_iinc (y := 1) dX10_goes_41 rfl (by decide)) ?_
    refine Eq.trans (e_goto (t := 14) dX10_goes_44 (by decide)) ?_
    rfl
  · refine Eq.trans (e_iconst (x := 0) dX10_goes_47 (by decide)) ?_
    refine Eq.trans (e_istore dX10_goes_48 (Nat.le_of_ble_eq_true rfl)) ?_
    rfl
theorem BX10_goes_50 {C : gC} {G : gG} {Q : gK} {σ : gM} {a0 : Nat} {v1 : Int32} {v2 : Int32} {v3 : Int32} {v4 : Int32} (h0 : isX10 G a0) : gw C G mX10_goes Q 50 [.ref a0, .int v1, .int v2, .int v3, .int v4] [] σ = (g_inv C mX10_at [.ref a0, .int v1, .int 3] σ fun r σ' => gw C G mX10_goes Q 58 [.ref a0, .int v1, .int v2, .int v3, .int v4] (r.toList ++ [.int v4]) σ') := by
  refine Eq.trans (e_iload dX10_goes_50 rfl) ?_
  refine Eq.trans (e_aload_n dX10_goes_52 rfl) ?_
  refine Eq.trans (e_iload_n dX10_goes_53 rfl) ?_
  refine Eq.trans (e_iconst (x := 3) dX10_goes_54 (by decide)) ?_
  exact e_invv dX10_goes_55 cl_10_57 (kX10 h0) (by simp) rfl rfl (by simp)
theorem BX10_goes_58 {C : gC} {G : gG} {Q : gK} {σ : gM} {a0 : Nat} {v1 : Int32} {v2 : Int32} {v3 : Int32} {v4 : Int32} {s0 : Int32} {s1 : Int32} (h0 : isX10 G a0) : gw C G mX10_goes Q 58 [.ref a0, .int v1, .int v2, .int v3, .int v4] [.int s1, .int s0] σ = (if s0 < s1 then (vp_in v4 240 ∧ (vp_in ((330 + v2) + v4) 607 ∧ gw C G mX10_goes Q 50 [.ref a0, .int v1, .int v2, .int v3, .int (v4 + 1)] [] (g_up σ (a0 + 1) ((330 + v2) + v4).toNatClampNeg (σ (a0 + 6) v4.toNatClampNeg)))) else (g_inv C mX10_sets [.ref a0, .int v1, .int 2, .int v2] σ fun r σ' => gw C G mX10_goes Q 94 [.ref a0, .int v1, .int v2, .int v3, .int v4] (r.toList ++ []) σ')) := by
  refine Eq.trans (e_ic_ge (t := 87) dX10_goes_58 (by decide)) (g_ite ?_ ?_)
  · refine Eq.trans (e_aload_n dX10_goes_61 rfl) ?_
    refine Eq.trans (e_getr (b := a0 + 1) dX10_goes_62 fl_10_9 (kX10 h0) (sX10_0 h0)) ?_
    refine Eq.trans (e_sipush (x := 330) dX10_goes_65 (by decide)) ?_
    refine Eq.trans (e_iload_n dX10_goes_68 rfl) ?_
    refine Eq.trans (e_iadd dX10_goes_69) ?_
    refine Eq.trans (e_iload dX10_goes_70 rfl) ?_
    refine Eq.trans (e_iadd dX10_goes_72) ?_
    refine Eq.trans (e_aload_n dX10_goes_73 rfl) ?_
    refine Eq.trans (e_getr (b := a0 + 6) dX10_goes_74 fl_10_25 (kX10 h0) (sX10_6 h0)) ?_
    refine Eq.trans (e_iload dX10_goes_77 rfl) ?_
    refine Eq.trans (e_iald dX10_goes_79 (aX10_6 h0) (nX10_6 h0)) (g_cj ?_)
    refine Eq.trans (e_iast dX10_goes_80 (aX10_0 h0) (nX10_0 h0)) (g_cj ?_)
    refine Eq.trans (e_iinc (y := 1) dX10_goes_81 rfl (by decide)) ?_
    refine Eq.trans (e_goto (t := 50) dX10_goes_84 (by decide)) ?_
    rfl
  · refine Eq.trans (e_aload_n dX10_goes_87 rfl) ?_
    refine Eq.trans (e_iload_n dX10_goes_88 rfl) ?_
    refine Eq.trans (e_iconst (x := 2) dX10_goes_89 (by decide)) ?_
    refine Eq.trans (e_iload_n dX10_goes_90 rfl) ?_
    exact e_invv dX10_goes_91 cl_10_89 (kX10 h0) (by simp) rfl rfl (by simp)
theorem BX10_goes_94 {C : gC} {G : gG} {Q : gK} {σ : gM} {a0 : Nat} {v1 : Int32} {v2 : Int32} {v3 : Int32} {v4 : Int32} (h0 : isX10 G a0) : gw C G mX10_goes Q 94 [.ref a0, .int v1, .int v2, .int v3, .int v4] [] σ = Q none σ := by
  exact e_ret dX10_goes_94 rfl
theorem BX10_moves_0 {C : gC} {G : gG} {Q : gK} {σ : gM} {a0 : Nat} {v1 : Int32} {v2 : Int32} (h0 : isX10 G a0) : gw C G mX10_moves Q 0 [.ref a0, .int v1, .int v2] [] σ = (g_inv C mX10_isRegion [.ref a0, .int v1] σ fun r σ' => gw C G mX10_moves Q 5 [.ref a0, .int v1, .int v2] (r.toList ++ []) σ') := by
  refine Eq.trans (e_aload_n dX10_moves_0 rfl) ?_
  refine Eq.trans (e_iload_n dX10_moves_1 rfl) ?_
  exact e_invv dX10_moves_2 cl_10_73 (kX10 h0) (by simp) rfl rfl (by simp)
theorem BX10_moves_5 {C : gC} {G : gG} {Q : gK} {σ : gM} {a0 : Nat} {v1 : Int32} {v2 : Int32} {s0 : Int32} (h0 : isX10 G a0) : gw C G mX10_moves Q 5 [.ref a0, .int v1, .int v2] [.int s0] σ = (if s0 = 0 then Q (some (.int (-1))) σ else (g_inv C mX10_in [.int v2, .int 0, .int 240] σ fun r σ' => gw C G mX10_moves Q 16 [.ref a0, .int v1, .int v2] (r.toList ++ []) σ')) := by
  refine Eq.trans (e_if_eq (t := 28) dX10_moves_5 (by decide)) (g_ite ?_ ?_)
  · refine Eq.trans (e_iconst (x := (-1)) dX10_moves_28 (by decide)) ?_
    exact e_ireti dX10_moves_29 rfl
  · refine Eq.trans (e_iload_n dX10_moves_8 rfl) ?_
    refine Eq.trans (e_iconst (x := 0) dX10_moves_9 (by decide)) ?_
    refine Eq.trans (e_sipush (x := 240) dX10_moves_10 (by decide)) ?_
    exact e_invs dX10_moves_13 cl_10_65 (by decide) (by simp) rfl rfl (by simp)
theorem BX10_moves_16 {C : gC} {G : gG} {Q : gK} {σ : gM} {a0 : Nat} {v1 : Int32} {v2 : Int32} {s0 : Int32} (h0 : isX10 G a0) : gw C G mX10_moves Q 16 [.ref a0, .int v1, .int v2] [.int s0] σ = (if s0 = 0 then Q (some (.int (-1))) σ else (g_inv C mX10_moved [.ref a0, .int v1, .int v2] σ fun r σ' => gw C G mX10_moves Q 25 [.ref a0, .int v1, .int v2] (r.toList ++ []) σ')) := by
  refine Eq.trans (e_if_eq (t := 28) dX10_moves_16 (by decide)) (g_ite ?_ ?_)
  · refine Eq.trans (e_iconst (x := (-1)) dX10_moves_28 (by decide)) ?_
    exact e_ireti dX10_moves_29 rfl
  · refine Eq.trans (e_aload_n dX10_moves_19 rfl) ?_
    refine Eq.trans (e_iload_n dX10_moves_20 rfl) ?_
    refine Eq.trans (e_iload_n dX10_moves_21 rfl) ?_
    exact e_invv dX10_moves_22 cl_10_111 (kX10 h0) (by simp) rfl rfl (by simp)
theorem BX10_moves_25 {C : gC} {G : gG} {Q : gK} {σ : gM} {a0 : Nat} {v1 : Int32} {v2 : Int32} {s0 : Int32} (h0 : isX10 G a0) : gw C G mX10_moves Q 25 [.ref a0, .int v1, .int v2] [.int s0] σ = Q (some (.int s0)) σ := by
  refine Eq.trans (e_goto (t := 29) dX10_moves_25 (by decide)) ?_
  exact e_ireti dX10_moves_29 rfl
theorem BX10_moved_0 {C : gC} {G : gG} {Q : gK} {σ : gM} {a0 : Nat} {v1 : Int32} {v2 : Int32} (h0 : isX10 G a0) : gw C G mX10_moved Q 0 [.ref a0, .int v1, .int v2, .long 0, .long 0, .long 0, .long 0, .long 0] [] σ = (vp_in (583 + v1) 607 ∧ (if (σ (a0 + 1) (583 + v1).toNatClampNeg) = 0 then gw C G mX10_moved Q 18 [.ref a0, .int v1, .int v2, .long 0, .long 0, .long 0, .long 0, .long 0] [.int 1] σ else gw C G mX10_moved Q 18 [.ref a0, .int v1, .int v2, .long 0, .long 0, .long 0, .long 0, .long 0] [.int 0] σ)) := by
  refine Eq.trans (e_aload_n dX10_moved_0 rfl) ?_
  refine Eq.trans (e_getr (b := a0 + 1) dX10_moved_1 fl_10_9 (kX10 h0) (sX10_0 h0)) ?_
  refine Eq.trans (e_sipush (x := 583) dX10_moved_4 (by decide)) ?_
  refine Eq.trans (e_iload_n dX10_moved_7 rfl) ?_
  refine Eq.trans (e_iadd dX10_moved_8) ?_
  refine Eq.trans (e_iald dX10_moved_9 (aX10_0 h0) (nX10_0 h0)) (g_cj ?_)
  refine Eq.trans (e_if_ne (t := 17) dX10_moved_10 (by decide)) (g_ite ?_ ?_)
  · refine Eq.trans (e_iconst (x := 1) dX10_moved_13 (by decide)) ?_
    refine Eq.trans (e_goto (t := 18) dX10_moved_14 (by decide)) ?_
    rfl
  · refine Eq.trans (e_iconst (x := 0) dX10_moved_17 (by decide)) ?_
    rfl
theorem BX10_moved_18 {C : gC} {G : gG} {Q : gK} {σ : gM} {a0 : Nat} {v1 : Int32} {v2 : Int32} {wv3 : Value} {wv4 : Value} {wv5 : Value} {wv6 : Value} {wv7 : Value} {s0 : Int32} (h0 : isX10 G a0) : gw C G mX10_moved Q 18 [.ref a0, .int v1, .int v2, wv3, wv4, wv5, wv6, wv7] [.int s0] σ = (if s0 = 0 then (g_inv C mX10_end [.ref a0, .int v1] σ fun r σ' => gw C G mX10_moved Q 41 [.ref a0, .int v1, .int v2, .int s0, wv4, wv5, wv6, wv7] (r.toList ++ []) σ') else (vp_in (571 + v1) 607 ∧ gw C G mX10_moved Q 41 [.ref a0, .int v1, .int v2, .int s0, wv4, wv5, wv6, wv7] [.int (σ (a0 + 1) (571 + v1).toNatClampNeg)] σ)) := by
  refine Eq.trans (e_istore_n dX10_moved_18 (Nat.le_of_ble_eq_true rfl)) ?_
  refine Eq.trans (e_iload_n dX10_moved_19 rfl) ?_
  refine Eq.trans (e_if_eq (t := 36) dX10_moved_20 (by decide)) (g_ite ?_ ?_)
  · refine Eq.trans (e_aload_n dX10_moved_36 rfl) ?_
    refine Eq.trans (e_iload_n dX10_moved_37 rfl) ?_
    exact e_invv dX10_moved_38 cl_10_69 (kX10 h0) (by simp) rfl rfl (by simp)
  · refine Eq.trans (e_aload_n dX10_moved_23 rfl) ?_
    refine Eq.trans (e_getr (b := a0 + 1) dX10_moved_24 fl_10_9 (kX10 h0) (sX10_0 h0)) ?_
    refine Eq.trans (e_sipush (x := 571) dX10_moved_27 (by decide)) ?_
    refine Eq.trans (e_iload_n dX10_moved_30 rfl) ?_
    refine Eq.trans (e_iadd dX10_moved_31) ?_
    refine Eq.trans (e_iald dX10_moved_32 (aX10_0 h0) (nX10_0 h0)) (g_cj ?_)
    refine Eq.trans (e_goto (t := 41) dX10_moved_33 (by decide)) ?_
    rfl
theorem BX10_moved_41 {C : gC} {G : gG} {Q : gK} {σ : gM} {a0 : Nat} {v1 : Int32} {v2 : Int32} {v3 : Int32} {wv4 : Value} {wv5 : Value} {wv6 : Value} {wv7 : Value} {s0 : Int32} (h0 : isX10 G a0) : gw C G mX10_moved Q 41 [.ref a0, .int v1, .int v2, .int v3, wv4, wv5, wv6, wv7] [.int s0] σ = (g_inv C mX10_nextBlock [.ref a0, .int v1, .int s0, .int v3] σ fun r σ' => gw C G mX10_moved Q 54 [.ref a0, .int v1, .int v2, .int v3, .int s0, .int 0, wv6, wv7] (r.toList ++ []) σ') := by
  refine Eq.trans (e_istore dX10_moved_41 (Nat.le_of_ble_eq_true rfl)) ?_
  refine Eq.trans (e_iconst (x := 0) dX10_moved_43 (by decide)) ?_
  refine Eq.trans (e_istore dX10_moved_44 (Nat.le_of_ble_eq_true rfl)) ?_
  refine Eq.trans (e_aload_n dX10_moved_46 rfl) ?_
  refine Eq.trans (e_iload_n dX10_moved_47 rfl) ?_
  refine Eq.trans (e_iload dX10_moved_48 rfl) ?_
  refine Eq.trans (e_iload_n dX10_moved_50 rfl) ?_
  exact e_invv dX10_moved_51 cl_10_107 (kX10 h0) (by simp) rfl rfl (by simp)
theorem BX10_moved_54 {C : gC} {G : gG} {Q : gK} {σ : gM} {a0 : Nat} {v1 : Int32} {v2 : Int32} {v3 : Int32} {v4 : Int32} {v5 : Int32} {wv6 : Value} {wv7 : Value} {s0 : Int32} (h0 : isX10 G a0) : gw C G mX10_moved Q 54 [.ref a0, .int v1, .int v2, .int v3, .int v4, .int v5, wv6, wv7] [.int s0] σ = gw C G mX10_moved Q 56 [.ref a0, .int v1, .int v2, .int v3, .int v4, .int v5, .int s0, wv7] [] σ := by
  refine Eq.trans (e_istore dX10_moved_54 (Nat.le_of_ble_eq_true rfl)) ?_
  rfl
theorem BX10_moved_56 {C : gC} {G : gG} {Q : gK} {σ : gM} {a0 : Nat} {v1 : Int32} {v2 : Int32} {v3 : Int32} {v4 : Int32} {v5 : Int32} {v6 : Int32} {wv7 : Value} (h0 : isX10 G a0) : gw C G mX10_moved Q 56 [.ref a0, .int v1, .int v2, .int v3, .int v4, .int v5, .int v6, wv7] [] σ = (if v6 < 0 then Q (some (.int v5)) σ else (if v3 = 0 then (g_inv C mX10_at [.ref a0, .int v6, .int 3] σ fun r σ' => gw C G mX10_moved Q 79 [.ref a0, .int v1, .int v2, .int v3, .int v4, .int v5, .int v6, wv7] (r.toList ++ [.int v4]) σ') else gw C G mX10_moved Q 80 [.ref a0, .int v1, .int v2, .int v3, .int v4, .int v5, .int v6, wv7] [.int v4] σ)) := by
  refine Eq.trans (e_iload dX10_moved_56 rfl) ?_
  refine Eq.trans (e_if_lt (t := 195) dX10_moved_58 (by decide)) (g_ite ?_ ?_)
  · refine Eq.trans (e_iload dX10_moved_195 rfl) ?_
    exact e_ireti dX10_moved_197 rfl
  · refine Eq.trans (e_iload_n dX10_moved_61 rfl) ?_
    refine Eq.trans (e_if_eq (t := 70) dX10_moved_62 (by decide)) (g_ite ?_ ?_)
    · refine Eq.trans (e_iload dX10_moved_70 rfl) ?_
      refine Eq.trans (e_aload_n dX10_moved_72 rfl) ?_
      refine Eq.trans (e_iload dX10_moved_73 rfl) ?_
      refine Eq.trans (e_iconst (x := 3) dX10_moved_75 (by decide)) ?_
      exact e_invv dX10_moved_76 cl_10_57 (kX10 h0) (by simp) rfl rfl (by simp)
    · refine Eq.trans (e_iload dX10_moved_65 rfl) ?_
      refine Eq.trans (e_goto (t := 80) dX10_moved_67 (by decide)) ?_
      rfl
theorem BX10_moved_79 {C : gC} {G : gG} {Q : gK} {σ : gM} {a0 : Nat} {v1 : Int32} {v2 : Int32} {v3 : Int32} {v4 : Int32} {v5 : Int32} {v6 : Int32} {wv7 : Value} {s0 : Int32} {s1 : Int32} (h0 : isX10 G a0) : gw C G mX10_moved Q 79 [.ref a0, .int v1, .int v2, .int v3, .int v4, .int v5, .int v6, wv7] [.int s1, .int s0] σ = gw C G mX10_moved Q 80 [.ref a0, .int v1, .int v2, .int v3, .int v4, .int v5, .int v6, wv7] [.int (s0 - s1)] σ := by
  refine Eq.trans (e_isub dX10_moved_79) ?_
  rfl
theorem BX10_moved_80 {C : gC} {G : gG} {Q : gK} {σ : gM} {a0 : Nat} {v1 : Int32} {v2 : Int32} {v3 : Int32} {v4 : Int32} {v5 : Int32} {v6 : Int32} {wv7 : Value} {s0 : Int32} (h0 : isX10 G a0) : gw C G mX10_moved Q 80 [.ref a0, .int v1, .int v2, .int v3, .int v4, .int v5, .int v6, wv7] [.int s0] σ = (g_inv C mX10_isLive [.ref a0, .int v6] σ fun r σ' => gw C G mX10_moved Q 88 [.ref a0, .int v1, .int v2, .int v3, .int v4, .int v5, .int v6, .int s0] (r.toList ++ []) σ') := by
  refine Eq.trans (e_istore dX10_moved_80 (Nat.le_of_ble_eq_true rfl)) ?_
  refine Eq.trans (e_aload_n dX10_moved_82 rfl) ?_
  refine Eq.trans (e_iload dX10_moved_83 rfl) ?_
  exact e_invv dX10_moved_85 cl_10_61 (kX10 h0) (by simp) rfl rfl (by simp)
theorem BX10_moved_88 {C : gC} {G : gG} {Q : gK} {σ : gM} {a0 : Nat} {v1 : Int32} {v2 : Int32} {v3 : Int32} {v4 : Int32} {v5 : Int32} {v6 : Int32} {v7 : Int32} {s0 : Int32} (h0 : isX10 G a0) : gw C G mX10_moved Q 88 [.ref a0, .int v1, .int v2, .int v3, .int v4, .int v5, .int v6, .int v7] [.int s0] σ = (if s0 = 0 then gw C G mX10_moved Q 151 [.ref a0, .int v1, .int v2, .int v3, .int v4, .int v5, .int v6, .int v7] [] σ else (g_inv C mX10_at [.ref a0, .int v6, .int 6] σ fun r σ' => gw C G mX10_moved Q 99 [.ref a0, .int v1, .int v2, .int v3, .int v4, .int v5, .int v6, .int v7] (r.toList ++ []) σ')) := by
  refine Eq.trans (e_if_eq (t := 151) dX10_moved_88 (by decide)) (g_ite ?_ ?_)
  · rfl
  · refine Eq.trans (e_aload_n dX10_moved_91 rfl) ?_
    refine Eq.trans (e_iload dX10_moved_92 rfl) ?_
    refine Eq.trans (e_bipush (x := 6) dX10_moved_94 (by decide)) ?_
    exact e_invv dX10_moved_96 cl_10_57 (kX10 h0) (by simp) rfl rfl (by simp)
theorem BX10_moved_99 {C : gC} {G : gG} {Q : gK} {σ : gM} {a0 : Nat} {v1 : Int32} {v2 : Int32} {v3 : Int32} {v4 : Int32} {v5 : Int32} {v6 : Int32} {v7 : Int32} {s0 : Int32} (h0 : isX10 G a0) : gw C G mX10_moved Q 99 [.ref a0, .int v1, .int v2, .int v3, .int v4, .int v5, .int v6, .int v7] [.int s0] σ = (if s0 = 0 then (g_inv C mX10_at [.ref a0, .int v6, .int 2] σ fun r σ' => gw C G mX10_moved Q 109 [.ref a0, .int v1, .int v2, .int v3, .int v4, .int v5, .int v6, .int v7] (r.toList ++ []) σ') else gw C G mX10_moved Q 151 [.ref a0, .int v1, .int v2, .int v3, .int v4, .int v5, .int v6, .int v7] [] σ) := by
  refine Eq.trans (e_if_ne (t := 151) dX10_moved_99 (by decide)) (g_ite ?_ ?_)
  · refine Eq.trans (e_aload_n dX10_moved_102 rfl) ?_
    refine Eq.trans (e_iload dX10_moved_103 rfl) ?_
    refine Eq.trans (e_iconst (x := 2) dX10_moved_105 (by decide)) ?_
    exact e_invv dX10_moved_106 cl_10_57 (kX10 h0) (by simp) rfl rfl (by simp)
  · rfl
theorem BX10_moved_109 {C : gC} {G : gG} {Q : gK} {σ : gM} {a0 : Nat} {v1 : Int32} {v2 : Int32} {v3 : Int32} {v4 : Int32} {v5 : Int32} {v6 : Int32} {v7 : Int32} {s0 : Int32} (h0 : isX10 G a0) : gw C G mX10_moved Q 109 [.ref a0, .int v1, .int v2, .int v3, .int v4, .int v5, .int v6, .int v7] [.int s0] σ = (if s0 = v7 then gw C G mX10_moved Q 151 [.ref a0, .int v1, .int v2, .int v3, .int v4, .int v5, .int v6, .int v7] [] σ else (g_inv C mX10_at [.ref a0, .int v6, .int 3] σ fun r σ' => gw C G mX10_moved Q 123 [.ref a0, .int v1, .int v2, .int v3, .int v4, .int v5, .int v6, .int v7] (r.toList ++ [.int v5]) σ')) := by
  refine Eq.trans (e_iload dX10_moved_109 rfl) ?_
  refine Eq.trans (e_ic_eq (t := 151) dX10_moved_111 (by decide)) (g_ite ?_ ?_)
  · rfl
  · refine Eq.trans (e_iload dX10_moved_114 rfl) ?_
    refine Eq.trans (e_aload_n dX10_moved_116 rfl) ?_
    refine Eq.trans (e_iload dX10_moved_117 rfl) ?_
    refine Eq.trans (e_iconst (x := 3) dX10_moved_119 (by decide)) ?_
    exact e_invv dX10_moved_120 cl_10_57 (kX10 h0) (by simp) rfl rfl (by simp)
theorem BX10_moved_123 {C : gC} {G : gG} {Q : gK} {σ : gM} {a0 : Nat} {v1 : Int32} {v2 : Int32} {v3 : Int32} {v4 : Int32} {v5 : Int32} {v6 : Int32} {v7 : Int32} {s0 : Int32} {s1 : Int32} (h0 : isX10 G a0) : gw C G mX10_moved Q 123 [.ref a0, .int v1, .int v2, .int v3, .int v4, .int v5, .int v6, .int v7] [.int s1, .int s0] σ = (if v2 < (s0 + s1) then Q (some (.int v5)) σ else (g_inv C mX10_at [.ref a0, .int v6, .int 3] σ fun r σ' => gw C G mX10_moved Q 140 [.ref a0, .int v1, .int v2, .int v3, .int v4, .int v5, .int v6, .int v7] (r.toList ++ [.int v5]) σ')) := by
  refine Eq.trans (e_iadd dX10_moved_123) ?_
  refine Eq.trans (e_iload_n dX10_moved_124 rfl) ?_
  refine Eq.trans (e_ic_le (t := 131) dX10_moved_125 (by decide)) (g_ite ?_ ?_)
  · refine Eq.trans (e_iload dX10_moved_128 rfl) ?_
    exact e_ireti dX10_moved_130 rfl
  · refine Eq.trans (e_iload dX10_moved_131 rfl) ?_
    refine Eq.trans (e_aload_n dX10_moved_133 rfl) ?_
    refine Eq.trans (e_iload dX10_moved_134 rfl) ?_
    refine Eq.trans (e_iconst (x := 3) dX10_moved_136 (by decide)) ?_
    exact e_invv dX10_moved_137 cl_10_57 (kX10 h0) (by simp) rfl rfl (by simp)
theorem BX10_moved_140 {C : gC} {G : gG} {Q : gK} {σ : gM} {a0 : Nat} {v1 : Int32} {v2 : Int32} {v3 : Int32} {v4 : Int32} {v5 : Int32} {v6 : Int32} {v7 : Int32} {s0 : Int32} {s1 : Int32} (h0 : isX10 G a0) : gw C G mX10_moved Q 140 [.ref a0, .int v1, .int v2, .int v3, .int v4, .int v5, .int v6, .int v7] [.int s1, .int s0] σ = (g_inv C mX10_goes [.ref a0, .int v6, .int v7] σ fun r σ' => gw C G mX10_moved Q 151 [.ref a0, .int v1, .int v2, .int v3, .int v4, .int (s0 + s1), .int v6, .int v7] (r.toList ++ []) σ') := by
  refine Eq.trans (e_iadd dX10_moved_140) ?_
  refine Eq.trans (e_istore dX10_moved_141 (Nat.le_of_ble_eq_true rfl)) ?_
  refine Eq.trans (e_aload_n dX10_moved_143 rfl) ?_
  refine Eq.trans (e_iload dX10_moved_144 rfl) ?_
  refine Eq.trans (e_iload dX10_moved_146 rfl) ?_
  exact e_invv dX10_moved_148 cl_10_103 (kX10 h0) (by simp) rfl rfl (by simp)
theorem BX10_moved_151 {C : gC} {G : gG} {Q : gK} {σ : gM} {a0 : Nat} {v1 : Int32} {v2 : Int32} {v3 : Int32} {v4 : Int32} {v5 : Int32} {v6 : Int32} {v7 : Int32} (h0 : isX10 G a0) : gw C G mX10_moved Q 151 [.ref a0, .int v1, .int v2, .int v3, .int v4, .int v5, .int v6, .int v7] [] σ = (if v3 = 0 then (g_inv C mX10_at [.ref a0, .int v6, .int 2] σ fun r σ' => gw C G mX10_moved Q 180 [.ref a0, .int v1, .int v2, .int v3, .int v4, .int v5, .int v6, .int v7] (r.toList ++ []) σ') else (g_inv C mX10_at [.ref a0, .int v6, .int 2] σ fun r σ' => gw C G mX10_moved Q 162 [.ref a0, .int v1, .int v2, .int v3, .int v4, .int v5, .int v6, .int v7] (r.toList ++ []) σ')) := by
  refine Eq.trans (e_iload_n dX10_moved_151 rfl) ?_
  refine Eq.trans (e_if_eq (t := 173) dX10_moved_152 (by decide)) (g_ite ?_ ?_)
  · refine Eq.trans (e_aload_n dX10_moved_173 rfl) ?_
    refine Eq.trans (e_iload dX10_moved_174 rfl) ?_
    refine Eq.trans (e_iconst (x := 2) dX10_moved_176 (by decide)) ?_
    exact e_invv dX10_moved_177 cl_10_57 (kX10 h0) (by simp) rfl rfl (by simp)
  · refine Eq.trans (e_aload_n dX10_moved_155 rfl) ?_
    refine Eq.trans (e_iload dX10_moved_156 rfl) ?_
    refine Eq.trans (e_iconst (x := 2) dX10_moved_158 (by decide)) ?_
    exact e_invv dX10_moved_159 cl_10_57 (kX10 h0) (by simp) rfl rfl (by simp)
theorem BX10_moved_162 {C : gC} {G : gG} {Q : gK} {σ : gM} {a0 : Nat} {v1 : Int32} {v2 : Int32} {v3 : Int32} {v4 : Int32} {v5 : Int32} {v6 : Int32} {v7 : Int32} {s0 : Int32} (h0 : isX10 G a0) : gw C G mX10_moved Q 162 [.ref a0, .int v1, .int v2, .int v3, .int v4, .int v5, .int v6, .int v7] [.int s0] σ = (g_inv C mX10_at [.ref a0, .int v6, .int 3] σ fun r σ' => gw C G mX10_moved Q 169 [.ref a0, .int v1, .int v2, .int v3, .int v4, .int v5, .int v6, .int v7] (r.toList ++ [.int s0]) σ') := by
  refine Eq.trans (e_aload_n dX10_moved_162 rfl) ?_
  refine Eq.trans (e_iload dX10_moved_163 rfl) ?_
  refine Eq.trans (e_iconst (x := 3) dX10_moved_165 (by decide)) ?_
  exact e_invv dX10_moved_166 cl_10_57 (kX10 h0) (by simp) rfl rfl (by simp)
theorem BX10_moved_169 {C : gC} {G : gG} {Q : gK} {σ : gM} {a0 : Nat} {v1 : Int32} {v2 : Int32} {v3 : Int32} {v4 : Int32} {v5 : Int32} {v6 : Int32} {v7 : Int32} {s0 : Int32} {s1 : Int32} (h0 : isX10 G a0) : gw C G mX10_moved Q 169 [.ref a0, .int v1, .int v2, .int v3, .int v4, .int v5, .int v6, .int v7] [.int s1, .int s0] σ = gw C G mX10_moved Q 180 [.ref a0, .int v1, .int v2, .int v3, .int v4, .int v5, .int v6, .int v7] [.int (s0 + s1)] σ := by
  refine Eq.trans (e_iadd dX10_moved_169) ?_
  refine Eq.trans (e_goto (t := 180) dX10_moved_170 (by decide)) ?_
  rfl
theorem BX10_moved_180 {C : gC} {G : gG} {Q : gK} {σ : gM} {a0 : Nat} {v1 : Int32} {v2 : Int32} {v3 : Int32} {v4 : Int32} {v5 : Int32} {v6 : Int32} {v7 : Int32} {s0 : Int32} (h0 : isX10 G a0) : gw C G mX10_moved Q 180 [.ref a0, .int v1, .int v2, .int v3, .int v4, .int v5, .int v6, .int v7] [.int s0] σ = (g_inv C mX10_nextBlock [.ref a0, .int v1, .int s0, .int v3] σ fun r σ' => gw C G mX10_moved Q 190 [.ref a0, .int v1, .int v2, .int v3, .int s0, .int v5, .int v6, .int v7] (r.toList ++ []) σ') := by
  refine Eq.trans (e_istore dX10_moved_180 (Nat.le_of_ble_eq_true rfl)) ?_
  refine Eq.trans (e_aload_n dX10_moved_182 rfl) ?_
  refine Eq.trans (e_iload_n dX10_moved_183 rfl) ?_
  refine Eq.trans (e_iload dX10_moved_184 rfl) ?_
  refine Eq.trans (e_iload_n dX10_moved_186 rfl) ?_
  exact e_invv dX10_moved_187 cl_10_107 (kX10 h0) (by simp) rfl rfl (by simp)
theorem BX10_moved_190 {C : gC} {G : gG} {Q : gK} {σ : gM} {a0 : Nat} {v1 : Int32} {v2 : Int32} {v3 : Int32} {v4 : Int32} {v5 : Int32} {v6 : Int32} {v7 : Int32} {s0 : Int32} (h0 : isX10 G a0) : gw C G mX10_moved Q 190 [.ref a0, .int v1, .int v2, .int v3, .int v4, .int v5, .int v6, .int v7] [.int s0] σ = gw C G mX10_moved Q 56 [.ref a0, .int v1, .int v2, .int v3, .int v4, .int v5, .int s0, .int v7] [] σ := by
  refine Eq.trans (e_istore dX10_moved_190 (Nat.le_of_ble_eq_true rfl)) ?_
  refine Eq.trans (e_goto (t := 56) dX10_moved_192 (by decide)) ?_
  rfl
theorem BX10_nextBlock_0 {C : gC} {G : gG} {Q : gK} {σ : gM} {a0 : Nat} {v1 : Int32} {v2 : Int32} {v3 : Int32} (h0 : isX10 G a0) : gw C G mX10_nextBlock Q 0 [.ref a0, .int v1, .int v2, .int v3, .long 0, .long 0, .long 0] [] σ = gw C G mX10_nextBlock Q 7 [.ref a0, .int v1, .int v2, .int v3, .int (-2), .int 0, .long 0] [] σ := by
  refine Eq.trans (e_bipush (x := (-2)) dX10_nextBlock_0 (by decide)) ?_
  refine Eq.trans (e_istore dX10_nextBlock_2 (Nat.le_of_ble_eq_true rfl)) ?_
  refine Eq.trans (e_iconst (x := 0) dX10_nextBlock_4 (by decide)) ?_
  refine Eq.trans (e_istore dX10_nextBlock_5 (Nat.le_of_ble_eq_true rfl)) ?_
  rfl
theorem BX10_nextBlock_7 {C : gC} {G : gG} {Q : gK} {σ : gM} {a0 : Nat} {v1 : Int32} {v2 : Int32} {v3 : Int32} {v4 : Int32} {v5 : Int32} {wv6 : Value} (h0 : isX10 G a0) : gw C G mX10_nextBlock Q 7 [.ref a0, .int v1, .int v2, .int v3, .int v4, .int v5, wv6] [] σ = (if v5 < 30 then (g_inv C mX10_at [.ref a0, .int v5, .int 0] σ fun r σ' => gw C G mX10_nextBlock Q 21 [.ref a0, .int v1, .int v2, .int v3, .int v4, .int v5, wv6] (r.toList ++ []) σ') else Q (some (.int v4)) σ) := by
  refine Eq.trans (e_iload dX10_nextBlock_7 rfl) ?_
  refine Eq.trans (e_bipush (x := 30) dX10_nextBlock_9 (by decide)) ?_
  refine Eq.trans (e_ic_ge (t := 137) dX10_nextBlock_11 (by decide)) (g_ite ?_ ?_)
  · refine Eq.trans (e_aload_n dX10_nextBlock_14 rfl) ?_
    refine Eq.trans (e_iload dX10_nextBlock_15 rfl) ?_
    refine Eq.trans (e_iconst (x := 0) dX10_nextBlock_17 (by decide)) ?_
    exact e_invv dX10_nextBlock_18 cl_10_57 (kX10 h0) (by simp) rfl rfl (by simp)
  · refine Eq.trans (e_iload dX10_nextBlock_137 rfl) ?_
    exact e_ireti dX10_nextBlock_139 rfl
theorem BX10_nextBlock_21 {C : gC} {G : gG} {Q : gK} {σ : gM} {a0 : Nat} {v1 : Int32} {v2 : Int32} {v3 : Int32} {v4 : Int32} {v5 : Int32} {wv6 : Value} {s0 : Int32} (h0 : isX10 G a0) : gw C G mX10_nextBlock Q 21 [.ref a0, .int v1, .int v2, .int v3, .int v4, .int v5, wv6] [.int s0] σ = (if s0 = 0 then gw C G mX10_nextBlock Q 7 [.ref a0, .int v1, .int v2, .int v3, .int v4, .int (v5 + 1), wv6] [] σ else (g_inv C mX10_at [.ref a0, .int v5, .int 4] σ fun r σ' => gw C G mX10_nextBlock Q 31 [.ref a0, .int v1, .int v2, .int v3, .int v4, .int v5, wv6] (r.toList ++ []) σ')) := by
  refine Eq.trans (e_if_eq (t := 131) dX10_nextBlock_21 (by decide)) (g_ite ?_ ?_)
  · refine Eq.trans (e_iinc (y := 1) dX10_nextBlock_131 rfl (by decide)) ?_
    refine Eq.trans (e_goto (t := 7) dX10_nextBlock_134 (by decide)) ?_
    rfl
  · refine Eq.trans (e_aload_n dX10_nextBlock_24 rfl) ?_
    refine Eq.trans (e_iload dX10_nextBlock_25 rfl) ?_
    refine Eq.trans (e_iconst (x := 4) dX10_nextBlock_27 (by decide)) ?_
    exact e_invv dX10_nextBlock_28 cl_10_57 (kX10 h0) (by simp) rfl rfl (by simp)
theorem BX10_nextBlock_31 {C : gC} {G : gG} {Q : gK} {σ : gM} {a0 : Nat} {v1 : Int32} {v2 : Int32} {v3 : Int32} {v4 : Int32} {v5 : Int32} {wv6 : Value} {s0 : Int32} (h0 : isX10 G a0) : gw C G mX10_nextBlock Q 31 [.ref a0, .int v1, .int v2, .int v3, .int v4, .int v5, wv6] [.int s0] σ = (if s0 = v1 then (if v3 = 0 then (g_inv C mX10_at [.ref a0, .int v5, .int 2] σ fun r σ' => gw C G mX10_nextBlock Q 60 [.ref a0, .int v1, .int v2, .int v3, .int v4, .int v5, wv6] (r.toList ++ []) σ') else (g_inv C mX10_at [.ref a0, .int v5, .int 2] σ fun r σ' => gw C G mX10_nextBlock Q 46 [.ref a0, .int v1, .int v2, .int v3, .int v4, .int v5, wv6] (r.toList ++ []) σ')) else gw C G mX10_nextBlock Q 7 [.ref a0, .int v1, .int v2, .int v3, .int v4, .int (v5 + 1), wv6] [] σ) := by
  refine Eq.trans (e_iload_n dX10_nextBlock_31 rfl) ?_
  refine Eq.trans (e_ic_ne (t := 131) dX10_nextBlock_32 (by decide)) (g_ite ?_ ?_)
  · refine Eq.trans (e_iload_n dX10_nextBlock_35 rfl) ?_
    refine Eq.trans (e_if_eq (t := 53) dX10_nextBlock_36 (by decide)) (g_ite ?_ ?_)
    · refine Eq.trans (e_aload_n dX10_nextBlock_53 rfl) ?_
      refine Eq.trans (e_iload dX10_nextBlock_54 rfl) ?_
      refine Eq.trans (e_iconst (x := 2) dX10_nextBlock_56 (by decide)) ?_
      exact e_invv dX10_nextBlock_57 cl_10_57 (kX10 h0) (by simp) rfl rfl (by simp)
    · refine Eq.trans (e_aload_n dX10_nextBlock_39 rfl) ?_
      refine Eq.trans (e_iload dX10_nextBlock_40 rfl) ?_
      refine Eq.trans (e_iconst (x := 2) dX10_nextBlock_42 (by decide)) ?_
      exact e_invv dX10_nextBlock_43 cl_10_57 (kX10 h0) (by simp) rfl rfl (by simp)
  · refine Eq.trans (e_iinc (y := 1) dX10_nextBlock_131 rfl (by decide)) ?_
    refine Eq.trans (e_goto (t := 7) dX10_nextBlock_134 (by decide)) ?_
    rfl
theorem BX10_nextBlock_46 {C : gC} {G : gG} {Q : gK} {σ : gM} {a0 : Nat} {v1 : Int32} {v2 : Int32} {v3 : Int32} {v4 : Int32} {v5 : Int32} {wv6 : Value} {s0 : Int32} (h0 : isX10 G a0) : gw C G mX10_nextBlock Q 46 [.ref a0, .int v1, .int v2, .int v3, .int v4, .int v5, wv6] [.int s0] σ = (if s0 < v2 then gw C G mX10_nextBlock Q 7 [.ref a0, .int v1, .int v2, .int v3, .int v4, .int (v5 + 1), wv6] [] σ else gw C G mX10_nextBlock Q 64 [.ref a0, .int v1, .int v2, .int v3, .int v4, .int v5, wv6] [] σ) := by
  refine Eq.trans (e_iload_n dX10_nextBlock_46 rfl) ?_
  refine Eq.trans (e_ic_lt (t := 131) dX10_nextBlock_47 (by decide)) (g_ite ?_ ?_)
  · refine Eq.trans (e_iinc (y := 1) dX10_nextBlock_131 rfl (by decide)) ?_
    refine Eq.trans (e_goto (t := 7) dX10_nextBlock_134 (by decide)) ?_
    rfl
  · refine Eq.trans (e_goto (t := 64) dX10_nextBlock_50 (by decide)) ?_
    rfl
theorem BX10_nextBlock_60 {C : gC} {G : gG} {Q : gK} {σ : gM} {a0 : Nat} {v1 : Int32} {v2 : Int32} {v3 : Int32} {v4 : Int32} {v5 : Int32} {wv6 : Value} {s0 : Int32} (h0 : isX10 G a0) : gw C G mX10_nextBlock Q 60 [.ref a0, .int v1, .int v2, .int v3, .int v4, .int v5, wv6] [.int s0] σ = (if s0 < v2 then gw C G mX10_nextBlock Q 64 [.ref a0, .int v1, .int v2, .int v3, .int v4, .int v5, wv6] [] σ else gw C G mX10_nextBlock Q 7 [.ref a0, .int v1, .int v2, .int v3, .int v4, .int (v5 + 1), wv6] [] σ) := by
  refine Eq.trans (e_iload_n dX10_nextBlock_60 rfl) ?_
  refine Eq.trans (e_ic_ge (t := 131) dX10_nextBlock_61 (by decide)) (g_ite ?_ ?_)
  · rfl
  · refine Eq.trans (e_iinc (y := 1) dX10_nextBlock_131 rfl (by decide)) ?_
    refine Eq.trans (e_goto (t := 7) dX10_nextBlock_134 (by decide)) ?_
    rfl
theorem BX10_nextBlock_64 {C : gC} {G : gG} {Q : gK} {σ : gM} {a0 : Nat} {v1 : Int32} {v2 : Int32} {v3 : Int32} {v4 : Int32} {v5 : Int32} {wv6 : Value} (h0 : isX10 G a0) : gw C G mX10_nextBlock Q 64 [.ref a0, .int v1, .int v2, .int v3, .int v4, .int v5, wv6] [] σ = (if v4 < 0 then gw C G mX10_nextBlock Q 110 [.ref a0, .int v1, .int v2, .int v3, .int v4, .int v5, wv6] [] σ else (if v3 = 0 then (g_inv C mX10_at [.ref a0, .int v5, .int 2] σ fun r σ' => gw C G mX10_nextBlock Q 100 [.ref a0, .int v1, .int v2, .int v3, .int v4, .int v5, wv6] (r.toList ++ []) σ') else (g_inv C mX10_at [.ref a0, .int v5, .int 2] σ fun r σ' => gw C G mX10_nextBlock Q 80 [.ref a0, .int v1, .int v2, .int v3, .int v4, .int v5, wv6] (r.toList ++ []) σ'))) := by
  refine Eq.trans (e_iload dX10_nextBlock_64 rfl) ?_
  refine Eq.trans (e_if_lt (t := 110) dX10_nextBlock_66 (by decide)) (g_ite ?_ ?_)
  · rfl
  · refine Eq.trans (e_iload_n dX10_nextBlock_69 rfl) ?_
    refine Eq.trans (e_if_eq (t := 93) dX10_nextBlock_70 (by decide)) (g_ite ?_ ?_)
    · refine Eq.trans (e_aload_n dX10_nextBlock_93 rfl) ?_
      refine Eq.trans (e_iload dX10_nextBlock_94 rfl) ?_
      refine Eq.trans (e_iconst (x := 2) dX10_nextBlock_96 (by decide)) ?_
      exact e_invv dX10_nextBlock_97 cl_10_57 (kX10 h0) (by simp) rfl rfl (by simp)
    · refine Eq.trans (e_aload_n dX10_nextBlock_73 rfl) ?_
      refine Eq.trans (e_iload dX10_nextBlock_74 rfl) ?_
      refine Eq.trans (e_iconst (x := 2) dX10_nextBlock_76 (by decide)) ?_
      exact e_invv dX10_nextBlock_77 cl_10_57 (kX10 h0) (by simp) rfl rfl (by simp)
theorem BX10_nextBlock_80 {C : gC} {G : gG} {Q : gK} {σ : gM} {a0 : Nat} {v1 : Int32} {v2 : Int32} {v3 : Int32} {v4 : Int32} {v5 : Int32} {wv6 : Value} {s0 : Int32} (h0 : isX10 G a0) : gw C G mX10_nextBlock Q 80 [.ref a0, .int v1, .int v2, .int v3, .int v4, .int v5, wv6] [.int s0] σ = (g_inv C mX10_at [.ref a0, .int v4, .int 2] σ fun r σ' => gw C G mX10_nextBlock Q 87 [.ref a0, .int v1, .int v2, .int v3, .int v4, .int v5, wv6] (r.toList ++ [.int s0]) σ') := by
  refine Eq.trans (e_aload_n dX10_nextBlock_80 rfl) ?_
  refine Eq.trans (e_iload dX10_nextBlock_81 rfl) ?_
  refine Eq.trans (e_iconst (x := 2) dX10_nextBlock_83 (by decide)) ?_
  exact e_invv dX10_nextBlock_84 cl_10_57 (kX10 h0) (by simp) rfl rfl (by simp)
theorem BX10_nextBlock_87 {C : gC} {G : gG} {Q : gK} {σ : gM} {a0 : Nat} {v1 : Int32} {v2 : Int32} {v3 : Int32} {v4 : Int32} {v5 : Int32} {wv6 : Value} {s0 : Int32} {s1 : Int32} (h0 : isX10 G a0) : gw C G mX10_nextBlock Q 87 [.ref a0, .int v1, .int v2, .int v3, .int v4, .int v5, wv6] [.int s1, .int s0] σ = (if s0 < s1 then gw C G mX10_nextBlock Q 110 [.ref a0, .int v1, .int v2, .int v3, .int v4, .int v5, wv6] [] σ else gw C G mX10_nextBlock Q 114 [.ref a0, .int v1, .int v2, .int v3, .int v4, .int v5, wv6] [] σ) := by
  refine Eq.trans (e_ic_ge (t := 114) dX10_nextBlock_87 (by decide)) (g_ite ?_ ?_)
  · refine Eq.trans (e_goto (t := 110) dX10_nextBlock_90 (by decide)) ?_
    rfl
  · rfl
theorem BX10_nextBlock_100 {C : gC} {G : gG} {Q : gK} {σ : gM} {a0 : Nat} {v1 : Int32} {v2 : Int32} {v3 : Int32} {v4 : Int32} {v5 : Int32} {wv6 : Value} {s0 : Int32} (h0 : isX10 G a0) : gw C G mX10_nextBlock Q 100 [.ref a0, .int v1, .int v2, .int v3, .int v4, .int v5, wv6] [.int s0] σ = (g_inv C mX10_at [.ref a0, .int v4, .int 2] σ fun r σ' => gw C G mX10_nextBlock Q 107 [.ref a0, .int v1, .int v2, .int v3, .int v4, .int v5, wv6] (r.toList ++ [.int s0]) σ') := by
  refine Eq.trans (e_aload_n dX10_nextBlock_100 rfl) ?_
  refine Eq.trans (e_iload dX10_nextBlock_101 rfl) ?_
  refine Eq.trans (e_iconst (x := 2) dX10_nextBlock_103 (by decide)) ?_
  exact e_invv dX10_nextBlock_104 cl_10_57 (kX10 h0) (by simp) rfl rfl (by simp)
theorem BX10_nextBlock_107 {C : gC} {G : gG} {Q : gK} {σ : gM} {a0 : Nat} {v1 : Int32} {v2 : Int32} {v3 : Int32} {v4 : Int32} {v5 : Int32} {wv6 : Value} {s0 : Int32} {s1 : Int32} (h0 : isX10 G a0) : gw C G mX10_nextBlock Q 107 [.ref a0, .int v1, .int v2, .int v3, .int v4, .int v5, wv6] [.int s1, .int s0] σ = (if s1 < s0 then gw C G mX10_nextBlock Q 110 [.ref a0, .int v1, .int v2, .int v3, .int v4, .int v5, wv6] [] σ else gw C G mX10_nextBlock Q 114 [.ref a0, .int v1, .int v2, .int v3, .int v4, .int v5, wv6] [] σ) := by
  refine Eq.trans (e_ic_le (t := 114) dX10_nextBlock_107 (by decide)) (g_ite ?_ ?_)
  · rfl
  · rfl
theorem BX10_nextBlock_110 {C : gC} {G : gG} {Q : gK} {σ : gM} {a0 : Nat} {v1 : Int32} {v2 : Int32} {v3 : Int32} {v4 : Int32} {v5 : Int32} {wv6 : Value} (h0 : isX10 G a0) : gw C G mX10_nextBlock Q 110 [.ref a0, .int v1, .int v2, .int v3, .int v4, .int v5, wv6] [] σ = gw C G mX10_nextBlock Q 115 [.ref a0, .int v1, .int v2, .int v3, .int v4, .int v5, wv6] [.int 1] σ := by
  refine Eq.trans (e_iconst (x := 1) dX10_nextBlock_110 (by decide)) ?_
  refine Eq.trans (e_goto (t := 115) dX10_nextBlock_111 (by decide)) ?_
  rfl
theorem BX10_nextBlock_114 {C : gC} {G : gG} {Q : gK} {σ : gM} {a0 : Nat} {v1 : Int32} {v2 : Int32} {v3 : Int32} {v4 : Int32} {v5 : Int32} {wv6 : Value} (h0 : isX10 G a0) : gw C G mX10_nextBlock Q 114 [.ref a0, .int v1, .int v2, .int v3, .int v4, .int v5, wv6] [] σ = gw C G mX10_nextBlock Q 115 [.ref a0, .int v1, .int v2, .int v3, .int v4, .int v5, wv6] [.int 0] σ := by
  refine Eq.trans (e_iconst (x := 0) dX10_nextBlock_114 (by decide)) ?_
  rfl
theorem BX10_nextBlock_115 {C : gC} {G : gG} {Q : gK} {σ : gM} {a0 : Nat} {v1 : Int32} {v2 : Int32} {v3 : Int32} {v4 : Int32} {v5 : Int32} {wv6 : Value} {s0 : Int32} (h0 : isX10 G a0) : gw C G mX10_nextBlock Q 115 [.ref a0, .int v1, .int v2, .int v3, .int v4, .int v5, wv6] [.int s0] σ = (if s0 = 0 then gw C G mX10_nextBlock Q 7 [.ref a0, .int v1, .int v2, .int v3, .int v4, .int (v5 + 1), .int s0] [] σ else gw C G mX10_nextBlock Q 7 [.ref a0, .int v1, .int v2, .int v3, .int v5, .int (v5 + 1), .int s0] [] σ) := by
  refine Eq.trans (e_istore dX10_nextBlock_115 (Nat.le_of_ble_eq_true rfl)) ?_
  refine Eq.trans (e_iload dX10_nextBlock_117 rfl) ?_
  refine Eq.trans (e_if_eq (t := 127) dX10_nextBlock_119 (by decide)) (g_ite ?_ ?_)
  · refine Eq.trans (e_iload dX10_nextBlock_127 rfl) ?_
    refine Eq.trans (e_istore dX10_nextBlock_129 (Nat.le_of_ble_eq_true rfl)) ?_
    refine Eq.trans (e_iinc (y := 1) dX10_nextBlock_131 rfl (by decide)) ?_
    refine Eq.trans (e_goto (t := 7) dX10_nextBlock_134 (by decide)) ?_
    rfl
  · refine Eq.trans (e_iload dX10_nextBlock_122 rfl) ?_
    refine Eq.trans (e_goto (t := 129) dX10_nextBlock_124 (by decide)) ?_
    refine Eq.trans (e_istore dX10_nextBlock_129 (Nat.le_of_ble_eq_true rfl)) ?_
    refine Eq.trans (e_iinc (y := 1) dX10_nextBlock_131 rfl (by decide)) ?_
    refine Eq.trans (e_goto (t := 7) dX10_nextBlock_134 (by decide)) ?_
    rfl
theorem BX10_write_0 {C : gC} {G : gG} {Q : gK} {σ : gM} {a0 : Nat} {v1 : Int32} {v2 : Int32} {v3 : Int32} (h0 : isX10 G a0) : gw C G mX10_write Q 0 [.ref a0, .int v1, .int v2, .int v3, .long 0, .long 0] [] σ = (g_inv C mX10_good [.ref a0, .int v1] σ fun r σ' => gw C G mX10_write Q 5 [.ref a0, .int v1, .int v2, .int v3, .long 0, .long 0] (r.toList ++ []) σ') := by
  refine Eq.trans (e_aload_n dX10_write_0 rfl) ?_
  refine Eq.trans (e_iload_n dX10_write_1 rfl) ?_
  exact e_invv dX10_write_2 cl_10_96 (kX10 h0) (by simp) rfl rfl (by simp)
theorem BX10_write_5 {C : gC} {G : gG} {Q : gK} {σ : gM} {a0 : Nat} {v1 : Int32} {v2 : Int32} {v3 : Int32} {wv4 : Value} {wv5 : Value} {s0 : Int32} (h0 : isX10 G a0) : gw C G mX10_write Q 5 [.ref a0, .int v1, .int v2, .int v3, wv4, wv5] [.int s0] σ = (if s0 < 0 then Q (some (.int (-2000000000))) σ else (g_inv C mX10_at [.ref a0, .int s0, .int 3] σ fun r σ' => gw C G mX10_write Q 21 [.ref a0, .int v1, .int v2, .int v3, .int s0, wv5] (r.toList ++ [.int 0, .int v2]) σ')) := by
  refine Eq.trans (e_istore dX10_write_5 (Nat.le_of_ble_eq_true rfl)) ?_
  refine Eq.trans (e_iload dX10_write_7 rfl) ?_
  refine Eq.trans (e_if_lt (t := 29) dX10_write_9 (by decide)) (g_ite ?_ ?_)
  · refine Eq.trans (e_ldc dX10_write_29 cn_10_114) ?_
    exact e_ireti dX10_write_31 rfl
  · refine Eq.trans (e_iload_n dX10_write_12 rfl) ?_
    refine Eq.trans (e_iconst (x := 0) dX10_write_13 (by decide)) ?_
    refine Eq.trans (e_aload_n dX10_write_14 rfl) ?_
    refine Eq.trans (e_iload dX10_write_15 rfl) ?_
    refine Eq.trans (e_iconst (x := 3) dX10_write_17 (by decide)) ?_
    exact e_invv dX10_write_18 cl_10_57 (kX10 h0) (by simp) rfl rfl (by simp)
theorem BX10_write_21 {C : gC} {G : gG} {Q : gK} {σ : gM} {a0 : Nat} {v1 : Int32} {v2 : Int32} {v3 : Int32} {v4 : Int32} {wv5 : Value} {s0 : Int32} {s1 : Int32} {s2 : Int32} (h0 : isX10 G a0) : gw C G mX10_write Q 21 [.ref a0, .int v1, .int v2, .int v3, .int v4, wv5] [.int s2, .int s1, .int s0] σ = (g_inv C mX10_in [.int s0, .int s1, .int (s2 - 1)] σ fun r σ' => gw C G mX10_write Q 26 [.ref a0, .int v1, .int v2, .int v3, .int v4, wv5] (r.toList ++ []) σ') := by
  refine Eq.trans (e_iconst (x := 1) dX10_write_21 (by decide)) ?_
  refine Eq.trans (e_isub dX10_write_22) ?_
  exact e_invs dX10_write_23 cl_10_65 (by decide) (by simp) rfl rfl (by simp)
theorem BX10_write_26 {C : gC} {G : gG} {Q : gK} {σ : gM} {a0 : Nat} {v1 : Int32} {v2 : Int32} {v3 : Int32} {v4 : Int32} {wv5 : Value} {s0 : Int32} (h0 : isX10 G a0) : gw C G mX10_write Q 26 [.ref a0, .int v1, .int v2, .int v3, .int v4, wv5] [.int s0] σ = (if s0 = 0 then Q (some (.int (-2000000000))) σ else (g_inv C mX10_at [.ref a0, .int v4, .int 2] σ fun r σ' => gw C G mX10_write Q 46 [.ref a0, .int v1, .int v2, .int v3, .int v4, wv5] (r.toList ++ [.int 330, .ref (a0 + 1)]) σ')) := by
  refine Eq.trans (e_if_ne (t := 32) dX10_write_26 (by decide)) (g_ite ?_ ?_)
  · refine Eq.trans (e_ldc dX10_write_29 cn_10_114) ?_
    exact e_ireti dX10_write_31 rfl
  · refine Eq.trans (e_aload_n dX10_write_32 rfl) ?_
    refine Eq.trans (e_getr (b := a0 + 1) dX10_write_33 fl_10_9 (kX10 h0) (sX10_0 h0)) ?_
    refine Eq.trans (e_sipush (x := 330) dX10_write_36 (by decide)) ?_
    refine Eq.trans (e_aload_n dX10_write_39 rfl) ?_
    refine Eq.trans (e_iload dX10_write_40 rfl) ?_
    refine Eq.trans (e_iconst (x := 2) dX10_write_42 (by decide)) ?_
    exact e_invv dX10_write_43 cl_10_57 (kX10 h0) (by simp) rfl rfl (by simp)
theorem BX10_write_46 {C : gC} {G : gG} {Q : gK} {σ : gM} {a0 : Nat} {v1 : Int32} {v2 : Int32} {v3 : Int32} {v4 : Int32} {wv5 : Value} {s1 : Int32} {s2 : Int32} (h0 : isX10 G a0) : gw C G mX10_write Q 46 [.ref a0, .int v1, .int v2, .int v3, .int v4, wv5] [.int s2, .int s1, .ref (a0 + 1)] σ = (vp_in ((s1 + s2) + v2) 607 ∧ (g_inv C mX10_at [.ref a0, .int v4, .int 2] σ fun r σ' => gw C G mX10_write Q 66 [.ref a0, .int v1, .int v2, .int v3, .int v4, .int (σ (a0 + 1) ((s1 + s2) + v2).toNatClampNeg)] (r.toList ++ [.int 330, .ref (a0 + 1)]) σ')) := by
  refine Eq.trans (e_iadd dX10_write_46) ?_
  refine Eq.trans (e_iload_n dX10_write_47 rfl) ?_
  refine Eq.trans (e_iadd dX10_write_48) ?_
  refine Eq.trans (e_iald dX10_write_49 (aX10_0 h0) (nX10_0 h0)) (g_cj ?_)
  refine Eq.trans (e_istore dX10_write_50 (Nat.le_of_ble_eq_true rfl)) ?_
  refine Eq.trans (e_aload_n dX10_write_52 rfl) ?_
  refine Eq.trans (e_getr (b := a0 + 1) dX10_write_53 fl_10_9 (kX10 h0) (sX10_0 h0)) ?_
  refine Eq.trans (e_sipush (x := 330) dX10_write_56 (by decide)) ?_
  refine Eq.trans (e_aload_n dX10_write_59 rfl) ?_
  refine Eq.trans (e_iload dX10_write_60 rfl) ?_
  refine Eq.trans (e_iconst (x := 2) dX10_write_62 (by decide)) ?_
  exact e_invv dX10_write_63 cl_10_57 (kX10 h0) (by simp) rfl rfl (by simp)
theorem BX10_write_66 {C : gC} {G : gG} {Q : gK} {σ : gM} {a0 : Nat} {v1 : Int32} {v2 : Int32} {v3 : Int32} {v4 : Int32} {v5 : Int32} {s1 : Int32} {s2 : Int32} (h0 : isX10 G a0) : gw C G mX10_write Q 66 [.ref a0, .int v1, .int v2, .int v3, .int v4, .int v5] [.int s2, .int s1, .ref (a0 + 1)] σ = (vp_in ((s1 + s2) + v2) 607 ∧ Q (some (.int v5)) (g_up σ (a0 + 1) ((s1 + s2) + v2).toNatClampNeg v3)) := by
  refine Eq.trans (e_iadd dX10_write_66) ?_
  refine Eq.trans (e_iload_n dX10_write_67 rfl) ?_
  refine Eq.trans (e_iadd dX10_write_68) ?_
  refine Eq.trans (e_iload_n dX10_write_69 rfl) ?_
  refine Eq.trans (e_iast dX10_write_70 (aX10_0 h0) (nX10_0 h0)) (g_cj ?_)
  refine Eq.trans (e_iload dX10_write_71 rfl) ?_
  exact e_ireti dX10_write_73 rfl
theorem BX10_read_0 {C : gC} {G : gG} {Q : gK} {σ : gM} {a0 : Nat} {v1 : Int32} {v2 : Int32} (h0 : isX10 G a0) : gw C G mX10_read Q 0 [.ref a0, .int v1, .int v2, .long 0] [] σ = (g_inv C mX10_good [.ref a0, .int v1] σ fun r σ' => gw C G mX10_read Q 5 [.ref a0, .int v1, .int v2, .long 0] (r.toList ++ []) σ') := by
  refine Eq.trans (e_aload_n dX10_read_0 rfl) ?_
  refine Eq.trans (e_iload_n dX10_read_1 rfl) ?_
  exact e_invv dX10_read_2 cl_10_96 (kX10 h0) (by simp) rfl rfl (by simp)
theorem BX10_read_5 {C : gC} {G : gG} {Q : gK} {σ : gM} {a0 : Nat} {v1 : Int32} {v2 : Int32} {wv3 : Value} {s0 : Int32} (h0 : isX10 G a0) : gw C G mX10_read Q 5 [.ref a0, .int v1, .int v2, wv3] [.int s0] σ = (if s0 < 0 then gw C G mX10_read Q 21 [.ref a0, .int v1, .int v2, .int s0] [.int (-2000000000)] σ else (g_inv C mX10_cellOf [.ref a0, .int s0, .int v2] σ fun r σ' => gw C G mX10_read Q 21 [.ref a0, .int v1, .int v2, .int s0] (r.toList ++ []) σ')) := by
  refine Eq.trans (e_istore_n dX10_read_5 (Nat.le_of_ble_eq_true rfl)) ?_
  refine Eq.trans (e_iload_n dX10_read_6 rfl) ?_
  refine Eq.trans (e_if_ge (t := 15) dX10_read_7 (by decide)) (g_ite ?_ ?_)
  · refine Eq.trans (e_ldc dX10_read_10 cn_10_114) ?_
    refine Eq.trans (e_goto (t := 21) dX10_read_12 (by decide)) ?_
    rfl
  · refine Eq.trans (e_aload_n dX10_read_15 rfl) ?_
    refine Eq.trans (e_iload_n dX10_read_16 rfl) ?_
    refine Eq.trans (e_iload_n dX10_read_17 rfl) ?_
    exact e_invv dX10_read_18 cl_10_115 (kX10 h0) (by simp) rfl rfl (by simp)
theorem BX10_read_21 {C : gC} {G : gG} {Q : gK} {σ : gM} {a0 : Nat} {v1 : Int32} {v2 : Int32} {v3 : Int32} {s0 : Int32} (h0 : isX10 G a0) : gw C G mX10_read Q 21 [.ref a0, .int v1, .int v2, .int v3] [.int s0] σ = Q (some (.int s0)) σ := by
  exact e_ireti dX10_read_21 rfl
theorem BX10_cellOf_0 {C : gC} {G : gG} {Q : gK} {σ : gM} {a0 : Nat} {v1 : Int32} {v2 : Int32} (h0 : isX10 G a0) : gw C G mX10_cellOf Q 0 [.ref a0, .int v1, .int v2] [] σ = (g_inv C mX10_at [.ref a0, .int v1, .int 3] σ fun r σ' => gw C G mX10_cellOf Q 8 [.ref a0, .int v1, .int v2] (r.toList ++ [.int 0, .int v2]) σ') := by
  refine Eq.trans (e_iload_n dX10_cellOf_0 rfl) ?_
  refine Eq.trans (e_iconst (x := 0) dX10_cellOf_1 (by decide)) ?_
  refine Eq.trans (e_aload_n dX10_cellOf_2 rfl) ?_
  refine Eq.trans (e_iload_n dX10_cellOf_3 rfl) ?_
  refine Eq.trans (e_iconst (x := 3) dX10_cellOf_4 (by decide)) ?_
  exact e_invv dX10_cellOf_5 cl_10_57 (kX10 h0) (by simp) rfl rfl (by simp)
theorem BX10_cellOf_8 {C : gC} {G : gG} {Q : gK} {σ : gM} {a0 : Nat} {v1 : Int32} {v2 : Int32} {s0 : Int32} {s1 : Int32} {s2 : Int32} (h0 : isX10 G a0) : gw C G mX10_cellOf Q 8 [.ref a0, .int v1, .int v2] [.int s2, .int s1, .int s0] σ = (g_inv C mX10_in [.int s0, .int s1, .int (s2 - 1)] σ fun r σ' => gw C G mX10_cellOf Q 13 [.ref a0, .int v1, .int v2] (r.toList ++ []) σ') := by
  refine Eq.trans (e_iconst (x := 1) dX10_cellOf_8 (by decide)) ?_
  refine Eq.trans (e_isub dX10_cellOf_9) ?_
  exact e_invs dX10_cellOf_10 cl_10_65 (by decide) (by simp) rfl rfl (by simp)
theorem BX10_cellOf_13 {C : gC} {G : gG} {Q : gK} {σ : gM} {a0 : Nat} {v1 : Int32} {v2 : Int32} {s0 : Int32} (h0 : isX10 G a0) : gw C G mX10_cellOf Q 13 [.ref a0, .int v1, .int v2] [.int s0] σ = (if s0 = 0 then Q (some (.int (-2000000000))) σ else (g_inv C mX10_at [.ref a0, .int v1, .int 2] σ fun r σ' => gw C G mX10_cellOf Q 29 [.ref a0, .int v1, .int v2] (r.toList ++ [.int 330, .ref (a0 + 1)]) σ')) := by
  refine Eq.trans (e_if_eq (t := 36) dX10_cellOf_13 (by decide)) (g_ite ?_ ?_)
  · refine Eq.trans (e_ldc dX10_cellOf_36 cn_10_114) ?_
    exact e_ireti dX10_cellOf_38 rfl
  · refine Eq.trans (e_aload_n dX10_cellOf_16 rfl) ?_
    refine Eq.trans (e_getr (b := a0 + 1) dX10_cellOf_17 fl_10_9 (kX10 h0) (sX10_0 h0)) ?_
    refine Eq.trans (e_sipush (x := 330) dX10_cellOf_20 (by decide)) ?_
    refine Eq.trans (e_aload_n dX10_cellOf_23 rfl) ?_
    refine Eq.trans (e_iload_n dX10_cellOf_24 rfl) ?_
    refine Eq.trans (e_iconst (x := 2) dX10_cellOf_25 (by decide)) ?_
    exact e_invv dX10_cellOf_26 cl_10_57 (kX10 h0) (by simp) rfl rfl (by simp)
theorem BX10_cellOf_29 {C : gC} {G : gG} {Q : gK} {σ : gM} {a0 : Nat} {v1 : Int32} {v2 : Int32} {s1 : Int32} {s2 : Int32} (h0 : isX10 G a0) : gw C G mX10_cellOf Q 29 [.ref a0, .int v1, .int v2] [.int s2, .int s1, .ref (a0 + 1)] σ = (vp_in ((s1 + s2) + v2) 607 ∧ Q (some (.int (σ (a0 + 1) ((s1 + s2) + v2).toNatClampNeg))) σ) := by
  refine Eq.trans (e_iadd dX10_cellOf_29) ?_
  refine Eq.trans (e_iload_n dX10_cellOf_30 rfl) ?_
  refine Eq.trans (e_iadd dX10_cellOf_31) ?_
  refine Eq.trans (e_iald dX10_cellOf_32 (aX10_0 h0) (nX10_0 h0)) (g_cj ?_)
  refine Eq.trans (e_goto (t := 38) dX10_cellOf_33 (by decide)) ?_
  exact e_ireti dX10_cellOf_38 rfl
theorem BX10_peek_0 {C : gC} {G : gG} {Q : gK} {σ : gM} {a0 : Nat} {v1 : Int32} {v2 : Int32} {v3 : Int32} (h0 : isX10 G a0) : gw C G mX10_peek Q 0 [.ref a0, .int v1, .int v2, .int v3, .long 0, .long 0] [] σ = (g_inv C mX10_in [.int v1, .int 0, .int 5] σ fun r σ' => gw C G mX10_peek Q 6 [.ref a0, .int v1, .int v2, .int v3, .long 0, .long 0] (r.toList ++ []) σ') := by
  refine Eq.trans (e_iload_n dX10_peek_0 rfl) ?_
  refine Eq.trans (e_iconst (x := 0) dX10_peek_1 (by decide)) ?_
  refine Eq.trans (e_iconst (x := 5) dX10_peek_2 (by decide)) ?_
  exact e_invs dX10_peek_3 cl_10_65 (by decide) (by simp) rfl rfl (by simp)
theorem BX10_peek_6 {C : gC} {G : gG} {Q : gK} {σ : gM} {a0 : Nat} {v1 : Int32} {v2 : Int32} {v3 : Int32} {wv4 : Value} {wv5 : Value} {s0 : Int32} (h0 : isX10 G a0) : gw C G mX10_peek Q 6 [.ref a0, .int v1, .int v2, .int v3, wv4, wv5] [.int s0] σ = (if s0 = 0 then Q (some (.int (-2000000000))) σ else (vp_in (599 + v1) 607 ∧ (if (σ (a0 + 1) (599 + v1).toNatClampNeg) < 0 then Q (some (.int (-2000000000))) σ else (if v2 < 0 then Q (some (.int (-2000000000))) σ else (if (v2 - v2 / 100 * 100) < 30 then (g_inv C mX10_isLive [.ref a0, .int (v2 - v2 / 100 * 100)] σ fun r σ' => gw C G mX10_peek Q 50 [.ref a0, .int v1, .int v2, .int v3, .int (v2 - v2 / 100 * 100), wv5] (r.toList ++ []) σ') else Q (some (.int (-2000000000))) σ))))) := by
  refine Eq.trans (e_if_eq (t := 35) dX10_peek_6 (by decide)) (g_ite ?_ ?_)
  · refine Eq.trans (e_ldc dX10_peek_35 cn_10_114) ?_
    exact e_ireti dX10_peek_37 rfl
  · refine Eq.trans (e_aload_n dX10_peek_9 rfl) ?_
    refine Eq.trans (e_getr (b := a0 + 1) dX10_peek_10 fl_10_9 (kX10 h0) (sX10_0 h0)) ?_
    refine Eq.trans (e_sipush (x := 599) dX10_peek_13 (by decide)) ?_
    refine Eq.trans (e_iload_n dX10_peek_16 rfl) ?_
    refine Eq.trans (e_iadd dX10_peek_17) ?_
    refine Eq.trans (e_iald dX10_peek_18 (aX10_0 h0) (nX10_0 h0)) (g_cj ?_)
    refine Eq.trans (e_if_lt (t := 35) dX10_peek_19 (by decide)) (g_ite ?_ ?_)
    · refine Eq.trans (e_ldc dX10_peek_35 cn_10_114) ?_
      exact e_ireti dX10_peek_37 rfl
    · refine Eq.trans (e_iload_n dX10_peek_22 rfl) ?_
      refine Eq.trans (e_if_lt (t := 35) dX10_peek_23 (by decide)) (g_ite ?_ ?_)
      · refine Eq.trans (e_ldc dX10_peek_35 cn_10_114) ?_
        exact e_ireti dX10_peek_37 rfl
      · refine Eq.trans (e_iload_n dX10_peek_26 rfl) ?_
        refine Eq.trans (e_bipush (x := 100) dX10_peek_27 (by decide)) ?_
        refine Eq.trans (e_irem dX10_peek_29 (by decide)) ?_
        refine Eq.trans (e_bipush (x := 30) dX10_peek_30 (by decide)) ?_
        refine Eq.trans (e_ic_lt (t := 38) dX10_peek_32 (by decide)) (g_ite ?_ ?_)
        · refine Eq.trans (e_iload_n dX10_peek_38 rfl) ?_
          refine Eq.trans (e_bipush (x := 100) dX10_peek_39 (by decide)) ?_
          refine Eq.trans (e_irem dX10_peek_41 (by decide)) ?_
          refine Eq.trans (e_istore dX10_peek_42 (Nat.le_of_ble_eq_true rfl)) ?_
          refine Eq.trans (e_aload_n dX10_peek_44 rfl) ?_
          refine Eq.trans (e_iload dX10_peek_45 rfl) ?_
          exact e_invv dX10_peek_47 cl_10_61 (kX10 h0) (by simp) rfl rfl (by simp)
        · refine Eq.trans (e_ldc dX10_peek_35 cn_10_114) ?_
          exact e_ireti dX10_peek_37 rfl
theorem BX10_peek_50 {C : gC} {G : gG} {Q : gK} {σ : gM} {a0 : Nat} {v1 : Int32} {v2 : Int32} {v3 : Int32} {v4 : Int32} {wv5 : Value} {s0 : Int32} (h0 : isX10 G a0) : gw C G mX10_peek Q 50 [.ref a0, .int v1, .int v2, .int v3, .int v4, wv5] [.int s0] σ = (if s0 = 0 then (g_inv C mX10_at [.ref a0, .int v4, .int 0] σ fun r σ' => gw C G mX10_peek Q 60 [.ref a0, .int v1, .int v2, .int v3, .int v4, wv5] (r.toList ++ []) σ') else gw C G mX10_peek Q 85 [.ref a0, .int v1, .int v2, .int v3, .int v4, wv5] [] σ) := by
  refine Eq.trans (e_if_ne (t := 85) dX10_peek_50 (by decide)) (g_ite ?_ ?_)
  · refine Eq.trans (e_aload_n dX10_peek_53 rfl) ?_
    refine Eq.trans (e_iload dX10_peek_54 rfl) ?_
    refine Eq.trans (e_iconst (x := 0) dX10_peek_56 (by decide)) ?_
    exact e_invv dX10_peek_57 cl_10_57 (kX10 h0) (by simp) rfl rfl (by simp)
  · rfl
theorem BX10_peek_60 {C : gC} {G : gG} {Q : gK} {σ : gM} {a0 : Nat} {v1 : Int32} {v2 : Int32} {v3 : Int32} {v4 : Int32} {wv5 : Value} {s0 : Int32} (h0 : isX10 G a0) : gw C G mX10_peek Q 60 [.ref a0, .int v1, .int v2, .int v3, .int v4, wv5] [.int s0] σ = (if s0 = 2 then (g_inv C mX10_at [.ref a0, .int v4, .int 9] σ fun r σ' => gw C G mX10_peek Q 72 [.ref a0, .int v1, .int v2, .int v3, .int v4, wv5] (r.toList ++ []) σ') else gw C G mX10_peek Q 89 [.ref a0, .int v1, .int v2, .int v3, .int v4, wv5] [] σ) := by
  refine Eq.trans (e_iconst (x := 2) dX10_peek_60 (by decide)) ?_
  refine Eq.trans (e_ic_ne (t := 89) dX10_peek_61 (by decide)) (g_ite ?_ ?_)
  · refine Eq.trans (e_aload_n dX10_peek_64 rfl) ?_
    refine Eq.trans (e_iload dX10_peek_65 rfl) ?_
    refine Eq.trans (e_bipush (x := 9) dX10_peek_67 (by decide)) ?_
    exact e_invv dX10_peek_69 cl_10_57 (kX10 h0) (by simp) rfl rfl (by simp)
  · rfl
theorem BX10_peek_72 {C : gC} {G : gG} {Q : gK} {σ : gM} {a0 : Nat} {v1 : Int32} {v2 : Int32} {v3 : Int32} {v4 : Int32} {wv5 : Value} {s0 : Int32} (h0 : isX10 G a0) : gw C G mX10_peek Q 72 [.ref a0, .int v1, .int v2, .int v3, .int v4, wv5] [.int s0] σ = (vp_in (599 + v1) 607 ∧ (if s0 < (σ (a0 + 1) (599 + v1).toNatClampNeg) then gw C G mX10_peek Q 89 [.ref a0, .int v1, .int v2, .int v3, .int v4, wv5] [] σ else gw C G mX10_peek Q 85 [.ref a0, .int v1, .int v2, .int v3, .int v4, wv5] [] σ)) := by
  refine Eq.trans (e_aload_n dX10_peek_72 rfl) ?_
  refine Eq.trans (e_getr (b := a0 + 1) dX10_peek_73 fl_10_9 (kX10 h0) (sX10_0 h0)) ?_
  refine Eq.trans (e_sipush (x := 599) dX10_peek_76 (by decide)) ?_
  refine Eq.trans (e_iload_n dX10_peek_79 rfl) ?_
  refine Eq.trans (e_iadd dX10_peek_80) ?_
  refine Eq.trans (e_iald dX10_peek_81 (aX10_0 h0) (nX10_0 h0)) (g_cj ?_)
  refine Eq.trans (e_ic_lt (t := 89) dX10_peek_82 (by decide)) (g_ite ?_ ?_)
  · rfl
  · rfl
theorem BX10_peek_85 {C : gC} {G : gG} {Q : gK} {σ : gM} {a0 : Nat} {v1 : Int32} {v2 : Int32} {v3 : Int32} {v4 : Int32} {wv5 : Value} (h0 : isX10 G a0) : gw C G mX10_peek Q 85 [.ref a0, .int v1, .int v2, .int v3, .int v4, wv5] [] σ = gw C G mX10_peek Q 90 [.ref a0, .int v1, .int v2, .int v3, .int v4, wv5] [.int 1] σ := by
  refine Eq.trans (e_iconst (x := 1) dX10_peek_85 (by decide)) ?_
  refine Eq.trans (e_goto (t := 90) dX10_peek_86 (by decide)) ?_
  rfl
theorem BX10_peek_89 {C : gC} {G : gG} {Q : gK} {σ : gM} {a0 : Nat} {v1 : Int32} {v2 : Int32} {v3 : Int32} {v4 : Int32} {wv5 : Value} (h0 : isX10 G a0) : gw C G mX10_peek Q 89 [.ref a0, .int v1, .int v2, .int v3, .int v4, wv5] [] σ = gw C G mX10_peek Q 90 [.ref a0, .int v1, .int v2, .int v3, .int v4, wv5] [.int 0] σ := by
  refine Eq.trans (e_iconst (x := 0) dX10_peek_89 (by decide)) ?_
  rfl
theorem BX10_peek_90 {C : gC} {G : gG} {Q : gK} {σ : gM} {a0 : Nat} {v1 : Int32} {v2 : Int32} {v3 : Int32} {v4 : Int32} {wv5 : Value} {s0 : Int32} (h0 : isX10 G a0) : gw C G mX10_peek Q 90 [.ref a0, .int v1, .int v2, .int v3, .int v4, wv5] [.int s0] σ = (if s0 = 0 then Q (some (.int (-2000000000))) σ else (g_inv C mX10_at [.ref a0, .int v4, .int 1] σ fun r σ' => gw C G mX10_peek Q 104 [.ref a0, .int v1, .int v2, .int v3, .int v4, .int s0] (r.toList ++ []) σ')) := by
  refine Eq.trans (e_istore dX10_peek_90 (Nat.le_of_ble_eq_true rfl)) ?_
  refine Eq.trans (e_iload dX10_peek_92 rfl) ?_
  refine Eq.trans (e_if_eq (t := 121) dX10_peek_94 (by decide)) (g_ite ?_ ?_)
  · refine Eq.trans (e_ldc dX10_peek_121 cn_10_114) ?_
    exact e_ireti dX10_peek_123 rfl
  · refine Eq.trans (e_aload_n dX10_peek_97 rfl) ?_
    refine Eq.trans (e_iload dX10_peek_98 rfl) ?_
    refine Eq.trans (e_iconst (x := 1) dX10_peek_100 (by decide)) ?_
    exact e_invv dX10_peek_101 cl_10_57 (kX10 h0) (by simp) rfl rfl (by simp)
theorem BX10_peek_104 {C : gC} {G : gG} {Q : gK} {σ : gM} {a0 : Nat} {v1 : Int32} {v2 : Int32} {v3 : Int32} {v4 : Int32} {v5 : Int32} {s0 : Int32} (h0 : isX10 G a0) : gw C G mX10_peek Q 104 [.ref a0, .int v1, .int v2, .int v3, .int v4, .int v5] [.int s0] σ = (if s0 = (v2 / 100) then (g_inv C mX10_cellOf [.ref a0, .int v4, .int v3] σ fun r σ' => gw C G mX10_peek Q 118 [.ref a0, .int v1, .int v2, .int v3, .int v4, .int v5] (r.toList ++ []) σ') else Q (some (.int (-2000000000))) σ) := by
  refine Eq.trans (e_iload_n dX10_peek_104 rfl) ?_
  refine Eq.trans (e_bipush (x := 100) dX10_peek_105 (by decide)) ?_
  refine Eq.trans (e_idiv dX10_peek_107 (by decide)) ?_
  refine Eq.trans (e_ic_ne (t := 121) dX10_peek_108 (by decide)) (g_ite ?_ ?_)
  · refine Eq.trans (e_aload_n dX10_peek_111 rfl) ?_
    refine Eq.trans (e_iload dX10_peek_112 rfl) ?_
    refine Eq.trans (e_iload_n dX10_peek_114 rfl) ?_
    exact e_invv dX10_peek_115 cl_10_115 (kX10 h0) (by simp) rfl rfl (by simp)
  · refine Eq.trans (e_ldc dX10_peek_121 cn_10_114) ?_
    exact e_ireti dX10_peek_123 rfl
theorem BX10_peek_118 {C : gC} {G : gG} {Q : gK} {σ : gM} {a0 : Nat} {v1 : Int32} {v2 : Int32} {v3 : Int32} {v4 : Int32} {v5 : Int32} {s0 : Int32} (h0 : isX10 G a0) : gw C G mX10_peek Q 118 [.ref a0, .int v1, .int v2, .int v3, .int v4, .int v5] [.int s0] σ = Q (some (.int s0)) σ := by
  refine Eq.trans (e_goto (t := 123) dX10_peek_118 (by decide)) ?_
  exact e_ireti dX10_peek_123 rfl
theorem BX10_of_0 {C : gC} {G : gG} {Q : gK} {σ : gM} {a0 : Nat} {v1 : Int32} {v2 : Int32} (h0 : isX10 G a0) : gw C G mX10_of Q 0 [.ref a0, .int v1, .int v2, .long 0] [] σ = (g_inv C mX10_in [.int v2, .int 0, .int 5] σ fun r σ' => gw C G mX10_of Q 6 [.ref a0, .int v1, .int v2, .long 0] (r.toList ++ []) σ') := by
  refine Eq.trans (e_iload_n dX10_of_0 rfl) ?_
  refine Eq.trans (e_iconst (x := 0) dX10_of_1 (by decide)) ?_
  refine Eq.trans (e_iconst (x := 5) dX10_of_2 (by decide)) ?_
  exact e_invs dX10_of_3 cl_10_65 (by decide) (by simp) rfl rfl (by simp)
theorem BX10_of_6 {C : gC} {G : gG} {Q : gK} {σ : gM} {a0 : Nat} {v1 : Int32} {v2 : Int32} {wv3 : Value} {s0 : Int32} (h0 : isX10 G a0) : gw C G mX10_of Q 6 [.ref a0, .int v1, .int v2, wv3] [.int s0] σ = (if s0 = 0 then Q (some (.int (-1))) σ else (g_inv C mX10_good [.ref a0, .int v1] σ fun r σ' => gw C G mX10_of Q 16 [.ref a0, .int v1, .int v2, wv3] (r.toList ++ []) σ')) := by
  refine Eq.trans (e_if_ne (t := 11) dX10_of_6 (by decide)) (g_ite ?_ ?_)
  · refine Eq.trans (e_iconst (x := (-1)) dX10_of_9 (by decide)) ?_
    exact e_ireti dX10_of_10 rfl
  · refine Eq.trans (e_aload_n dX10_of_11 rfl) ?_
    refine Eq.trans (e_iload_n dX10_of_12 rfl) ?_
    exact e_invv dX10_of_13 cl_10_96 (kX10 h0) (by simp) rfl rfl (by simp)
theorem BX10_of_16 {C : gC} {G : gG} {Q : gK} {σ : gM} {a0 : Nat} {v1 : Int32} {v2 : Int32} {wv3 : Value} {s0 : Int32} (h0 : isX10 G a0) : gw C G mX10_of Q 16 [.ref a0, .int v1, .int v2, wv3] [.int s0] σ = (if s0 < 0 then Q (some (.int (-4))) σ else (if v2 = 0 then (g_inv C mX10_at [.ref a0, .int s0, .int 2] σ fun r σ' => gw C G mX10_of Q 66 [.ref a0, .int v1, .int v2, .int s0] (r.toList ++ []) σ') else (if v2 = 1 then (g_inv C mX10_at [.ref a0, .int s0, .int 3] σ fun r σ' => gw C G mX10_of Q 73 [.ref a0, .int v1, .int v2, .int s0] (r.toList ++ []) σ') else (if v2 = 2 then (g_inv C mX10_at [.ref a0, .int s0, .int 4] σ fun r σ' => gw C G mX10_of Q 80 [.ref a0, .int v1, .int v2, .int s0] (r.toList ++ []) σ') else (if v2 = 3 then (g_inv C mX10_at [.ref a0, .int s0, .int 5] σ fun r σ' => gw C G mX10_of Q 87 [.ref a0, .int v1, .int v2, .int s0] (r.toList ++ []) σ') else (if v2 = 4 then (g_inv C mX10_at [.ref a0, .int s0, .int 6] σ fun r σ' => gw C G mX10_of Q 95 [.ref a0, .int v1, .int v2, .int s0] (r.toList ++ []) σ') else (g_inv C mX10_at [.ref a0, .int s0, .int 7] σ fun r σ' => gw C G mX10_of Q 103 [.ref a0, .int v1, .int v2, .int s0] (r.toList ++ []) σ'))))))) := by
  refine Eq.trans (e_istore_n dX10_of_16 (Nat.le_of_ble_eq_true rfl)) ?_
  refine Eq.trans (e_iload_n dX10_of_17 rfl) ?_
  refine Eq.trans (e_if_ge (t := 24) dX10_of_18 (by decide)) (g_ite ?_ ?_)
  · refine Eq.trans (e_bipush (x := (-4)) dX10_of_21 (by decide)) ?_
    exact e_ireti dX10_of_23 rfl
  · refine Eq.trans (e_iload_n dX10_of_24 rfl) ?_
    refine Eq.trans (e_switch dX10_of_25 (by decide)) ?_
    refine Eq.trans (g_sw1 (y := 0) (t := 60) (by decide) (by decide) (g_sw1 (y := 1) (t := 67) (by decide) (by decide) (g_sw1 (y := 2) (t := 74) (by decide) (by decide) (g_sw1 (y := 3) (t := 81) (by decide) (by decide) (g_sw1 (y := 4) (t := 88) (by decide) (by decide) (g_sw0 (t := 96) (by decide))))))) ?_
    refine g_ite ?_ (g_ite ?_ (g_ite ?_ (g_ite ?_ (g_ite ?_ (?_)))))
    · refine Eq.trans (e_aload_n dX10_of_60 rfl) ?_
      refine Eq.trans (e_iload_n dX10_of_61 rfl) ?_
      refine Eq.trans (e_iconst (x := 2) dX10_of_62 (by decide)) ?_
      exact e_invv dX10_of_63 cl_10_57 (kX10 h0) (by simp) rfl rfl (by simp)
    · refine Eq.trans (e_aload_n dX10_of_67 rfl) ?_
      refine Eq.trans (e_iload_n dX10_of_68 rfl) ?_
      refine Eq.trans (e_iconst (x := 3) dX10_of_69 (by decide)) ?_
      exact e_invv dX10_of_70 cl_10_57 (kX10 h0) (by simp) rfl rfl (by simp)
    · refine Eq.trans (e_aload_n dX10_of_74 rfl) ?_
      refine Eq.trans (e_iload_n dX10_of_75 rfl) ?_
      refine Eq.trans (e_iconst (x := 4) dX10_of_76 (by decide)) ?_
      exact e_invv dX10_of_77 cl_10_57 (kX10 h0) (by simp) rfl rfl (by simp)
    · refine Eq.trans (e_aload_n dX10_of_81 rfl) ?_
      refine Eq.trans (e_iload_n dX10_of_82 rfl) ?_
      refine Eq.trans (e_iconst (x := 5) dX10_of_83 (by decide)) ?_
      exact e_invv dX10_of_84 cl_10_57 (kX10 h0) (by simp) rfl rfl (by simp)
    · refine Eq.trans (e_aload_n dX10_of_88 rfl) ?_
      refine Eq.trans (e_iload_n dX10_of_89 rfl) ?_
      refine Eq.trans (e_bipush (x := 6) dX10_of_90 (by decide)) ?_
      exact e_invv dX10_of_92 cl_10_57 (kX10 h0) (by simp) rfl rfl (by simp)
    · refine Eq.trans (e_aload_n dX10_of_96 rfl) ?_
      refine Eq.trans (e_iload_n dX10_of_97 rfl) ?_
      refine Eq.trans (e_bipush (x := 7) dX10_of_98 (by decide)) ?_
      exact e_invv dX10_of_100 cl_10_57 (kX10 h0) (by simp) rfl rfl (by simp)
theorem BX10_of_66 {C : gC} {G : gG} {Q : gK} {σ : gM} {a0 : Nat} {v1 : Int32} {v2 : Int32} {v3 : Int32} {s0 : Int32} (h0 : isX10 G a0) : gw C G mX10_of Q 66 [.ref a0, .int v1, .int v2, .int v3] [.int s0] σ = Q (some (.int s0)) σ := by
  exact e_ireti dX10_of_66 rfl
theorem BX10_of_73 {C : gC} {G : gG} {Q : gK} {σ : gM} {a0 : Nat} {v1 : Int32} {v2 : Int32} {v3 : Int32} {s0 : Int32} (h0 : isX10 G a0) : gw C G mX10_of Q 73 [.ref a0, .int v1, .int v2, .int v3] [.int s0] σ = Q (some (.int s0)) σ := by
  exact e_ireti dX10_of_73 rfl
theorem BX10_of_80 {C : gC} {G : gG} {Q : gK} {σ : gM} {a0 : Nat} {v1 : Int32} {v2 : Int32} {v3 : Int32} {s0 : Int32} (h0 : isX10 G a0) : gw C G mX10_of Q 80 [.ref a0, .int v1, .int v2, .int v3] [.int s0] σ = Q (some (.int s0)) σ := by
  exact e_ireti dX10_of_80 rfl
theorem BX10_of_87 {C : gC} {G : gG} {Q : gK} {σ : gM} {a0 : Nat} {v1 : Int32} {v2 : Int32} {v3 : Int32} {s0 : Int32} (h0 : isX10 G a0) : gw C G mX10_of Q 87 [.ref a0, .int v1, .int v2, .int v3] [.int s0] σ = Q (some (.int s0)) σ := by
  exact e_ireti dX10_of_87 rfl
theorem BX10_of_95 {C : gC} {G : gG} {Q : gK} {σ : gM} {a0 : Nat} {v1 : Int32} {v2 : Int32} {v3 : Int32} {s0 : Int32} (h0 : isX10 G a0) : gw C G mX10_of Q 95 [.ref a0, .int v1, .int v2, .int v3] [.int s0] σ = Q (some (.int s0)) σ := by
  exact e_ireti dX10_of_95 rfl
theorem BX10_of_103 {C : gC} {G : gG} {Q : gK} {σ : gM} {a0 : Nat} {v1 : Int32} {v2 : Int32} {v3 : Int32} {s0 : Int32} (h0 : isX10 G a0) : gw C G mX10_of Q 103 [.ref a0, .int v1, .int v2, .int v3] [.int s0] σ = (if s0 < 0 then gw C G mX10_of Q 118 [.ref a0, .int v1, .int v2, .int v3] [.int (-2)] σ else (g_inv C mX10_at [.ref a0, .int v3, .int 7] σ fun r σ' => gw C G mX10_of Q 118 [.ref a0, .int v1, .int v2, .int v3] (r.toList ++ []) σ')) := by
  refine Eq.trans (e_if_ge (t := 111) dX10_of_103 (by decide)) (g_ite ?_ ?_)
  · refine Eq.trans (e_bipush (x := (-2)) dX10_of_106 (by decide)) ?_
    refine Eq.trans (e_goto (t := 118) dX10_of_108 (by decide)) ?_
    rfl
  · refine Eq.trans (e_aload_n dX10_of_111 rfl) ?_
    refine Eq.trans (e_iload_n dX10_of_112 rfl) ?_
    refine Eq.trans (e_bipush (x := 7) dX10_of_113 (by decide)) ?_
    exact e_invv dX10_of_115 cl_10_57 (kX10 h0) (by simp) rfl rfl (by simp)
theorem BX10_of_118 {C : gC} {G : gG} {Q : gK} {σ : gM} {a0 : Nat} {v1 : Int32} {v2 : Int32} {v3 : Int32} {s0 : Int32} (h0 : isX10 G a0) : gw C G mX10_of Q 118 [.ref a0, .int v1, .int v2, .int v3] [.int s0] σ = Q (some (.int s0)) σ := by
  exact e_ireti dX10_of_118 rfl
theorem BX10_slot_0 {C : gC} {G : gG} {Q : gK} {σ : gM} {a0 : Nat} {v1 : Int32} {v2 : Int32} (h0 : isX10 G a0) : gw C G mX10_slot Q 0 [.ref a0, .int v1, .int v2, .long 0] [] σ = (g_inv C mX10_in [.int v1, .int 0, .int 29] σ fun r σ' => gw C G mX10_slot Q 7 [.ref a0, .int v1, .int v2, .long 0] (r.toList ++ []) σ') := by
  refine Eq.trans (e_iload_n dX10_slot_0 rfl) ?_
  refine Eq.trans (e_iconst (x := 0) dX10_slot_1 (by decide)) ?_
  refine Eq.trans (e_bipush (x := 29) dX10_slot_2 (by decide)) ?_
  exact e_invs dX10_slot_4 cl_10_65 (by decide) (by simp) rfl rfl (by simp)
theorem BX10_slot_7 {C : gC} {G : gG} {Q : gK} {σ : gM} {a0 : Nat} {v1 : Int32} {v2 : Int32} {wv3 : Value} {s0 : Int32} (h0 : isX10 G a0) : gw C G mX10_slot Q 7 [.ref a0, .int v1, .int v2, wv3] [.int s0] σ = (if s0 = 0 then Q (some (.int (-1))) σ else (g_inv C mX10_in [.int v2, .int 0, .int 3] σ fun r σ' => gw C G mX10_slot Q 16 [.ref a0, .int v1, .int v2, wv3] (r.toList ++ []) σ')) := by
  refine Eq.trans (e_if_eq (t := 19) dX10_slot_7 (by decide)) (g_ite ?_ ?_)
  · refine Eq.trans (e_iconst (x := (-1)) dX10_slot_19 (by decide)) ?_
    exact e_ireti dX10_slot_20 rfl
  · refine Eq.trans (e_iload_n dX10_slot_10 rfl) ?_
    refine Eq.trans (e_iconst (x := 0) dX10_slot_11 (by decide)) ?_
    refine Eq.trans (e_iconst (x := 3) dX10_slot_12 (by decide)) ?_
    exact e_invs dX10_slot_13 cl_10_65 (by decide) (by simp) rfl rfl (by simp)
theorem BX10_slot_16 {C : gC} {G : gG} {Q : gK} {σ : gM} {a0 : Nat} {v1 : Int32} {v2 : Int32} {wv3 : Value} {s0 : Int32} (h0 : isX10 G a0) : gw C G mX10_slot Q 16 [.ref a0, .int v1, .int v2, wv3] [.int s0] σ = (if s0 = 0 then Q (some (.int (-1))) σ else (g_inv C mX10_at [.ref a0, .int v1, .int 0] σ fun r σ' => gw C G mX10_slot Q 27 [.ref a0, .int v1, .int v2, wv3] (r.toList ++ []) σ')) := by
  refine Eq.trans (e_if_ne (t := 21) dX10_slot_16 (by decide)) (g_ite ?_ ?_)
  · refine Eq.trans (e_iconst (x := (-1)) dX10_slot_19 (by decide)) ?_
    exact e_ireti dX10_slot_20 rfl
  · refine Eq.trans (e_aload_n dX10_slot_21 rfl) ?_
    refine Eq.trans (e_iload_n dX10_slot_22 rfl) ?_
    refine Eq.trans (e_iconst (x := 0) dX10_slot_23 (by decide)) ?_
    exact e_invv dX10_slot_24 cl_10_57 (kX10 h0) (by simp) rfl rfl (by simp)
theorem BX10_slot_27 {C : gC} {G : gG} {Q : gK} {σ : gM} {a0 : Nat} {v1 : Int32} {v2 : Int32} {wv3 : Value} {s0 : Int32} (h0 : isX10 G a0) : gw C G mX10_slot Q 27 [.ref a0, .int v1, .int v2, wv3] [.int s0] σ = (if s0 = 2 then gw C G mX10_slot Q 36 [.ref a0, .int v1, .int v2, wv3] [.int 1] σ else gw C G mX10_slot Q 36 [.ref a0, .int v1, .int v2, wv3] [.int 0] σ) := by
  refine Eq.trans (e_iconst (x := 2) dX10_slot_27 (by decide)) ?_
  refine Eq.trans (e_ic_ne (t := 35) dX10_slot_28 (by decide)) (g_ite ?_ ?_)
  · refine Eq.trans (e_iconst (x := 1) dX10_slot_31 (by decide)) ?_
    refine Eq.trans (e_goto (t := 36) dX10_slot_32 (by decide)) ?_
    rfl
  · refine Eq.trans (e_iconst (x := 0) dX10_slot_35 (by decide)) ?_
    rfl
theorem BX10_slot_36 {C : gC} {G : gG} {Q : gK} {σ : gM} {a0 : Nat} {v1 : Int32} {v2 : Int32} {wv3 : Value} {s0 : Int32} (h0 : isX10 G a0) : gw C G mX10_slot Q 36 [.ref a0, .int v1, .int v2, wv3] [.int s0] σ = (if v2 = 0 then (g_inv C mX10_isLive [.ref a0, .int v1] σ fun r σ' => gw C G mX10_slot Q 69 [.ref a0, .int v1, .int v2, .int s0] (r.toList ++ []) σ') else (if v2 = 1 then (g_inv C mX10_at [.ref a0, .int v1, .int 1] σ fun r σ' => gw C G mX10_slot Q 89 [.ref a0, .int v1, .int v2, .int s0] (r.toList ++ []) σ') else (if v2 = 2 then (if s0 = 0 then Q (some (.int 0)) σ else Q (some (.int 1)) σ) else (if s0 = 0 then Q (some (.int (-2))) σ else (g_inv C mX10_at [.ref a0, .int v1, .int 9] σ fun r σ' => gw C G mX10_slot Q 111 [.ref a0, .int v1, .int v2, .int s0] (r.toList ++ []) σ'))))) := by
  refine Eq.trans (e_istore_n dX10_slot_36 (Nat.le_of_ble_eq_true rfl)) ?_
  refine Eq.trans (e_iload_n dX10_slot_37 rfl) ?_
  refine Eq.trans (e_switch dX10_slot_38 (by decide)) ?_
  refine Eq.trans (g_sw1 (y := 0) (t := 64) (by decide) (by decide) (g_sw1 (y := 1) (t := 83) (by decide) (by decide) (g_sw1 (y := 2) (t := 90) (by decide) (by decide) (g_sw0 (t := 100) (by decide))))) ?_
  refine g_ite ?_ (g_ite ?_ (g_ite ?_ (?_)))
  · refine Eq.trans (e_aload_n dX10_slot_64 rfl) ?_
    refine Eq.trans (e_iload_n dX10_slot_65 rfl) ?_
    exact e_invv dX10_slot_66 cl_10_61 (kX10 h0) (by simp) rfl rfl (by simp)
  · refine Eq.trans (e_aload_n dX10_slot_83 rfl) ?_
    refine Eq.trans (e_iload_n dX10_slot_84 rfl) ?_
    refine Eq.trans (e_iconst (x := 1) dX10_slot_85 (by decide)) ?_
    exact e_invv dX10_slot_86 cl_10_57 (kX10 h0) (by simp) rfl rfl (by simp)
  · refine Eq.trans (e_iload_n dX10_slot_90 rfl) ?_
    refine Eq.trans (e_if_eq (t := 98) dX10_slot_91 (by decide)) (g_ite ?_ ?_)
    · refine Eq.trans (e_iconst (x := 0) dX10_slot_98 (by decide)) ?_
      exact e_ireti dX10_slot_99 rfl
    · refine Eq.trans (e_iconst (x := 1) dX10_slot_94 (by decide)) ?_
      refine Eq.trans (e_goto (t := 99) dX10_slot_95 (by decide)) ?_
      exact e_ireti dX10_slot_99 rfl
  · refine Eq.trans (e_iload_n dX10_slot_100 rfl) ?_
    refine Eq.trans (e_if_eq (t := 114) dX10_slot_101 (by decide)) (g_ite ?_ ?_)
    · refine Eq.trans (e_bipush (x := (-2)) dX10_slot_114 (by decide)) ?_
      exact e_ireti dX10_slot_116 rfl
    · refine Eq.trans (e_aload_n dX10_slot_104 rfl) ?_
      refine Eq.trans (e_iload_n dX10_slot_105 rfl) ?_
      refine Eq.trans (e_bipush (x := 9) dX10_slot_106 (by decide)) ?_
      exact e_invv dX10_slot_108 cl_10_57 (kX10 h0) (by simp) rfl rfl (by simp)
theorem BX10_slot_69 {C : gC} {G : gG} {Q : gK} {σ : gM} {a0 : Nat} {v1 : Int32} {v2 : Int32} {v3 : Int32} {s0 : Int32} (h0 : isX10 G a0) : gw C G mX10_slot Q 69 [.ref a0, .int v1, .int v2, .int v3] [.int s0] σ = (if s0 = 0 then Q (some (.int (-2))) σ else (g_inv C mX10_handleOf [.ref a0, .int v1] σ fun r σ' => gw C G mX10_slot Q 77 [.ref a0, .int v1, .int v2, .int v3] (r.toList ++ []) σ')) := by
  refine Eq.trans (e_if_eq (t := 80) dX10_slot_69 (by decide)) (g_ite ?_ ?_)
  · refine Eq.trans (e_bipush (x := (-2)) dX10_slot_80 (by decide)) ?_
    exact e_ireti dX10_slot_82 rfl
  · refine Eq.trans (e_aload_n dX10_slot_72 rfl) ?_
    refine Eq.trans (e_iload_n dX10_slot_73 rfl) ?_
    exact e_invv dX10_slot_74 cl_10_93 (kX10 h0) (by simp) rfl rfl (by simp)
theorem BX10_slot_77 {C : gC} {G : gG} {Q : gK} {σ : gM} {a0 : Nat} {v1 : Int32} {v2 : Int32} {v3 : Int32} {s0 : Int32} (h0 : isX10 G a0) : gw C G mX10_slot Q 77 [.ref a0, .int v1, .int v2, .int v3] [.int s0] σ = Q (some (.int s0)) σ := by
  refine Eq.trans (e_goto (t := 82) dX10_slot_77 (by decide)) ?_
  exact e_ireti dX10_slot_82 rfl
theorem BX10_slot_89 {C : gC} {G : gG} {Q : gK} {σ : gM} {a0 : Nat} {v1 : Int32} {v2 : Int32} {v3 : Int32} {s0 : Int32} (h0 : isX10 G a0) : gw C G mX10_slot Q 89 [.ref a0, .int v1, .int v2, .int v3] [.int s0] σ = Q (some (.int s0)) σ := by
  exact e_ireti dX10_slot_89 rfl
theorem BX10_slot_111 {C : gC} {G : gG} {Q : gK} {σ : gM} {a0 : Nat} {v1 : Int32} {v2 : Int32} {v3 : Int32} {s0 : Int32} (h0 : isX10 G a0) : gw C G mX10_slot Q 111 [.ref a0, .int v1, .int v2, .int v3] [.int s0] σ = Q (some (.int s0)) σ := by
  refine Eq.trans (e_goto (t := 116) dX10_slot_111 (by decide)) ?_
  exact e_ireti dX10_slot_116 rfl
theorem BX10_lies_0 {C : gC} {G : gG} {Q : gK} {σ : gM} {a0 : Nat} {v1 : Int32} (h0 : isX10 G a0) : gw C G mX10_lies Q 0 [.ref a0, .int v1] [] σ = (g_inv C mX10_in [.int v1, .int 0, .int 239] σ fun r σ' => gw C G mX10_lies Q 8 [.ref a0, .int v1] (r.toList ++ []) σ') := by
  refine Eq.trans (e_iload_n dX10_lies_0 rfl) ?_
  refine Eq.trans (e_iconst (x := 0) dX10_lies_1 (by decide)) ?_
  refine Eq.trans (e_sipush (x := 239) dX10_lies_2 (by decide)) ?_
  exact e_invs dX10_lies_5 cl_10_65 (by decide) (by simp) rfl rfl (by simp)
theorem BX10_lies_8 {C : gC} {G : gG} {Q : gK} {σ : gM} {a0 : Nat} {v1 : Int32} {s0 : Int32} (h0 : isX10 G a0) : gw C G mX10_lies Q 8 [.ref a0, .int v1] [.int s0] σ = (if s0 = 0 then Q (some (.int (-1))) σ else (g_inv C mX10_laid [.ref a0] σ fun r σ' => gw C G mX10_lies Q 17 [.ref a0, .int v1] (r.toList ++ []) σ')) := by
  refine Eq.trans (e_if_ne (t := 13) dX10_lies_8 (by decide)) (g_ite ?_ ?_)
  · refine Eq.trans (e_iconst (x := (-1)) dX10_lies_11 (by decide)) ?_
    exact e_ireti dX10_lies_12 rfl
  · refine Eq.trans (e_aload_n dX10_lies_13 rfl) ?_
    exact e_invv dX10_lies_14 cl_10_79 (kX10 h0) (by simp) rfl rfl (by simp)
theorem BX10_lies_17 {C : gC} {G : gG} {Q : gK} {σ : gM} {a0 : Nat} {v1 : Int32} (h0 : isX10 G a0) : gw C G mX10_lies Q 17 [.ref a0, .int v1] [] σ = (vp_in v1 240 ∧ Q (some (.int (σ (a0 + 5) v1.toNatClampNeg))) σ) := by
  refine Eq.trans (e_aload_n dX10_lies_17 rfl) ?_
  refine Eq.trans (e_getr (b := a0 + 5) dX10_lies_18 fl_10_22 (kX10 h0) (sX10_5 h0)) ?_
  refine Eq.trans (e_iload_n dX10_lies_21 rfl) ?_
  refine Eq.trans (e_iald dX10_lies_22 (aX10_5 h0) (nX10_5 h0)) (g_cj ?_)
  exact e_ireti dX10_lies_23 rfl
theorem BX10_tag_0 {C : gC} {G : gG} {Q : gK} {σ : gM} {a0 : Nat} {v1 : Int32} {v2 : Int32} (h0 : isX10 G a0) : gw C G mX10_tag Q 0 [.ref a0, .int v1, .int v2, .long 0, .long 0] [] σ = (g_inv C mX10_in [.int v2, .int 0, .int 499] σ fun r σ' => gw C G mX10_tag Q 8 [.ref a0, .int v1, .int v2, .long 0, .long 0] (r.toList ++ []) σ') := by
  refine Eq.trans (e_iload_n dX10_tag_0 rfl) ?_
  refine Eq.trans (e_iconst (x := 0) dX10_tag_1 (by decide)) ?_
  refine Eq.trans (e_sipush (x := 499) dX10_tag_2 (by decide)) ?_
  exact e_invs dX10_tag_5 cl_10_65 (by decide) (by simp) rfl rfl (by simp)
theorem BX10_tag_8 {C : gC} {G : gG} {Q : gK} {σ : gM} {a0 : Nat} {v1 : Int32} {v2 : Int32} {wv3 : Value} {wv4 : Value} {s0 : Int32} (h0 : isX10 G a0) : gw C G mX10_tag Q 8 [.ref a0, .int v1, .int v2, wv3, wv4] [.int s0] σ = (if s0 = 0 then Q (some (.int (-1))) σ else (g_inv C mX10_good [.ref a0, .int v1] σ fun r σ' => gw C G mX10_tag Q 18 [.ref a0, .int v1, .int v2, wv3, wv4] (r.toList ++ []) σ')) := by
  refine Eq.trans (e_if_ne (t := 13) dX10_tag_8 (by decide)) (g_ite ?_ ?_)
  · refine Eq.trans (e_iconst (x := (-1)) dX10_tag_11 (by decide)) ?_
    exact e_ireti dX10_tag_12 rfl
  · refine Eq.trans (e_aload_n dX10_tag_13 rfl) ?_
    refine Eq.trans (e_iload_n dX10_tag_14 rfl) ?_
    exact e_invv dX10_tag_15 cl_10_96 (kX10 h0) (by simp) rfl rfl (by simp)
theorem BX10_tag_18 {C : gC} {G : gG} {Q : gK} {σ : gM} {a0 : Nat} {v1 : Int32} {v2 : Int32} {wv3 : Value} {wv4 : Value} {s0 : Int32} (h0 : isX10 G a0) : gw C G mX10_tag Q 18 [.ref a0, .int v1, .int v2, wv3, wv4] [.int s0] σ = (if s0 < 0 then Q (some (.int (-4))) σ else (g_inv C mX10_taggedBy [.ref a0, .int v2] σ fun r σ' => gw C G mX10_tag Q 31 [.ref a0, .int v1, .int v2, .int s0, wv4] (r.toList ++ []) σ')) := by
  refine Eq.trans (e_istore_n dX10_tag_18 (Nat.le_of_ble_eq_true rfl)) ?_
  refine Eq.trans (e_iload_n dX10_tag_19 rfl) ?_
  refine Eq.trans (e_if_ge (t := 26) dX10_tag_20 (by decide)) (g_ite ?_ ?_)
  · refine Eq.trans (e_bipush (x := (-4)) dX10_tag_23 (by decide)) ?_
    exact e_ireti dX10_tag_25 rfl
  · refine Eq.trans (e_aload_n dX10_tag_26 rfl) ?_
    refine Eq.trans (e_iload_n dX10_tag_27 rfl) ?_
    exact e_invv dX10_tag_28 cl_10_118 (kX10 h0) (by simp) rfl rfl (by simp)
theorem BX10_tag_31 {C : gC} {G : gG} {Q : gK} {σ : gM} {a0 : Nat} {v1 : Int32} {v2 : Int32} {v3 : Int32} {wv4 : Value} {s0 : Int32} (h0 : isX10 G a0) : gw C G mX10_tag Q 31 [.ref a0, .int v1, .int v2, .int v3, wv4] [.int s0] σ = (if s0 < 0 then gw C G mX10_tag Q 47 [.ref a0, .int v1, .int v2, .int v3, .int s0] [] σ else (if s0 = v3 then gw C G mX10_tag Q 47 [.ref a0, .int v1, .int v2, .int v3, .int s0] [] σ else Q (some (.int (-5))) σ)) := by
  refine Eq.trans (e_istore dX10_tag_31 (Nat.le_of_ble_eq_true rfl)) ?_
  refine Eq.trans (e_iload dX10_tag_33 rfl) ?_
  refine Eq.trans (e_if_lt (t := 47) dX10_tag_35 (by decide)) (g_ite ?_ ?_)
  · rfl
  · refine Eq.trans (e_iload dX10_tag_38 rfl) ?_
    refine Eq.trans (e_iload_n dX10_tag_40 rfl) ?_
    refine Eq.trans (e_ic_eq (t := 47) dX10_tag_41 (by decide)) (g_ite ?_ ?_)
    · rfl
    · refine Eq.trans (e_bipush (x := (-5)) dX10_tag_44 (by decide)) ?_
      exact e_ireti dX10_tag_46 rfl
theorem BX10_tag_47 {C : gC} {G : gG} {Q : gK} {σ : gM} {a0 : Nat} {v1 : Int32} {v2 : Int32} {v3 : Int32} {v4 : Int32} (h0 : isX10 G a0) : gw C G mX10_tag Q 47 [.ref a0, .int v1, .int v2, .int v3, .int v4] [] σ = (g_inv C mX10_sets [.ref a0, .int v3, .int 7, .int v2] σ fun r σ' => gw C G mX10_tag Q 55 [.ref a0, .int v1, .int v2, .int v3, .int v4] (r.toList ++ []) σ') := by
  refine Eq.trans (e_aload_n dX10_tag_47 rfl) ?_
  refine Eq.trans (e_iload_n dX10_tag_48 rfl) ?_
  refine Eq.trans (e_bipush (x := 7) dX10_tag_49 (by decide)) ?_
  refine Eq.trans (e_iload_n dX10_tag_51 rfl) ?_
  exact e_invv dX10_tag_52 cl_10_89 (kX10 h0) (by simp) rfl rfl (by simp)
theorem BX10_tag_55 {C : gC} {G : gG} {Q : gK} {σ : gM} {a0 : Nat} {v1 : Int32} {v2 : Int32} {v3 : Int32} {v4 : Int32} (h0 : isX10 G a0) : gw C G mX10_tag Q 55 [.ref a0, .int v1, .int v2, .int v3, .int v4] [] σ = (vp_in 606 607 ∧ (vp_in 606 607 ∧ gw C G mX10_tag Q 72 [.ref a0, .int v1, .int v2, .int v3, .int v4] [.int (σ (a0 + 1) (606 : Int32).toNatClampNeg), .int 8, .int v3, .ref a0] (g_up σ (a0 + 1) (606 : Int32).toNatClampNeg ((σ (a0 + 1) (606 : Int32).toNatClampNeg) + 1)))) := by
  refine Eq.trans (e_aload_n dX10_tag_55 rfl) ?_
  refine Eq.trans (e_iload_n dX10_tag_56 rfl) ?_
  refine Eq.trans (e_bipush (x := 8) dX10_tag_57 (by decide)) ?_
  refine Eq.trans (e_aload_n dX10_tag_59 rfl) ?_
  refine Eq.trans (e_getr (b := a0 + 1) dX10_tag_60 fl_10_9 (kX10 h0) (sX10_0 h0)) ?_
  refine Eq.trans (e_sipush (x := 606) dX10_tag_63 (by decide)) ?_
  refine Eq.trans (e_dup2 dX10_tag_66) ?_
  refine Eq.trans (e_iald dX10_tag_67 (aX10_0 h0) (nX10_0 h0)) (g_cj ?_)
  refine Eq.trans (e_dup_x2 dX10_tag_68) ?_
  refine Eq.trans (e_iconst (x := 1) dX10_tag_69 (by decide)) ?_
  refine Eq.trans (e_iadd dX10_tag_70) ?_
  refine Eq.trans (e_iast dX10_tag_71 (aX10_0 h0) (nX10_0 h0)) (g_cj ?_)
  rfl
theorem BX10_tag_72 {C : gC} {G : gG} {Q : gK} {σ : gM} {a0 : Nat} {v1 : Int32} {v2 : Int32} {v3 : Int32} {v4 : Int32} {s1 : Int32} {s2 : Int32} {s3 : Int32} (h0 : isX10 G a0) : gw C G mX10_tag Q 72 [.ref a0, .int v1, .int v2, .int v3, .int v4] [.int s3, .int s2, .int s1, .ref a0] σ = (g_inv C mX10_sets [.ref a0, .int s1, .int s2, .int s3] σ fun r σ' => gw C G mX10_tag Q 75 [.ref a0, .int v1, .int v2, .int v3, .int v4] (r.toList ++ []) σ') := by
  exact e_invv dX10_tag_72 cl_10_89 (kX10 h0) (by simp) rfl rfl (by simp)
theorem BX10_tag_75 {C : gC} {G : gG} {Q : gK} {σ : gM} {a0 : Nat} {v1 : Int32} {v2 : Int32} {v3 : Int32} {v4 : Int32} (h0 : isX10 G a0) : gw C G mX10_tag Q 75 [.ref a0, .int v1, .int v2, .int v3, .int v4] [] σ = (g_inv C mX10_tagsMany [.ref a0] σ fun r σ' => gw C G mX10_tag Q 79 [.ref a0, .int v1, .int v2, .int v3, .int v4] (r.toList ++ []) σ') := by
  refine Eq.trans (e_aload_n dX10_tag_75 rfl) ?_
  exact e_invv dX10_tag_76 cl_10_121 (kX10 h0) (by simp) rfl rfl (by simp)
theorem BX10_tag_79 {C : gC} {G : gG} {Q : gK} {σ : gM} {a0 : Nat} {v1 : Int32} {v2 : Int32} {v3 : Int32} {v4 : Int32} {s0 : Int32} (h0 : isX10 G a0) : gw C G mX10_tag Q 79 [.ref a0, .int v1, .int v2, .int v3, .int v4] [.int s0] σ = Q (some (.int s0)) σ := by
  exact e_ireti dX10_tag_79 rfl
theorem BX10_taggedBy_0 {C : gC} {G : gG} {Q : gK} {σ : gM} {a0 : Nat} {v1 : Int32} (h0 : isX10 G a0) : gw C G mX10_taggedBy Q 0 [.ref a0, .int v1, .long 0] [] σ = gw C G mX10_taggedBy Q 2 [.ref a0, .int v1, .int 0] [] σ := by
  refine Eq.trans (e_iconst (x := 0) dX10_taggedBy_0 (by decide)) ?_
  refine Eq.trans (e_istore_n dX10_taggedBy_1 (Nat.le_of_ble_eq_true rfl)) ?_
  rfl
theorem BX10_taggedBy_2 {C : gC} {G : gG} {Q : gK} {σ : gM} {a0 : Nat} {v1 : Int32} {v2 : Int32} (h0 : isX10 G a0) : gw C G mX10_taggedBy Q 2 [.ref a0, .int v1, .int v2] [] σ = (if v2 < 30 then (g_inv C mX10_isLive [.ref a0, .int v2] σ fun r σ' => gw C G mX10_taggedBy Q 13 [.ref a0, .int v1, .int v2] (r.toList ++ []) σ') else Q (some (.int (-2))) σ) := by
  refine Eq.trans (e_iload_n dX10_taggedBy_2 rfl) ?_
  refine Eq.trans (e_bipush (x := 30) dX10_taggedBy_3 (by decide)) ?_
  refine Eq.trans (e_ic_ge (t := 35) dX10_taggedBy_5 (by decide)) (g_ite ?_ ?_)
  · refine Eq.trans (e_aload_n dX10_taggedBy_8 rfl) ?_
    refine Eq.trans (e_iload_n dX10_taggedBy_9 rfl) ?_
    exact e_invv dX10_taggedBy_10 cl_10_61 (kX10 h0) (by simp) rfl rfl (by simp)
  · refine Eq.trans (e_bipush (x := (-2)) dX10_taggedBy_35 (by decide)) ?_
    exact e_ireti dX10_taggedBy_37 rfl
theorem BX10_taggedBy_13 {C : gC} {G : gG} {Q : gK} {σ : gM} {a0 : Nat} {v1 : Int32} {v2 : Int32} {s0 : Int32} (h0 : isX10 G a0) : gw C G mX10_taggedBy Q 13 [.ref a0, .int v1, .int v2] [.int s0] σ = (if s0 = 0 then gw C G mX10_taggedBy Q 2 [.ref a0, .int v1, .int (v2 + 1)] [] σ else (g_inv C mX10_at [.ref a0, .int v2, .int 7] σ fun r σ' => gw C G mX10_taggedBy Q 23 [.ref a0, .int v1, .int v2] (r.toList ++ []) σ')) := by
  refine Eq.trans (e_if_eq (t := 29) dX10_taggedBy_13 (by decide)) (g_ite ?_ ?_)
  · refine Eq.trans (e_iinc (y := 1) dX10_taggedBy_29 rfl (by decide)) ?_
    refine Eq.trans (e_goto (t := 2) dX10_taggedBy_32 (by decide)) ?_
    rfl
  · refine Eq.trans (e_aload_n dX10_taggedBy_16 rfl) ?_
    refine Eq.trans (e_iload_n dX10_taggedBy_17 rfl) ?_
    refine Eq.trans (e_bipush (x := 7) dX10_taggedBy_18 (by decide)) ?_
    exact e_invv dX10_taggedBy_20 cl_10_57 (kX10 h0) (by simp) rfl rfl (by simp)
theorem BX10_taggedBy_23 {C : gC} {G : gG} {Q : gK} {σ : gM} {a0 : Nat} {v1 : Int32} {v2 : Int32} {s0 : Int32} (h0 : isX10 G a0) : gw C G mX10_taggedBy Q 23 [.ref a0, .int v1, .int v2] [.int s0] σ = (if s0 = v1 then Q (some (.int v2)) σ else gw C G mX10_taggedBy Q 2 [.ref a0, .int v1, .int (v2 + 1)] [] σ) := by
  refine Eq.trans (e_iload_n dX10_taggedBy_23 rfl) ?_
  refine Eq.trans (e_ic_ne (t := 29) dX10_taggedBy_24 (by decide)) (g_ite ?_ ?_)
  · refine Eq.trans (e_iload_n dX10_taggedBy_27 rfl) ?_
    exact e_ireti dX10_taggedBy_28 rfl
  · refine Eq.trans (e_iinc (y := 1) dX10_taggedBy_29 rfl (by decide)) ?_
    refine Eq.trans (e_goto (t := 2) dX10_taggedBy_32 (by decide)) ?_
    rfl
theorem BX10_tagsMany_0 {C : gC} {G : gG} {Q : gK} {σ : gM} {a0 : Nat} (h0 : isX10 G a0) : gw C G mX10_tagsMany Q 0 [.ref a0, .long 0, .long 0] [] σ = gw C G mX10_tagsMany Q 4 [.ref a0, .int 0, .int 0] [] σ := by
  refine Eq.trans (e_iconst (x := 0) dX10_tagsMany_0 (by decide)) ?_
  refine Eq.trans (e_istore_n dX10_tagsMany_1 (Nat.le_of_ble_eq_true rfl)) ?_
  refine Eq.trans (e_iconst (x := 0) dX10_tagsMany_2 (by decide)) ?_
  refine Eq.trans (e_istore_n dX10_tagsMany_3 (Nat.le_of_ble_eq_true rfl)) ?_
  rfl
theorem BX10_tagsMany_4 {C : gC} {G : gG} {Q : gK} {σ : gM} {a0 : Nat} {v1 : Int32} {v2 : Int32} (h0 : isX10 G a0) : gw C G mX10_tagsMany Q 4 [.ref a0, .int v1, .int v2] [] σ = (if v2 < 30 then (g_inv C mX10_isLive [.ref a0, .int v2] σ fun r σ' => gw C G mX10_tagsMany Q 16 [.ref a0, .int v1, .int v2] (r.toList ++ [.int v1]) σ') else Q (some (.int v1)) σ) := by
  refine Eq.trans (e_iload_n dX10_tagsMany_4 rfl) ?_
  refine Eq.trans (e_bipush (x := 30) dX10_tagsMany_5 (by decide)) ?_
  refine Eq.trans (e_ic_ge (t := 42) dX10_tagsMany_7 (by decide)) (g_ite ?_ ?_)
  · refine Eq.trans (e_iload_n dX10_tagsMany_10 rfl) ?_
    refine Eq.trans (e_aload_n dX10_tagsMany_11 rfl) ?_
    refine Eq.trans (e_iload_n dX10_tagsMany_12 rfl) ?_
    exact e_invv dX10_tagsMany_13 cl_10_61 (kX10 h0) (by simp) rfl rfl (by simp)
  · refine Eq.trans (e_iload_n dX10_tagsMany_42 rfl) ?_
    exact e_ireti dX10_tagsMany_43 rfl
theorem BX10_tagsMany_16 {C : gC} {G : gG} {Q : gK} {σ : gM} {a0 : Nat} {v1 : Int32} {v2 : Int32} {s0 : Int32} {s1 : Int32} (h0 : isX10 G a0) : gw C G mX10_tagsMany Q 16 [.ref a0, .int v1, .int v2] [.int s1, .int s0] σ = (if s1 = 0 then gw C G mX10_tagsMany Q 4 [.ref a0, .int (s0 + 0), .int (v2 + 1)] [] σ else (g_inv C mX10_at [.ref a0, .int v2, .int 7] σ fun r σ' => gw C G mX10_tagsMany Q 26 [.ref a0, .int v1, .int v2] (r.toList ++ [.int s0]) σ')) := by
  refine Eq.trans (e_if_eq (t := 33) dX10_tagsMany_16 (by decide)) (g_ite ?_ ?_)
  · refine Eq.trans (e_iconst (x := 0) dX10_tagsMany_33 (by decide)) ?_
    refine Eq.trans (e_iadd dX10_tagsMany_34) ?_
    refine Eq.trans (e_istore_n dX10_tagsMany_35 (Nat.le_of_ble_eq_true rfl)) ?_
    refine Eq.trans (e_iinc (y := 1) dX10_tagsMany_36 rfl (by decide)) ?_
    refine Eq.trans (e_goto (t := 4) dX10_tagsMany_39 (by decide)) ?_
    rfl
  · refine Eq.trans (e_aload_n dX10_tagsMany_19 rfl) ?_
    refine Eq.trans (e_iload_n dX10_tagsMany_20 rfl) ?_
    refine Eq.trans (e_bipush (x := 7) dX10_tagsMany_21 (by decide)) ?_
    exact e_invv dX10_tagsMany_23 cl_10_57 (kX10 h0) (by simp) rfl rfl (by simp)
theorem BX10_tagsMany_26 {C : gC} {G : gG} {Q : gK} {σ : gM} {a0 : Nat} {v1 : Int32} {v2 : Int32} {s0 : Int32} {s1 : Int32} (h0 : isX10 G a0) : gw C G mX10_tagsMany Q 26 [.ref a0, .int v1, .int v2] [.int s1, .int s0] σ = (if s1 < 0 then gw C G mX10_tagsMany Q 4 [.ref a0, .int (s0 + 0), .int (v2 + 1)] [] σ else gw C G mX10_tagsMany Q 4 [.ref a0, .int (s0 + 1), .int (v2 + 1)] [] σ) := by
  refine Eq.trans (e_if_lt (t := 33) dX10_tagsMany_26 (by decide)) (g_ite ?_ ?_)
  · refine Eq.trans (e_iconst (x := 0) dX10_tagsMany_33 (by decide)) ?_
    refine Eq.trans (e_iadd dX10_tagsMany_34) ?_
    refine Eq.trans (e_istore_n dX10_tagsMany_35 (Nat.le_of_ble_eq_true rfl)) ?_
    refine Eq.trans (e_iinc (y := 1) dX10_tagsMany_36 rfl (by decide)) ?_
    refine Eq.trans (e_goto (t := 4) dX10_tagsMany_39 (by decide)) ?_
    rfl
  · refine Eq.trans (e_iconst (x := 1) dX10_tagsMany_29 (by decide)) ?_
    refine Eq.trans (e_goto (t := 34) dX10_tagsMany_30 (by decide)) ?_
    refine Eq.trans (e_iadd dX10_tagsMany_34) ?_
    refine Eq.trans (e_istore_n dX10_tagsMany_35 (Nat.le_of_ble_eq_true rfl)) ?_
    refine Eq.trans (e_iinc (y := 1) dX10_tagsMany_36 rfl (by decide)) ?_
    refine Eq.trans (e_goto (t := 4) dX10_tagsMany_39 (by decide)) ?_
    rfl
theorem BX10_find_0 {C : gC} {G : gG} {Q : gK} {σ : gM} {a0 : Nat} {v1 : Int32} (h0 : isX10 G a0) : gw C G mX10_find Q 0 [.ref a0, .int v1, .long 0] [] σ = (g_inv C mX10_in [.int v1, .int 0, .int 499] σ fun r σ' => gw C G mX10_find Q 8 [.ref a0, .int v1, .long 0] (r.toList ++ []) σ') := by
  refine Eq.trans (e_iload_n dX10_find_0 rfl) ?_
  refine Eq.trans (e_iconst (x := 0) dX10_find_1 (by decide)) ?_
  refine Eq.trans (e_sipush (x := 499) dX10_find_2 (by decide)) ?_
  exact e_invs dX10_find_5 cl_10_65 (by decide) (by simp) rfl rfl (by simp)
theorem BX10_find_8 {C : gC} {G : gG} {Q : gK} {σ : gM} {a0 : Nat} {v1 : Int32} {wv2 : Value} {s0 : Int32} (h0 : isX10 G a0) : gw C G mX10_find Q 8 [.ref a0, .int v1, wv2] [.int s0] σ = (if s0 = 0 then Q (some (.int (-1))) σ else (g_inv C mX10_taggedBy [.ref a0, .int v1] σ fun r σ' => gw C G mX10_find Q 18 [.ref a0, .int v1, wv2] (r.toList ++ []) σ')) := by
  refine Eq.trans (e_if_ne (t := 13) dX10_find_8 (by decide)) (g_ite ?_ ?_)
  · refine Eq.trans (e_iconst (x := (-1)) dX10_find_11 (by decide)) ?_
    exact e_ireti dX10_find_12 rfl
  · refine Eq.trans (e_aload_n dX10_find_13 rfl) ?_
    refine Eq.trans (e_iload_n dX10_find_14 rfl) ?_
    exact e_invv dX10_find_15 cl_10_118 (kX10 h0) (by simp) rfl rfl (by simp)
theorem BX10_find_18 {C : gC} {G : gG} {Q : gK} {σ : gM} {a0 : Nat} {v1 : Int32} {wv2 : Value} {s0 : Int32} (h0 : isX10 G a0) : gw C G mX10_find Q 18 [.ref a0, .int v1, wv2] [.int s0] σ = (if s0 < 0 then gw C G mX10_find Q 33 [.ref a0, .int v1, .int s0] [.int (-2)] σ else (g_inv C mX10_handleOf [.ref a0, .int s0] σ fun r σ' => gw C G mX10_find Q 33 [.ref a0, .int v1, .int s0] (r.toList ++ []) σ')) := by
  refine Eq.trans (e_istore_n dX10_find_18 (Nat.le_of_ble_eq_true rfl)) ?_
  refine Eq.trans (e_iload_n dX10_find_19 rfl) ?_
  refine Eq.trans (e_if_ge (t := 28) dX10_find_20 (by decide)) (g_ite ?_ ?_)
  · refine Eq.trans (e_bipush (x := (-2)) dX10_find_23 (by decide)) ?_
    refine Eq.trans (e_goto (t := 33) dX10_find_25 (by decide)) ?_
    rfl
  · refine Eq.trans (e_aload_n dX10_find_28 rfl) ?_
    refine Eq.trans (e_iload_n dX10_find_29 rfl) ?_
    exact e_invv dX10_find_30 cl_10_93 (kX10 h0) (by simp) rfl rfl (by simp)
theorem BX10_find_33 {C : gC} {G : gG} {Q : gK} {σ : gM} {a0 : Nat} {v1 : Int32} {v2 : Int32} {s0 : Int32} (h0 : isX10 G a0) : gw C G mX10_find Q 33 [.ref a0, .int v1, .int v2] [.int s0] σ = Q (some (.int s0)) σ := by
  exact e_ireti dX10_find_33 rfl
theorem BX10_tagged_0 {C : gC} {G : gG} {Q : gK} {σ : gM} {a0 : Nat} {v1 : Int32} (h0 : isX10 G a0) : gw C G mX10_tagged Q 0 [.ref a0, .int v1, .long 0, .long 0, .long 0] [] σ = (if v1 < 0 then Q (some (.int (-1))) σ else gw C G mX10_tagged Q 8 [.ref a0, .int v1, .int 0, .long 0, .long 0] [] σ) := by
  refine Eq.trans (e_iload_n dX10_tagged_0 rfl) ?_
  refine Eq.trans (e_if_ge (t := 6) dX10_tagged_1 (by decide)) (g_ite ?_ ?_)
  · refine Eq.trans (e_iconst (x := (-1)) dX10_tagged_4 (by decide)) ?_
    exact e_ireti dX10_tagged_5 rfl
  · refine Eq.trans (e_iconst (x := 0) dX10_tagged_6 (by decide)) ?_
    refine Eq.trans (e_istore_n dX10_tagged_7 (Nat.le_of_ble_eq_true rfl)) ?_
    rfl
theorem BX10_tagged_8 {C : gC} {G : gG} {Q : gK} {σ : gM} {a0 : Nat} {v1 : Int32} {v2 : Int32} {wv3 : Value} {wv4 : Value} (h0 : isX10 G a0) : gw C G mX10_tagged Q 8 [.ref a0, .int v1, .int v2, wv3, wv4] [] σ = (if v2 < 30 then (g_inv C mX10_isLive [.ref a0, .int v2] σ fun r σ' => gw C G mX10_tagged Q 19 [.ref a0, .int v1, .int v2, wv3, wv4] (r.toList ++ []) σ') else Q (some (.int (-2))) σ) := by
  refine Eq.trans (e_iload_n dX10_tagged_8 rfl) ?_
  refine Eq.trans (e_bipush (x := 30) dX10_tagged_9 (by decide)) ?_
  refine Eq.trans (e_ic_ge (t := 115) dX10_tagged_11 (by decide)) (g_ite ?_ ?_)
  · refine Eq.trans (e_aload_n dX10_tagged_14 rfl) ?_
    refine Eq.trans (e_iload_n dX10_tagged_15 rfl) ?_
    exact e_invv dX10_tagged_16 cl_10_61 (kX10 h0) (by simp) rfl rfl (by simp)
  · refine Eq.trans (e_bipush (x := (-2)) dX10_tagged_115 (by decide)) ?_
    exact e_ireti dX10_tagged_117 rfl
theorem BX10_tagged_19 {C : gC} {G : gG} {Q : gK} {σ : gM} {a0 : Nat} {v1 : Int32} {v2 : Int32} {wv3 : Value} {wv4 : Value} {s0 : Int32} (h0 : isX10 G a0) : gw C G mX10_tagged Q 19 [.ref a0, .int v1, .int v2, wv3, wv4] [.int s0] σ = (if s0 = 0 then gw C G mX10_tagged Q 8 [.ref a0, .int v1, .int (v2 + 1), wv3, wv4] [] σ else (g_inv C mX10_at [.ref a0, .int v2, .int 7] σ fun r σ' => gw C G mX10_tagged Q 29 [.ref a0, .int v1, .int v2, wv3, wv4] (r.toList ++ []) σ')) := by
  refine Eq.trans (e_if_eq (t := 109) dX10_tagged_19 (by decide)) (g_ite ?_ ?_)
  · refine Eq.trans (e_iinc (y := 1) dX10_tagged_109 rfl (by decide)) ?_
    refine Eq.trans (e_goto (t := 8) dX10_tagged_112 (by decide)) ?_
    rfl
  · refine Eq.trans (e_aload_n dX10_tagged_22 rfl) ?_
    refine Eq.trans (e_iload_n dX10_tagged_23 rfl) ?_
    refine Eq.trans (e_bipush (x := 7) dX10_tagged_24 (by decide)) ?_
    exact e_invv dX10_tagged_26 cl_10_57 (kX10 h0) (by simp) rfl rfl (by simp)
theorem BX10_tagged_29 {C : gC} {G : gG} {Q : gK} {σ : gM} {a0 : Nat} {v1 : Int32} {v2 : Int32} {wv3 : Value} {wv4 : Value} {s0 : Int32} (h0 : isX10 G a0) : gw C G mX10_tagged Q 29 [.ref a0, .int v1, .int v2, wv3, wv4] [.int s0] σ = (if s0 < 0 then gw C G mX10_tagged Q 8 [.ref a0, .int v1, .int (v2 + 1), wv3, wv4] [] σ else gw C G mX10_tagged Q 37 [.ref a0, .int v1, .int v2, .int 0, .int 0] [] σ) := by
  refine Eq.trans (e_if_lt (t := 109) dX10_tagged_29 (by decide)) (g_ite ?_ ?_)
  · refine Eq.trans (e_iinc (y := 1) dX10_tagged_109 rfl (by decide)) ?_
    refine Eq.trans (e_goto (t := 8) dX10_tagged_112 (by decide)) ?_
    rfl
  · refine Eq.trans (e_iconst (x := 0) dX10_tagged_32 (by decide)) ?_
    refine Eq.trans (e_istore_n dX10_tagged_33 (Nat.le_of_ble_eq_true rfl)) ?_
    refine Eq.trans (e_iconst (x := 0) dX10_tagged_34 (by decide)) ?_
    refine Eq.trans (e_istore dX10_tagged_35 (Nat.le_of_ble_eq_true rfl)) ?_
    rfl
theorem BX10_tagged_37 {C : gC} {G : gG} {Q : gK} {σ : gM} {a0 : Nat} {v1 : Int32} {v2 : Int32} {v3 : Int32} {v4 : Int32} (h0 : isX10 G a0) : gw C G mX10_tagged Q 37 [.ref a0, .int v1, .int v2, .int v3, .int v4] [] σ = (if v4 < 30 then (g_inv C mX10_isLive [.ref a0, .int v4] σ fun r σ' => gw C G mX10_tagged Q 51 [.ref a0, .int v1, .int v2, .int v3, .int v4] (r.toList ++ [.int v3]) σ') else (if v3 = v1 then (g_inv C mX10_at [.ref a0, .int v2, .int 7] σ fun r σ' => gw C G mX10_tagged Q 108 [.ref a0, .int v1, .int v2, .int v3, .int v4] (r.toList ++ []) σ') else gw C G mX10_tagged Q 8 [.ref a0, .int v1, .int (v2 + 1), .int v3, .int v4] [] σ)) := by
  refine Eq.trans (e_iload dX10_tagged_37 rfl) ?_
  refine Eq.trans (e_bipush (x := 30) dX10_tagged_39 (by decide)) ?_
  refine Eq.trans (e_ic_ge (t := 96) dX10_tagged_41 (by decide)) (g_ite ?_ ?_)
  · refine Eq.trans (e_iload_n dX10_tagged_44 rfl) ?_
    refine Eq.trans (e_aload_n dX10_tagged_45 rfl) ?_
    refine Eq.trans (e_iload dX10_tagged_46 rfl) ?_
    exact e_invv dX10_tagged_48 cl_10_61 (kX10 h0) (by simp) rfl rfl (by simp)
  · refine Eq.trans (e_iload_n dX10_tagged_96 rfl) ?_
    refine Eq.trans (e_iload_n dX10_tagged_97 rfl) ?_
    refine Eq.trans (e_ic_ne (t := 109) dX10_tagged_98 (by decide)) (g_ite ?_ ?_)
    · refine Eq.trans (e_aload_n dX10_tagged_101 rfl) ?_
      refine Eq.trans (e_iload_n dX10_tagged_102 rfl) ?_
      refine Eq.trans (e_bipush (x := 7) dX10_tagged_103 (by decide)) ?_
      exact e_invv dX10_tagged_105 cl_10_57 (kX10 h0) (by simp) rfl rfl (by simp)
    · refine Eq.trans (e_iinc (y := 1) dX10_tagged_109 rfl (by decide)) ?_
      refine Eq.trans (e_goto (t := 8) dX10_tagged_112 (by decide)) ?_
      rfl
theorem BX10_tagged_51 {C : gC} {G : gG} {Q : gK} {σ : gM} {a0 : Nat} {v1 : Int32} {v2 : Int32} {v3 : Int32} {v4 : Int32} {s0 : Int32} {s1 : Int32} (h0 : isX10 G a0) : gw C G mX10_tagged Q 51 [.ref a0, .int v1, .int v2, .int v3, .int v4] [.int s1, .int s0] σ = (if s1 = 0 then gw C G mX10_tagged Q 37 [.ref a0, .int v1, .int v2, .int (s0 + 0), .int (v4 + 1)] [] σ else (g_inv C mX10_at [.ref a0, .int v4, .int 7] σ fun r σ' => gw C G mX10_tagged Q 62 [.ref a0, .int v1, .int v2, .int v3, .int v4] (r.toList ++ [.int s0]) σ')) := by
  refine Eq.trans (e_if_eq (t := 87) dX10_tagged_51 (by decide)) (g_ite ?_ ?_)
  · refine Eq.trans (e_iconst (x := 0) dX10_tagged_87 (by decide)) ?_
    refine Eq.trans (e_iadd dX10_tagged_88) ?_
    refine Eq.trans (e_istore_n dX10_tagged_89 (Nat.le_of_ble_eq_true rfl)) ?_
    refine Eq.trans (e_iinc (y := 1) dX10_tagged_90 rfl (by decide)) ?_
    refine Eq.trans (e_goto (t := 37) dX10_tagged_93 (by decide)) ?_
    rfl
  · refine Eq.trans (e_aload_n dX10_tagged_54 rfl) ?_
    refine Eq.trans (e_iload dX10_tagged_55 rfl) ?_
    refine Eq.trans (e_bipush (x := 7) dX10_tagged_57 (by decide)) ?_
    exact e_invv dX10_tagged_59 cl_10_57 (kX10 h0) (by simp) rfl rfl (by simp)
theorem BX10_tagged_62 {C : gC} {G : gG} {Q : gK} {σ : gM} {a0 : Nat} {v1 : Int32} {v2 : Int32} {v3 : Int32} {v4 : Int32} {s0 : Int32} {s1 : Int32} (h0 : isX10 G a0) : gw C G mX10_tagged Q 62 [.ref a0, .int v1, .int v2, .int v3, .int v4] [.int s1, .int s0] σ = (if s1 < 0 then gw C G mX10_tagged Q 37 [.ref a0, .int v1, .int v2, .int (s0 + 0), .int (v4 + 1)] [] σ else (g_inv C mX10_at [.ref a0, .int v4, .int 8] σ fun r σ' => gw C G mX10_tagged Q 73 [.ref a0, .int v1, .int v2, .int v3, .int v4] (r.toList ++ [.int s0]) σ')) := by
  refine Eq.trans (e_if_lt (t := 87) dX10_tagged_62 (by decide)) (g_ite ?_ ?_)
  · refine Eq.trans (e_iconst (x := 0) dX10_tagged_87 (by decide)) ?_
    refine Eq.trans (e_iadd dX10_tagged_88) ?_
    refine Eq.trans (e_istore_n dX10_tagged_89 (Nat.le_of_ble_eq_true rfl)) ?_
    refine Eq.trans (e_iinc (y := 1) dX10_tagged_90 rfl (by decide)) ?_
    refine Eq.trans (e_goto (t := 37) dX10_tagged_93 (by decide)) ?_
    rfl
  · refine Eq.trans (e_aload_n dX10_tagged_65 rfl) ?_
    refine Eq.trans (e_iload dX10_tagged_66 rfl) ?_
    refine Eq.trans (e_bipush (x := 8) dX10_tagged_68 (by decide)) ?_
    exact e_invv dX10_tagged_70 cl_10_57 (kX10 h0) (by simp) rfl rfl (by simp)
theorem BX10_tagged_73 {C : gC} {G : gG} {Q : gK} {σ : gM} {a0 : Nat} {v1 : Int32} {v2 : Int32} {v3 : Int32} {v4 : Int32} {s0 : Int32} {s1 : Int32} (h0 : isX10 G a0) : gw C G mX10_tagged Q 73 [.ref a0, .int v1, .int v2, .int v3, .int v4] [.int s1, .int s0] σ = (g_inv C mX10_at [.ref a0, .int v2, .int 8] σ fun r σ' => gw C G mX10_tagged Q 80 [.ref a0, .int v1, .int v2, .int v3, .int v4] (r.toList ++ [.int s1, .int s0]) σ') := by
  refine Eq.trans (e_aload_n dX10_tagged_73 rfl) ?_
  refine Eq.trans (e_iload_n dX10_tagged_74 rfl) ?_
  refine Eq.trans (e_bipush (x := 8) dX10_tagged_75 (by decide)) ?_
  exact e_invv dX10_tagged_77 cl_10_57 (kX10 h0) (by simp) rfl rfl (by simp)
theorem BX10_tagged_80 {C : gC} {G : gG} {Q : gK} {σ : gM} {a0 : Nat} {v1 : Int32} {v2 : Int32} {v3 : Int32} {v4 : Int32} {s0 : Int32} {s1 : Int32} {s2 : Int32} (h0 : isX10 G a0) : gw C G mX10_tagged Q 80 [.ref a0, .int v1, .int v2, .int v3, .int v4] [.int s2, .int s1, .int s0] σ = (if s1 < s2 then gw C G mX10_tagged Q 37 [.ref a0, .int v1, .int v2, .int (s0 + 1), .int (v4 + 1)] [] σ else gw C G mX10_tagged Q 37 [.ref a0, .int v1, .int v2, .int (s0 + 0), .int (v4 + 1)] [] σ) := by
  refine Eq.trans (e_ic_ge (t := 87) dX10_tagged_80 (by decide)) (g_ite ?_ ?_)
  · refine Eq.trans (e_iconst (x := 1) dX10_tagged_83 (by decide)) ?_
    refine Eq.trans (e_goto (t := 88) dX10_tagged_84 (by decide)) ?_
    refine Eq.trans (e_iadd dX10_tagged_88) ?_
    refine Eq.trans (e_istore_n dX10_tagged_89 (Nat.le_of_ble_eq_true rfl)) ?_
    refine Eq.trans (e_iinc (y := 1) dX10_tagged_90 rfl (by decide)) ?_
    refine Eq.trans (e_goto (t := 37) dX10_tagged_93 (by decide)) ?_
    rfl
  · refine Eq.trans (e_iconst (x := 0) dX10_tagged_87 (by decide)) ?_
    refine Eq.trans (e_iadd dX10_tagged_88) ?_
    refine Eq.trans (e_istore_n dX10_tagged_89 (Nat.le_of_ble_eq_true rfl)) ?_
    refine Eq.trans (e_iinc (y := 1) dX10_tagged_90 rfl (by decide)) ?_
    refine Eq.trans (e_goto (t := 37) dX10_tagged_93 (by decide)) ?_
    rfl
theorem BX10_tagged_108 {C : gC} {G : gG} {Q : gK} {σ : gM} {a0 : Nat} {v1 : Int32} {v2 : Int32} {v3 : Int32} {v4 : Int32} {s0 : Int32} (h0 : isX10 G a0) : gw C G mX10_tagged Q 108 [.ref a0, .int v1, .int v2, .int v3, .int v4] [.int s0] σ = Q (some (.int s0)) σ := by
  exact e_ireti dX10_tagged_108 rfl
theorem BX10_quota_0 {C : gC} {G : gG} {Q : gK} {σ : gM} {a0 : Nat} {v1 : Int32} {v2 : Int32} (h0 : isX10 G a0) : gw C G mX10_quota Q 0 [.ref a0, .int v1, .int v2, .long 0] [] σ = (g_inv C mX10_in [.int v1, .int 0, .int 9] σ fun r σ' => gw C G mX10_quota Q 7 [.ref a0, .int v1, .int v2, .long 0] (r.toList ++ []) σ') := by
  refine Eq.trans (e_iload_n dX10_quota_0 rfl) ?_
  refine Eq.trans (e_iconst (x := 0) dX10_quota_1 (by decide)) ?_
  refine Eq.trans (e_bipush (x := 9) dX10_quota_2 (by decide)) ?_
  exact e_invs dX10_quota_4 cl_10_65 (by decide) (by simp) rfl rfl (by simp)
theorem BX10_quota_7 {C : gC} {G : gG} {Q : gK} {σ : gM} {a0 : Nat} {v1 : Int32} {v2 : Int32} {wv3 : Value} {s0 : Int32} (h0 : isX10 G a0) : gw C G mX10_quota Q 7 [.ref a0, .int v1, .int v2, wv3] [.int s0] σ = (if s0 = 0 then Q (some (.int (-1))) σ else (g_inv C mX10_in [.int v2, .int 0, .int 240] σ fun r σ' => gw C G mX10_quota Q 18 [.ref a0, .int v1, .int v2, wv3] (r.toList ++ []) σ')) := by
  refine Eq.trans (e_if_eq (t := 21) dX10_quota_7 (by decide)) (g_ite ?_ ?_)
  · refine Eq.trans (e_iconst (x := (-1)) dX10_quota_21 (by decide)) ?_
    exact e_ireti dX10_quota_22 rfl
  · refine Eq.trans (e_iload_n dX10_quota_10 rfl) ?_
    refine Eq.trans (e_iconst (x := 0) dX10_quota_11 (by decide)) ?_
    refine Eq.trans (e_sipush (x := 240) dX10_quota_12 (by decide)) ?_
    exact e_invs dX10_quota_15 cl_10_65 (by decide) (by simp) rfl rfl (by simp)
theorem BX10_quota_18 {C : gC} {G : gG} {Q : gK} {σ : gM} {a0 : Nat} {v1 : Int32} {v2 : Int32} {wv3 : Value} {s0 : Int32} (h0 : isX10 G a0) : gw C G mX10_quota Q 18 [.ref a0, .int v1, .int v2, wv3] [.int s0] σ = (if s0 = 0 then Q (some (.int (-1))) σ else (g_inv C mX10_used [.ref a0, .int v1] σ fun r σ' => gw C G mX10_quota Q 28 [.ref a0, .int v1, .int v2, wv3] (r.toList ++ []) σ')) := by
  refine Eq.trans (e_if_ne (t := 23) dX10_quota_18 (by decide)) (g_ite ?_ ?_)
  · refine Eq.trans (e_iconst (x := (-1)) dX10_quota_21 (by decide)) ?_
    exact e_ireti dX10_quota_22 rfl
  · refine Eq.trans (e_aload_n dX10_quota_23 rfl) ?_
    refine Eq.trans (e_iload_n dX10_quota_24 rfl) ?_
    exact e_invv dX10_quota_25 cl_10_76 (kX10 h0) (by simp) rfl rfl (by simp)
theorem BX10_quota_28 {C : gC} {G : gG} {Q : gK} {σ : gM} {a0 : Nat} {v1 : Int32} {v2 : Int32} {wv3 : Value} {s0 : Int32} (h0 : isX10 G a0) : gw C G mX10_quota Q 28 [.ref a0, .int v1, .int v2, wv3] [.int s0] σ = (if v2 < s0 then Q (some (.int (-5))) σ else (vp_in (589 + v1) 607 ∧ (vp_in (589 + v1) 607 ∧ Q (some (.int (σ (a0 + 1) (589 + v1).toNatClampNeg))) (g_up σ (a0 + 1) (589 + v1).toNatClampNeg v2)))) := by
  refine Eq.trans (e_iload_n dX10_quota_28 rfl) ?_
  refine Eq.trans (e_ic_le (t := 35) dX10_quota_29 (by decide)) (g_ite ?_ ?_)
  · refine Eq.trans (e_bipush (x := (-5)) dX10_quota_32 (by decide)) ?_
    exact e_ireti dX10_quota_34 rfl
  · refine Eq.trans (e_aload_n dX10_quota_35 rfl) ?_
    refine Eq.trans (e_getr (b := a0 + 1) dX10_quota_36 fl_10_9 (kX10 h0) (sX10_0 h0)) ?_
    refine Eq.trans (e_sipush (x := 589) dX10_quota_39 (by decide)) ?_
    refine Eq.trans (e_iload_n dX10_quota_42 rfl) ?_
    refine Eq.trans (e_iadd dX10_quota_43) ?_
    refine Eq.trans (e_iald dX10_quota_44 (aX10_0 h0) (nX10_0 h0)) (g_cj ?_)
    refine Eq.trans (e_istore_n dX10_quota_45 (Nat.le_of_ble_eq_true rfl)) ?_
    refine Eq.trans (e_aload_n dX10_quota_46 rfl) ?_
    refine Eq.trans (e_getr (b := a0 + 1) dX10_quota_47 fl_10_9 (kX10 h0) (sX10_0 h0)) ?_
    refine Eq.trans (e_sipush (x := 589) dX10_quota_50 (by decide)) ?_
    refine Eq.trans (e_iload_n dX10_quota_53 rfl) ?_
    refine Eq.trans (e_iadd dX10_quota_54) ?_
    refine Eq.trans (e_iload_n dX10_quota_55 rfl) ?_
    refine Eq.trans (e_iast dX10_quota_56 (aX10_0 h0) (nX10_0 h0)) (g_cj ?_)
    refine Eq.trans (e_iload_n dX10_quota_57 rfl) ?_
    exact e_ireti dX10_quota_58 rfl
theorem BX10_owner_0 {C : gC} {G : gG} {Q : gK} {σ : gM} {a0 : Nat} {v1 : Int32} {v2 : Int32} (h0 : isX10 G a0) : gw C G mX10_owner Q 0 [.ref a0, .int v1, .int v2, .long 0, .long 0, .long 0] [] σ = (g_inv C mX10_in [.int v1, .int 0, .int 9] σ fun r σ' => gw C G mX10_owner Q 7 [.ref a0, .int v1, .int v2, .long 0, .long 0, .long 0] (r.toList ++ []) σ') := by
  refine Eq.trans (e_iload_n dX10_owner_0 rfl) ?_
  refine Eq.trans (e_iconst (x := 0) dX10_owner_1 (by decide)) ?_
  refine Eq.trans (e_bipush (x := 9) dX10_owner_2 (by decide)) ?_
  exact e_invs dX10_owner_4 cl_10_65 (by decide) (by simp) rfl rfl (by simp)
theorem BX10_owner_7 {C : gC} {G : gG} {Q : gK} {σ : gM} {a0 : Nat} {v1 : Int32} {v2 : Int32} {wv3 : Value} {wv4 : Value} {wv5 : Value} {s0 : Int32} (h0 : isX10 G a0) : gw C G mX10_owner Q 7 [.ref a0, .int v1, .int v2, wv3, wv4, wv5] [.int s0] σ = (if s0 = 0 then Q (some (.int (-1))) σ else (g_inv C mX10_in [.int v2, .int 0, .int 3] σ fun r σ' => gw C G mX10_owner Q 16 [.ref a0, .int v1, .int v2, wv3, wv4, wv5] (r.toList ++ []) σ')) := by
  refine Eq.trans (e_if_eq (t := 19) dX10_owner_7 (by decide)) (g_ite ?_ ?_)
  · refine Eq.trans (e_iconst (x := (-1)) dX10_owner_19 (by decide)) ?_
    exact e_ireti dX10_owner_20 rfl
  · refine Eq.trans (e_iload_n dX10_owner_10 rfl) ?_
    refine Eq.trans (e_iconst (x := 0) dX10_owner_11 (by decide)) ?_
    refine Eq.trans (e_iconst (x := 3) dX10_owner_12 (by decide)) ?_
    exact e_invs dX10_owner_13 cl_10_65 (by decide) (by simp) rfl rfl (by simp)
theorem BX10_owner_16 {C : gC} {G : gG} {Q : gK} {σ : gM} {a0 : Nat} {v1 : Int32} {v2 : Int32} {wv3 : Value} {wv4 : Value} {wv5 : Value} {s0 : Int32} (h0 : isX10 G a0) : gw C G mX10_owner Q 16 [.ref a0, .int v1, .int v2, wv3, wv4, wv5] [.int s0] σ = (if s0 = 0 then Q (some (.int (-1))) σ else (if v2 = 2 then (g_inv C mX10_leakedOnes [.ref a0] σ fun r σ' => gw C G mX10_owner Q 30 [.ref a0, .int v1, .int v2, wv3, wv4, wv5] (r.toList ++ []) σ') else (if v2 = 0 then (g_inv C mX10_used [.ref a0, .int v1] σ fun r σ' => gw C G mX10_owner Q 99 [.ref a0, .int v1, .int v2, wv3, wv4, wv5] (r.toList ++ []) σ') else (if v2 = 1 then (vp_in (589 + v1) 607 ∧ gw C G mX10_owner Q 125 [.ref a0, .int v1, .int v2, wv3, wv4, wv5] [.int (σ (a0 + 1) (589 + v1).toNatClampNeg)] σ) else (g_inv C mX10_liveMany [.ref a0, .int v1] σ fun r σ' => gw C G mX10_owner Q 125 [.ref a0, .int v1, .int v2, wv3, wv4, wv5] (r.toList ++ []) σ'))))) := by
  refine Eq.trans (e_if_ne (t := 21) dX10_owner_16 (by decide)) (g_ite ?_ ?_)
  · refine Eq.trans (e_iconst (x := (-1)) dX10_owner_19 (by decide)) ?_
    exact e_ireti dX10_owner_20 rfl
  · refine Eq.trans (e_iload_n dX10_owner_21 rfl) ?_
    refine Eq.trans (e_iconst (x := 2) dX10_owner_22 (by decide)) ?_
    refine Eq.trans (e_ic_ne (t := 90) dX10_owner_23 (by decide)) (g_ite ?_ ?_)
    · refine Eq.trans (e_aload_n dX10_owner_26 rfl) ?_
      exact e_invv dX10_owner_27 cl_10_124 (kX10 h0) (by simp) rfl rfl (by simp)
    · refine Eq.trans (e_iload_n dX10_owner_90 rfl) ?_
      refine Eq.trans (e_if_ne (t := 102) dX10_owner_91 (by decide)) (g_ite ?_ ?_)
      · refine Eq.trans (e_aload_n dX10_owner_94 rfl) ?_
        refine Eq.trans (e_iload_n dX10_owner_95 rfl) ?_
        exact e_invv dX10_owner_96 cl_10_76 (kX10 h0) (by simp) rfl rfl (by simp)
      · refine Eq.trans (e_iload_n dX10_owner_102 rfl) ?_
        refine Eq.trans (e_iconst (x := 1) dX10_owner_103 (by decide)) ?_
        refine Eq.trans (e_ic_ne (t := 120) dX10_owner_104 (by decide)) (g_ite ?_ ?_)
        · refine Eq.trans (e_aload_n dX10_owner_107 rfl) ?_
          refine Eq.trans (e_getr (b := a0 + 1) dX10_owner_108 fl_10_9 (kX10 h0) (sX10_0 h0)) ?_
          refine Eq.trans (e_sipush (x := 589) dX10_owner_111 (by decide)) ?_
          refine Eq.trans (e_iload_n dX10_owner_114 rfl) ?_
          refine Eq.trans (e_iadd dX10_owner_115) ?_
          refine Eq.trans (e_iald dX10_owner_116 (aX10_0 h0) (nX10_0 h0)) (g_cj ?_)
          refine Eq.trans (e_goto (t := 125) dX10_owner_117 (by decide)) ?_
          rfl
        · refine Eq.trans (e_aload_n dX10_owner_120 rfl) ?_
          refine Eq.trans (e_iload_n dX10_owner_121 rfl) ?_
          exact e_invv dX10_owner_122 cl_10_127 (kX10 h0) (by simp) rfl rfl (by simp)
theorem BX10_owner_30 {C : gC} {G : gG} {Q : gK} {σ : gM} {a0 : Nat} {v1 : Int32} {v2 : Int32} {wv3 : Value} {wv4 : Value} {wv5 : Value} {s0 : Int32} (h0 : isX10 G a0) : gw C G mX10_owner Q 30 [.ref a0, .int v1, .int v2, wv3, wv4, wv5] [.int s0] σ = gw C G mX10_owner Q 37 [.ref a0, .int v1, .int v2, .int s0, .int 0, .int 0] [] σ := by
  refine Eq.trans (e_istore_n dX10_owner_30 (Nat.le_of_ble_eq_true rfl)) ?_
  refine Eq.trans (e_iconst (x := 0) dX10_owner_31 (by decide)) ?_
  refine Eq.trans (e_istore dX10_owner_32 (Nat.le_of_ble_eq_true rfl)) ?_
  refine Eq.trans (e_iconst (x := 0) dX10_owner_34 (by decide)) ?_
  refine Eq.trans (e_istore dX10_owner_35 (Nat.le_of_ble_eq_true rfl)) ?_
  rfl
theorem BX10_owner_37 {C : gC} {G : gG} {Q : gK} {σ : gM} {a0 : Nat} {v1 : Int32} {v2 : Int32} {v3 : Int32} {v4 : Int32} {v5 : Int32} (h0 : isX10 G a0) : gw C G mX10_owner Q 37 [.ref a0, .int v1, .int v2, .int v3, .int v4, .int v5] [] σ = (if v5 < 30 then (if ((v3 >>> (v5 &&& 31)) &&& 1) = 1 then (g_inv C mX10_at [.ref a0, .int v5, .int 5] σ fun r σ' => gw C G mX10_owner Q 63 [.ref a0, .int v1, .int v2, .int v3, .int v4, .int v5] (r.toList ++ [.int v4]) σ') else gw C G mX10_owner Q 37 [.ref a0, .int v1, .int v2, .int v3, .int (v4 + 0), .int (v5 + 1)] [] σ) else Q (some (.int v4)) σ) := by
  refine Eq.trans (e_iload dX10_owner_37 rfl) ?_
  refine Eq.trans (e_bipush (x := 30) dX10_owner_39 (by decide)) ?_
  refine Eq.trans (e_ic_ge (t := 87) dX10_owner_41 (by decide)) (g_ite ?_ ?_)
  · refine Eq.trans (e_iload dX10_owner_44 rfl) ?_
    refine Eq.trans (e_iload_n dX10_owner_46 rfl) ?_
    refine Eq.trans (e_iload dX10_owner_47 rfl) ?_
    refine Eq.trans (e_ishr dX10_owner_49) ?_
    refine Eq.trans (e_iconst (x := 1) dX10_owner_50 (by decide)) ?_
    refine Eq.trans (e_iand dX10_owner_51) ?_
    refine Eq.trans (e_iconst (x := 1) dX10_owner_52 (by decide)) ?_
    refine Eq.trans (e_ic_ne (t := 77) dX10_owner_53 (by decide)) (g_ite ?_ ?_)
    · refine Eq.trans (e_aload_n dX10_owner_56 rfl) ?_
      refine Eq.trans (e_iload dX10_owner_57 rfl) ?_
      refine Eq.trans (e_iconst (x := 5) dX10_owner_59 (by decide)) ?_
      exact e_invv dX10_owner_60 cl_10_57 (kX10 h0) (by simp) rfl rfl (by simp)
    · refine Eq.trans (e_iconst (x := 0) dX10_owner_77 (by decide)) ?_
      refine Eq.trans (e_iadd dX10_owner_78) ?_
      refine Eq.trans (e_istore dX10_owner_79 (Nat.le_of_ble_eq_true rfl)) ?_
      refine Eq.trans (e_iinc (y := 1) dX10_owner_81 rfl (by decide)) ?_
      refine Eq.trans (e_goto (t := 37) dX10_owner_84 (by decide)) ?_
      rfl
  · refine Eq.trans (e_iload dX10_owner_87 rfl) ?_
    exact e_ireti dX10_owner_89 rfl
theorem BX10_owner_63 {C : gC} {G : gG} {Q : gK} {σ : gM} {a0 : Nat} {v1 : Int32} {v2 : Int32} {v3 : Int32} {v4 : Int32} {v5 : Int32} {s0 : Int32} {s1 : Int32} (h0 : isX10 G a0) : gw C G mX10_owner Q 63 [.ref a0, .int v1, .int v2, .int v3, .int v4, .int v5] [.int s1, .int s0] σ = (if s1 = v1 then (g_inv C mX10_at [.ref a0, .int v5, .int 3] σ fun r σ' => gw C G mX10_owner Q 74 [.ref a0, .int v1, .int v2, .int v3, .int v4, .int v5] (r.toList ++ [.int s0]) σ') else gw C G mX10_owner Q 37 [.ref a0, .int v1, .int v2, .int v3, .int (s0 + 0), .int (v5 + 1)] [] σ) := by
  refine Eq.trans (e_iload_n dX10_owner_63 rfl) ?_
  refine Eq.trans (e_ic_ne (t := 77) dX10_owner_64 (by decide)) (g_ite ?_ ?_)
  · refine Eq.trans (e_aload_n dX10_owner_67 rfl) ?_
    refine Eq.trans (e_iload dX10_owner_68 rfl) ?_
    refine Eq.trans (e_iconst (x := 3) dX10_owner_70 (by decide)) ?_
    exact e_invv dX10_owner_71 cl_10_57 (kX10 h0) (by simp) rfl rfl (by simp)
  · refine Eq.trans (e_iconst (x := 0) dX10_owner_77 (by decide)) ?_
    refine Eq.trans (e_iadd dX10_owner_78) ?_
    refine Eq.trans (e_istore dX10_owner_79 (Nat.le_of_ble_eq_true rfl)) ?_
    refine Eq.trans (e_iinc (y := 1) dX10_owner_81 rfl (by decide)) ?_
    refine Eq.trans (e_goto (t := 37) dX10_owner_84 (by decide)) ?_
    rfl
theorem BX10_owner_74 {C : gC} {G : gG} {Q : gK} {σ : gM} {a0 : Nat} {v1 : Int32} {v2 : Int32} {v3 : Int32} {v4 : Int32} {v5 : Int32} {s0 : Int32} {s1 : Int32} (h0 : isX10 G a0) : gw C G mX10_owner Q 74 [.ref a0, .int v1, .int v2, .int v3, .int v4, .int v5] [.int s1, .int s0] σ = gw C G mX10_owner Q 37 [.ref a0, .int v1, .int v2, .int v3, .int (s0 + s1), .int (v5 + 1)] [] σ := by
  refine Eq.trans (e_goto (t := 78) dX10_owner_74 (by decide)) ?_
  refine Eq.trans (e_iadd dX10_owner_78) ?_
  refine Eq.trans (e_istore dX10_owner_79 (Nat.le_of_ble_eq_true rfl)) ?_
  refine Eq.trans (e_iinc (y := 1) dX10_owner_81 rfl (by decide)) ?_
  refine Eq.trans (e_goto (t := 37) dX10_owner_84 (by decide)) ?_
  rfl
theorem BX10_owner_99 {C : gC} {G : gG} {Q : gK} {σ : gM} {a0 : Nat} {v1 : Int32} {v2 : Int32} {wv3 : Value} {wv4 : Value} {wv5 : Value} {s0 : Int32} (h0 : isX10 G a0) : gw C G mX10_owner Q 99 [.ref a0, .int v1, .int v2, wv3, wv4, wv5] [.int s0] σ = gw C G mX10_owner Q 125 [.ref a0, .int v1, .int v2, wv3, wv4, wv5] [.int s0] σ := by
  refine Eq.trans (e_goto (t := 125) dX10_owner_99 (by decide)) ?_
  rfl
theorem BX10_owner_125 {C : gC} {G : gG} {Q : gK} {σ : gM} {a0 : Nat} {v1 : Int32} {v2 : Int32} {wv3 : Value} {wv4 : Value} {wv5 : Value} {s0 : Int32} (h0 : isX10 G a0) : gw C G mX10_owner Q 125 [.ref a0, .int v1, .int v2, wv3, wv4, wv5] [.int s0] σ = Q (some (.int s0)) σ := by
  exact e_ireti dX10_owner_125 rfl
theorem BX10_leakedOnes_0 {C : gC} {G : gG} {Q : gK} {σ : gM} {a0 : Nat} (h0 : isX10 G a0) : gw C G mX10_leakedOnes Q 0 [.ref a0, .long 0, .long 0, .long 0, .long 0, .long 0] [] σ = gw C G mX10_leakedOnes Q 6 [.ref a0, .int 0, .int 0, .int 0, .long 0, .long 0] [] σ := by
  refine Eq.trans (e_iconst (x := 0) dX10_leakedOnes_0 (by decide)) ?_
  refine Eq.trans (e_istore_n dX10_leakedOnes_1 (Nat.le_of_ble_eq_true rfl)) ?_
  refine Eq.trans (e_iconst (x := 0) dX10_leakedOnes_2 (by decide)) ?_
  refine Eq.trans (e_istore_n dX10_leakedOnes_3 (Nat.le_of_ble_eq_true rfl)) ?_
  refine Eq.trans (e_iconst (x := 0) dX10_leakedOnes_4 (by decide)) ?_
  refine Eq.trans (e_istore_n dX10_leakedOnes_5 (Nat.le_of_ble_eq_true rfl)) ?_
  rfl
theorem BX10_leakedOnes_6 {C : gC} {G : gG} {Q : gK} {σ : gM} {a0 : Nat} {v1 : Int32} {v2 : Int32} {v3 : Int32} {wv4 : Value} {wv5 : Value} (h0 : isX10 G a0) : gw C G mX10_leakedOnes Q 6 [.ref a0, .int v1, .int v2, .int v3, wv4, wv5] [] σ = (if v3 < 30 then (g_inv C mX10_isLive [.ref a0, .int v3] σ fun r σ' => gw C G mX10_leakedOnes Q 18 [.ref a0, .int v1, .int v2, .int v3, wv4, wv5] (r.toList ++ [.int v2]) σ') else gw C G mX10_leakedOnes Q 76 [.ref a0, .int v1, .int v2, .int (-1), wv4, wv5] [] σ) := by
  refine Eq.trans (e_iload_n dX10_leakedOnes_6 rfl) ?_
  refine Eq.trans (e_bipush (x := 30) dX10_leakedOnes_7 (by decide)) ?_
  refine Eq.trans (e_ic_ge (t := 74) dX10_leakedOnes_9 (by decide)) (g_ite ?_ ?_)
  · refine Eq.trans (e_iload_n dX10_leakedOnes_12 rfl) ?_
    refine Eq.trans (e_aload_n dX10_leakedOnes_13 rfl) ?_
    refine Eq.trans (e_iload_n dX10_leakedOnes_14 rfl) ?_
    exact e_invv dX10_leakedOnes_15 cl_10_61 (kX10 h0) (by simp) rfl rfl (by simp)
  · refine Eq.trans (e_iconst (x := (-1)) dX10_leakedOnes_74 (by decide)) ?_
    refine Eq.trans (e_istore_n dX10_leakedOnes_75 (Nat.le_of_ble_eq_true rfl)) ?_
    rfl
theorem BX10_leakedOnes_18 {C : gC} {G : gG} {Q : gK} {σ : gM} {a0 : Nat} {v1 : Int32} {v2 : Int32} {v3 : Int32} {wv4 : Value} {wv5 : Value} {s0 : Int32} {s1 : Int32} (h0 : isX10 G a0) : gw C G mX10_leakedOnes Q 18 [.ref a0, .int v1, .int v2, .int v3, wv4, wv5] [.int s1, .int s0] σ = (if s1 = 0 then gw C G mX10_leakedOnes Q 28 [.ref a0, .int v1, .int v2, .int v3, wv4, wv5] [.int 0, .int s0] σ else gw C G mX10_leakedOnes Q 28 [.ref a0, .int v1, .int v2, .int v3, wv4, wv5] [.int (1 <<< (v3 &&& 31)), .int s0] σ) := by
  refine Eq.trans (e_if_eq (t := 27) dX10_leakedOnes_18 (by decide)) (g_ite ?_ ?_)
  · refine Eq.trans (e_iconst (x := 0) dX10_leakedOnes_27 (by decide)) ?_
    rfl
  · refine Eq.trans (e_iconst (x := 1) dX10_leakedOnes_21 (by decide)) ?_
    refine Eq.trans (e_iload_n dX10_leakedOnes_22 rfl) ?_
    refine Eq.trans (e_ishl dX10_leakedOnes_23) ?_
    refine Eq.trans (e_goto (t := 28) dX10_leakedOnes_24 (by decide)) ?_
    rfl
theorem BX10_leakedOnes_28 {C : gC} {G : gG} {Q : gK} {σ : gM} {a0 : Nat} {v1 : Int32} {v2 : Int32} {v3 : Int32} {wv4 : Value} {wv5 : Value} {s0 : Int32} {s1 : Int32} (h0 : isX10 G a0) : gw C G mX10_leakedOnes Q 28 [.ref a0, .int v1, .int v2, .int v3, wv4, wv5] [.int s1, .int s0] σ = (g_inv C mX10_isLive [.ref a0, .int v3] σ fun r σ' => gw C G mX10_leakedOnes Q 36 [.ref a0, .int v1, .int (s0 ||| s1), .int v3, wv4, wv5] (r.toList ++ [.int v1]) σ') := by
  refine Eq.trans (e_ior dX10_leakedOnes_28) ?_
  refine Eq.trans (e_istore_n dX10_leakedOnes_29 (Nat.le_of_ble_eq_true rfl)) ?_
  refine Eq.trans (e_iload_n dX10_leakedOnes_30 rfl) ?_
  refine Eq.trans (e_aload_n dX10_leakedOnes_31 rfl) ?_
  refine Eq.trans (e_iload_n dX10_leakedOnes_32 rfl) ?_
  exact e_invv dX10_leakedOnes_33 cl_10_61 (kX10 h0) (by simp) rfl rfl (by simp)
theorem BX10_leakedOnes_36 {C : gC} {G : gG} {Q : gK} {σ : gM} {a0 : Nat} {v1 : Int32} {v2 : Int32} {v3 : Int32} {wv4 : Value} {wv5 : Value} {s0 : Int32} {s1 : Int32} (h0 : isX10 G a0) : gw C G mX10_leakedOnes Q 36 [.ref a0, .int v1, .int v2, .int v3, wv4, wv5] [.int s1, .int s0] σ = (if s1 = 0 then gw C G mX10_leakedOnes Q 6 [.ref a0, .int (s0 ||| 0), .int v2, .int (v3 + 1), wv4, wv5] [] σ else (g_inv C mX10_at [.ref a0, .int v3, .int 7] σ fun r σ' => gw C G mX10_leakedOnes Q 46 [.ref a0, .int v1, .int v2, .int v3, wv4, wv5] (r.toList ++ [.int s0]) σ')) := by
  refine Eq.trans (e_if_eq (t := 65) dX10_leakedOnes_36 (by decide)) (g_ite ?_ ?_)
  · refine Eq.trans (e_iconst (x := 0) dX10_leakedOnes_65 (by decide)) ?_
    refine Eq.trans (e_ior dX10_leakedOnes_66) ?_
    refine Eq.trans (e_istore_n dX10_leakedOnes_67 (Nat.le_of_ble_eq_true rfl)) ?_
    refine Eq.trans (e_iinc (y := 1) dX10_leakedOnes_68 rfl (by decide)) ?_
    refine Eq.trans (e_goto (t := 6) dX10_leakedOnes_71 (by decide)) ?_
    rfl
  · refine Eq.trans (e_aload_n dX10_leakedOnes_39 rfl) ?_
    refine Eq.trans (e_iload_n dX10_leakedOnes_40 rfl) ?_
    refine Eq.trans (e_bipush (x := 7) dX10_leakedOnes_41 (by decide)) ?_
    exact e_invv dX10_leakedOnes_43 cl_10_57 (kX10 h0) (by simp) rfl rfl (by simp)
theorem BX10_leakedOnes_46 {C : gC} {G : gG} {Q : gK} {σ : gM} {a0 : Nat} {v1 : Int32} {v2 : Int32} {v3 : Int32} {wv4 : Value} {wv5 : Value} {s0 : Int32} {s1 : Int32} (h0 : isX10 G a0) : gw C G mX10_leakedOnes Q 46 [.ref a0, .int v1, .int v2, .int v3, wv4, wv5] [.int s1, .int s0] σ = (if s1 < 0 then (g_inv C mX10_at [.ref a0, .int v3, .int 6] σ fun r σ' => gw C G mX10_leakedOnes Q 56 [.ref a0, .int v1, .int v2, .int v3, wv4, wv5] (r.toList ++ [.int s0]) σ') else gw C G mX10_leakedOnes Q 6 [.ref a0, .int (s0 ||| (1 <<< (v3 &&& 31))), .int v2, .int (v3 + 1), wv4, wv5] [] σ) := by
  refine Eq.trans (e_if_ge (t := 59) dX10_leakedOnes_46 (by decide)) (g_ite ?_ ?_)
  · refine Eq.trans (e_aload_n dX10_leakedOnes_49 rfl) ?_
    refine Eq.trans (e_iload_n dX10_leakedOnes_50 rfl) ?_
    refine Eq.trans (e_bipush (x := 6) dX10_leakedOnes_51 (by decide)) ?_
    exact e_invv dX10_leakedOnes_53 cl_10_57 (kX10 h0) (by simp) rfl rfl (by simp)
  · refine Eq.trans (e_iconst (x := 1) dX10_leakedOnes_59 (by decide)) ?_
    refine Eq.trans (e_iload_n dX10_leakedOnes_60 rfl) ?_
    refine Eq.trans (e_ishl dX10_leakedOnes_61) ?_
    refine Eq.trans (e_goto (t := 66) dX10_leakedOnes_62 (by decide)) ?_
    refine Eq.trans (e_ior dX10_leakedOnes_66) ?_
    refine Eq.trans (e_istore_n dX10_leakedOnes_67 (Nat.le_of_ble_eq_true rfl)) ?_
    refine Eq.trans (e_iinc (y := 1) dX10_leakedOnes_68 rfl (by decide)) ?_
    refine Eq.trans (e_goto (t := 6) dX10_leakedOnes_71 (by decide)) ?_
    rfl
theorem BX10_leakedOnes_56 {C : gC} {G : gG} {Q : gK} {σ : gM} {a0 : Nat} {v1 : Int32} {v2 : Int32} {v3 : Int32} {wv4 : Value} {wv5 : Value} {s0 : Int32} {s1 : Int32} (h0 : isX10 G a0) : gw C G mX10_leakedOnes Q 56 [.ref a0, .int v1, .int v2, .int v3, wv4, wv5] [.int s1, .int s0] σ = (if 0 < s1 then gw C G mX10_leakedOnes Q 6 [.ref a0, .int (s0 ||| (1 <<< (v3 &&& 31))), .int v2, .int (v3 + 1), wv4, wv5] [] σ else gw C G mX10_leakedOnes Q 6 [.ref a0, .int (s0 ||| 0), .int v2, .int (v3 + 1), wv4, wv5] [] σ) := by
  refine Eq.trans (e_if_le (t := 65) dX10_leakedOnes_56 (by decide)) (g_ite ?_ ?_)
  · refine Eq.trans (e_iconst (x := 1) dX10_leakedOnes_59 (by decide)) ?_
    refine Eq.trans (e_iload_n dX10_leakedOnes_60 rfl) ?_
    refine Eq.trans (e_ishl dX10_leakedOnes_61) ?_
    refine Eq.trans (e_goto (t := 66) dX10_leakedOnes_62 (by decide)) ?_
    refine Eq.trans (e_ior dX10_leakedOnes_66) ?_
    refine Eq.trans (e_istore_n dX10_leakedOnes_67 (Nat.le_of_ble_eq_true rfl)) ?_
    refine Eq.trans (e_iinc (y := 1) dX10_leakedOnes_68 rfl (by decide)) ?_
    refine Eq.trans (e_goto (t := 6) dX10_leakedOnes_71 (by decide)) ?_
    rfl
  · refine Eq.trans (e_iconst (x := 0) dX10_leakedOnes_65 (by decide)) ?_
    refine Eq.trans (e_ior dX10_leakedOnes_66) ?_
    refine Eq.trans (e_istore_n dX10_leakedOnes_67 (Nat.le_of_ble_eq_true rfl)) ?_
    refine Eq.trans (e_iinc (y := 1) dX10_leakedOnes_68 rfl (by decide)) ?_
    refine Eq.trans (e_goto (t := 6) dX10_leakedOnes_71 (by decide)) ?_
    rfl
theorem BX10_leakedOnes_76 {C : gC} {G : gG} {Q : gK} {σ : gM} {a0 : Nat} {v1 : Int32} {v2 : Int32} {v3 : Int32} {wv4 : Value} {wv5 : Value} (h0 : isX10 G a0) : gw C G mX10_leakedOnes Q 76 [.ref a0, .int v1, .int v2, .int v3, wv4, wv5] [] σ = (if v3 = v1 then Q (some (.int (v2 &&& (v1 ^^^ (-1))))) σ else gw C G mX10_leakedOnes Q 86 [.ref a0, .int v1, .int v2, .int v1, .int 0, wv5] [] σ) := by
  refine Eq.trans (e_iload_n dX10_leakedOnes_76 rfl) ?_
  refine Eq.trans (e_iload_n dX10_leakedOnes_77 rfl) ?_
  refine Eq.trans (e_ic_eq (t := 159) dX10_leakedOnes_78 (by decide)) (g_ite ?_ ?_)
  · refine Eq.trans (e_iload_n dX10_leakedOnes_159 rfl) ?_
    refine Eq.trans (e_iload_n dX10_leakedOnes_160 rfl) ?_
    refine Eq.trans (e_iconst (x := (-1)) dX10_leakedOnes_161 (by decide)) ?_
    refine Eq.trans (e_ixor dX10_leakedOnes_162) ?_
    refine Eq.trans (e_iand dX10_leakedOnes_163) ?_
    exact e_ireti dX10_leakedOnes_164 rfl
  · refine Eq.trans (e_iload_n dX10_leakedOnes_81 rfl) ?_
    refine Eq.trans (e_istore_n dX10_leakedOnes_82 (Nat.le_of_ble_eq_true rfl)) ?_
    refine Eq.trans (e_iconst (x := 0) dX10_leakedOnes_83 (by decide)) ?_
    refine Eq.trans (e_istore dX10_leakedOnes_84 (Nat.le_of_ble_eq_true rfl)) ?_
    rfl
theorem BX10_leakedOnes_86 {C : gC} {G : gG} {Q : gK} {σ : gM} {a0 : Nat} {v1 : Int32} {v2 : Int32} {v3 : Int32} {v4 : Int32} {wv5 : Value} (h0 : isX10 G a0) : gw C G mX10_leakedOnes Q 86 [.ref a0, .int v1, .int v2, .int v3, .int v4, wv5] [] σ = (if v4 < 30 then gw C G mX10_leakedOnes Q 96 [.ref a0, .int v1, .int v2, .int v3, .int v4, .int 0] [] σ else gw C G mX10_leakedOnes Q 76 [.ref a0, .int v1, .int v2, .int v3, .int v4, wv5] [] σ) := by
  refine Eq.trans (e_iload dX10_leakedOnes_86 rfl) ?_
  refine Eq.trans (e_bipush (x := 30) dX10_leakedOnes_88 (by decide)) ?_
  refine Eq.trans (e_ic_ge (t := 156) dX10_leakedOnes_90 (by decide)) (g_ite ?_ ?_)
  · refine Eq.trans (e_iconst (x := 0) dX10_leakedOnes_93 (by decide)) ?_
    refine Eq.trans (e_istore dX10_leakedOnes_94 (Nat.le_of_ble_eq_true rfl)) ?_
    rfl
  · refine Eq.trans (e_goto (t := 76) dX10_leakedOnes_156 (by decide)) ?_
    rfl
theorem BX10_leakedOnes_96 {C : gC} {G : gG} {Q : gK} {σ : gM} {a0 : Nat} {v1 : Int32} {v2 : Int32} {v3 : Int32} {v4 : Int32} {v5 : Int32} (h0 : isX10 G a0) : gw C G mX10_leakedOnes Q 96 [.ref a0, .int v1, .int v2, .int v3, .int v4, .int v5] [] σ = (if v5 < 30 then (if ((v1 >>> (v4 &&& 31)) &&& 1) = 1 then (g_inv C mX10_isLive [.ref a0, .int v5] σ fun r σ' => gw C G mX10_leakedOnes Q 120 [.ref a0, .int v1, .int v2, .int v3, .int v4, .int v5] (r.toList ++ [.int v1]) σ') else gw C G mX10_leakedOnes Q 86 [.ref a0, .int v1, .int v2, .int v3, .int (v4 + 1), .int v5] [] σ) else gw C G mX10_leakedOnes Q 86 [.ref a0, .int v1, .int v2, .int v3, .int (v4 + 1), .int v5] [] σ) := by
  refine Eq.trans (e_iload dX10_leakedOnes_96 rfl) ?_
  refine Eq.trans (e_bipush (x := 30) dX10_leakedOnes_98 (by decide)) ?_
  refine Eq.trans (e_ic_ge (t := 150) dX10_leakedOnes_100 (by decide)) (g_ite ?_ ?_)
  · refine Eq.trans (e_iload_n dX10_leakedOnes_103 rfl) ?_
    refine Eq.trans (e_iload dX10_leakedOnes_104 rfl) ?_
    refine Eq.trans (e_ishr dX10_leakedOnes_106) ?_
    refine Eq.trans (e_iconst (x := 1) dX10_leakedOnes_107 (by decide)) ?_
    refine Eq.trans (e_iand dX10_leakedOnes_108) ?_
    refine Eq.trans (e_iconst (x := 1) dX10_leakedOnes_109 (by decide)) ?_
    refine Eq.trans (e_ic_ne (t := 150) dX10_leakedOnes_110 (by decide)) (g_ite ?_ ?_)
    · refine Eq.trans (e_iload_n dX10_leakedOnes_113 rfl) ?_
      refine Eq.trans (e_aload_n dX10_leakedOnes_114 rfl) ?_
      refine Eq.trans (e_iload dX10_leakedOnes_115 rfl) ?_
      exact e_invv dX10_leakedOnes_117 cl_10_61 (kX10 h0) (by simp) rfl rfl (by simp)
    · refine Eq.trans (e_iinc (y := 1) dX10_leakedOnes_150 rfl (by decide)) ?_
      refine Eq.trans (e_goto (t := 86) dX10_leakedOnes_153 (by decide)) ?_
      rfl
  · refine Eq.trans (e_iinc (y := 1) dX10_leakedOnes_150 rfl (by decide)) ?_
    refine Eq.trans (e_goto (t := 86) dX10_leakedOnes_153 (by decide)) ?_
    rfl
theorem BX10_leakedOnes_120 {C : gC} {G : gG} {Q : gK} {σ : gM} {a0 : Nat} {v1 : Int32} {v2 : Int32} {v3 : Int32} {v4 : Int32} {v5 : Int32} {s0 : Int32} {s1 : Int32} (h0 : isX10 G a0) : gw C G mX10_leakedOnes Q 120 [.ref a0, .int v1, .int v2, .int v3, .int v4, .int v5] [.int s1, .int s0] σ = (if s1 = 0 then gw C G mX10_leakedOnes Q 96 [.ref a0, .int (s0 ||| 0), .int v2, .int v3, .int v4, .int (v5 + 1)] [] σ else (g_inv C mX10_holds [.ref a0, .int v4, .int v5] σ fun r σ' => gw C G mX10_leakedOnes Q 131 [.ref a0, .int v1, .int v2, .int v3, .int v4, .int v5] (r.toList ++ [.int s0]) σ')) := by
  refine Eq.trans (e_if_eq (t := 141) dX10_leakedOnes_120 (by decide)) (g_ite ?_ ?_)
  · refine Eq.trans (e_iconst (x := 0) dX10_leakedOnes_141 (by decide)) ?_
    refine Eq.trans (e_ior dX10_leakedOnes_142) ?_
    refine Eq.trans (e_istore_n dX10_leakedOnes_143 (Nat.le_of_ble_eq_true rfl)) ?_
    refine Eq.trans (e_iinc (y := 1) dX10_leakedOnes_144 rfl (by decide)) ?_
    refine Eq.trans (e_goto (t := 96) dX10_leakedOnes_147 (by decide)) ?_
    rfl
  · refine Eq.trans (e_aload_n dX10_leakedOnes_123 rfl) ?_
    refine Eq.trans (e_iload dX10_leakedOnes_124 rfl) ?_
    refine Eq.trans (e_iload dX10_leakedOnes_126 rfl) ?_
    exact e_invv dX10_leakedOnes_128 cl_10_143 (kX10 h0) (by simp) rfl rfl (by simp)
theorem BX10_leakedOnes_131 {C : gC} {G : gG} {Q : gK} {σ : gM} {a0 : Nat} {v1 : Int32} {v2 : Int32} {v3 : Int32} {v4 : Int32} {v5 : Int32} {s0 : Int32} {s1 : Int32} (h0 : isX10 G a0) : gw C G mX10_leakedOnes Q 131 [.ref a0, .int v1, .int v2, .int v3, .int v4, .int v5] [.int s1, .int s0] σ = (if s1 = 0 then gw C G mX10_leakedOnes Q 96 [.ref a0, .int (s0 ||| 0), .int v2, .int v3, .int v4, .int (v5 + 1)] [] σ else gw C G mX10_leakedOnes Q 96 [.ref a0, .int (s0 ||| (1 <<< (v5 &&& 31))), .int v2, .int v3, .int v4, .int (v5 + 1)] [] σ) := by
  refine Eq.trans (e_if_eq (t := 141) dX10_leakedOnes_131 (by decide)) (g_ite ?_ ?_)
  · refine Eq.trans (e_iconst (x := 0) dX10_leakedOnes_141 (by decide)) ?_
    refine Eq.trans (e_ior dX10_leakedOnes_142) ?_
    refine Eq.trans (e_istore_n dX10_leakedOnes_143 (Nat.le_of_ble_eq_true rfl)) ?_
    refine Eq.trans (e_iinc (y := 1) dX10_leakedOnes_144 rfl (by decide)) ?_
    refine Eq.trans (e_goto (t := 96) dX10_leakedOnes_147 (by decide)) ?_
    rfl
  · refine Eq.trans (e_iconst (x := 1) dX10_leakedOnes_134 (by decide)) ?_
    refine Eq.trans (e_iload dX10_leakedOnes_135 rfl) ?_
    refine Eq.trans (e_ishl dX10_leakedOnes_137) ?_
    refine Eq.trans (e_goto (t := 142) dX10_leakedOnes_138 (by decide)) ?_
    refine Eq.trans (e_ior dX10_leakedOnes_142) ?_
    refine Eq.trans (e_istore_n dX10_leakedOnes_143 (Nat.le_of_ble_eq_true rfl)) ?_
    refine Eq.trans (e_iinc (y := 1) dX10_leakedOnes_144 rfl (by decide)) ?_
    refine Eq.trans (e_goto (t := 96) dX10_leakedOnes_147 (by decide)) ?_
    rfl
theorem BX10_holds_0 {C : gC} {G : gG} {Q : gK} {σ : gM} {a0 : Nat} {v1 : Int32} {v2 : Int32} (h0 : isX10 G a0) : gw C G mX10_holds Q 0 [.ref a0, .int v1, .int v2, .long 0] [] σ = gw C G mX10_holds Q 2 [.ref a0, .int v1, .int v2, .int 0] [] σ := by
  refine Eq.trans (e_iconst (x := 0) dX10_holds_0 (by decide)) ?_
  refine Eq.trans (e_istore_n dX10_holds_1 (Nat.le_of_ble_eq_true rfl)) ?_
  rfl
theorem BX10_holds_2 {C : gC} {G : gG} {Q : gK} {σ : gM} {a0 : Nat} {v1 : Int32} {v2 : Int32} {v3 : Int32} (h0 : isX10 G a0) : gw C G mX10_holds Q 2 [.ref a0, .int v1, .int v2, .int v3] [] σ = (g_inv C mX10_at [.ref a0, .int v1, .int 3] σ fun r σ' => gw C G mX10_holds Q 9 [.ref a0, .int v1, .int v2, .int v3] (r.toList ++ [.int v3]) σ') := by
  refine Eq.trans (e_iload_n dX10_holds_2 rfl) ?_
  refine Eq.trans (e_aload_n dX10_holds_3 rfl) ?_
  refine Eq.trans (e_iload_n dX10_holds_4 rfl) ?_
  refine Eq.trans (e_iconst (x := 3) dX10_holds_5 (by decide)) ?_
  exact e_invv dX10_holds_6 cl_10_57 (kX10 h0) (by simp) rfl rfl (by simp)
theorem BX10_holds_9 {C : gC} {G : gG} {Q : gK} {σ : gM} {a0 : Nat} {v1 : Int32} {v2 : Int32} {v3 : Int32} {s0 : Int32} {s1 : Int32} (h0 : isX10 G a0) : gw C G mX10_holds Q 9 [.ref a0, .int v1, .int v2, .int v3] [.int s1, .int s0] σ = (if s0 < s1 then (g_inv C mX10_at [.ref a0, .int v1, .int 2] σ fun r σ' => gw C G mX10_holds Q 25 [.ref a0, .int v1, .int v2, .int v3] (r.toList ++ [.int 330, .ref (a0 + 1)]) σ') else Q (some (.int 0)) σ) := by
  refine Eq.trans (e_ic_ge (t := 45) dX10_holds_9 (by decide)) (g_ite ?_ ?_)
  · refine Eq.trans (e_aload_n dX10_holds_12 rfl) ?_
    refine Eq.trans (e_getr (b := a0 + 1) dX10_holds_13 fl_10_9 (kX10 h0) (sX10_0 h0)) ?_
    refine Eq.trans (e_sipush (x := 330) dX10_holds_16 (by decide)) ?_
    refine Eq.trans (e_aload_n dX10_holds_19 rfl) ?_
    refine Eq.trans (e_iload_n dX10_holds_20 rfl) ?_
    refine Eq.trans (e_iconst (x := 2) dX10_holds_21 (by decide)) ?_
    exact e_invv dX10_holds_22 cl_10_57 (kX10 h0) (by simp) rfl rfl (by simp)
  · refine Eq.trans (e_iconst (x := 0) dX10_holds_45 (by decide)) ?_
    exact Eq.trans (e_iretz dX10_holds_46 rfl) (g_and (by decide))
theorem BX10_holds_25 {C : gC} {G : gG} {Q : gK} {σ : gM} {a0 : Nat} {v1 : Int32} {v2 : Int32} {v3 : Int32} {s1 : Int32} {s2 : Int32} (h0 : isX10 G a0) : gw C G mX10_holds Q 25 [.ref a0, .int v1, .int v2, .int v3] [.int s2, .int s1, .ref (a0 + 1)] σ = (vp_in ((s1 + s2) + v3) 607 ∧ (g_inv C mX10_handleOf [.ref a0, .int v2] σ fun r σ' => gw C G mX10_holds Q 34 [.ref a0, .int v1, .int v2, .int v3] (r.toList ++ [.int (σ (a0 + 1) ((s1 + s2) + v3).toNatClampNeg)]) σ')) := by
  refine Eq.trans (e_iadd dX10_holds_25) ?_
  refine Eq.trans (e_iload_n dX10_holds_26 rfl) ?_
  refine Eq.trans (e_iadd dX10_holds_27) ?_
  refine Eq.trans (e_iald dX10_holds_28 (aX10_0 h0) (nX10_0 h0)) (g_cj ?_)
  refine Eq.trans (e_aload_n dX10_holds_29 rfl) ?_
  refine Eq.trans (e_iload_n dX10_holds_30 rfl) ?_
  exact e_invv dX10_holds_31 cl_10_93 (kX10 h0) (by simp) rfl rfl (by simp)
theorem BX10_holds_34 {C : gC} {G : gG} {Q : gK} {σ : gM} {a0 : Nat} {v1 : Int32} {v2 : Int32} {v3 : Int32} {s0 : Int32} {s1 : Int32} (h0 : isX10 G a0) : gw C G mX10_holds Q 34 [.ref a0, .int v1, .int v2, .int v3] [.int s1, .int s0] σ = (if s0 = s1 then Q (some (.int 1)) σ else gw C G mX10_holds Q 2 [.ref a0, .int v1, .int v2, .int (v3 + 1)] [] σ) := by
  refine Eq.trans (e_ic_ne (t := 39) dX10_holds_34 (by decide)) (g_ite ?_ ?_)
  · refine Eq.trans (e_iconst (x := 1) dX10_holds_37 (by decide)) ?_
    exact Eq.trans (e_iretz dX10_holds_38 rfl) (g_and (by decide))
  · refine Eq.trans (e_iinc (y := 1) dX10_holds_39 rfl (by decide)) ?_
    refine Eq.trans (e_goto (t := 2) dX10_holds_42 (by decide)) ?_
    rfl
theorem BX10_liveMany_0 {C : gC} {G : gG} {Q : gK} {σ : gM} {a0 : Nat} {v1 : Int32} (h0 : isX10 G a0) : gw C G mX10_liveMany Q 0 [.ref a0, .int v1, .long 0, .long 0] [] σ = gw C G mX10_liveMany Q 4 [.ref a0, .int v1, .int 0, .int 0] [] σ := by
  refine Eq.trans (e_iconst (x := 0) dX10_liveMany_0 (by decide)) ?_
  refine Eq.trans (e_istore_n dX10_liveMany_1 (Nat.le_of_ble_eq_true rfl)) ?_
  refine Eq.trans (e_iconst (x := 0) dX10_liveMany_2 (by decide)) ?_
  refine Eq.trans (e_istore_n dX10_liveMany_3 (Nat.le_of_ble_eq_true rfl)) ?_
  rfl
theorem BX10_liveMany_4 {C : gC} {G : gG} {Q : gK} {σ : gM} {a0 : Nat} {v1 : Int32} {v2 : Int32} {v3 : Int32} (h0 : isX10 G a0) : gw C G mX10_liveMany Q 4 [.ref a0, .int v1, .int v2, .int v3] [] σ = (if v3 < 30 then (g_inv C mX10_isLive [.ref a0, .int v3] σ fun r σ' => gw C G mX10_liveMany Q 16 [.ref a0, .int v1, .int v2, .int v3] (r.toList ++ [.int v2]) σ') else Q (some (.int v2)) σ) := by
  refine Eq.trans (e_iload_n dX10_liveMany_4 rfl) ?_
  refine Eq.trans (e_bipush (x := 30) dX10_liveMany_5 (by decide)) ?_
  refine Eq.trans (e_ic_ge (t := 46) dX10_liveMany_7 (by decide)) (g_ite ?_ ?_)
  · refine Eq.trans (e_iload_n dX10_liveMany_10 rfl) ?_
    refine Eq.trans (e_aload_n dX10_liveMany_11 rfl) ?_
    refine Eq.trans (e_iload_n dX10_liveMany_12 rfl) ?_
    exact e_invv dX10_liveMany_13 cl_10_61 (kX10 h0) (by simp) rfl rfl (by simp)
  · refine Eq.trans (e_iload_n dX10_liveMany_46 rfl) ?_
    exact e_ireti dX10_liveMany_47 rfl
theorem BX10_liveMany_16 {C : gC} {G : gG} {Q : gK} {σ : gM} {a0 : Nat} {v1 : Int32} {v2 : Int32} {v3 : Int32} {s0 : Int32} {s1 : Int32} (h0 : isX10 G a0) : gw C G mX10_liveMany Q 16 [.ref a0, .int v1, .int v2, .int v3] [.int s1, .int s0] σ = (if s1 = 0 then gw C G mX10_liveMany Q 4 [.ref a0, .int v1, .int (s0 + 0), .int (v3 + 1)] [] σ else (if v1 < 0 then gw C G mX10_liveMany Q 4 [.ref a0, .int v1, .int (s0 + 1), .int (v3 + 1)] [] σ else (g_inv C mX10_at [.ref a0, .int v3, .int 5] σ fun r σ' => gw C G mX10_liveMany Q 29 [.ref a0, .int v1, .int v2, .int v3] (r.toList ++ [.int s0]) σ'))) := by
  refine Eq.trans (e_if_eq (t := 37) dX10_liveMany_16 (by decide)) (g_ite ?_ ?_)
  · refine Eq.trans (e_iconst (x := 0) dX10_liveMany_37 (by decide)) ?_
    refine Eq.trans (e_iadd dX10_liveMany_38) ?_
    refine Eq.trans (e_istore_n dX10_liveMany_39 (Nat.le_of_ble_eq_true rfl)) ?_
    refine Eq.trans (e_iinc (y := 1) dX10_liveMany_40 rfl (by decide)) ?_
    refine Eq.trans (e_goto (t := 4) dX10_liveMany_43 (by decide)) ?_
    rfl
  · refine Eq.trans (e_iload_n dX10_liveMany_19 rfl) ?_
    refine Eq.trans (e_if_lt (t := 33) dX10_liveMany_20 (by decide)) (g_ite ?_ ?_)
    · refine Eq.trans (e_iconst (x := 1) dX10_liveMany_33 (by decide)) ?_
      refine Eq.trans (e_goto (t := 38) dX10_liveMany_34 (by decide)) ?_
      refine Eq.trans (e_iadd dX10_liveMany_38) ?_
      refine Eq.trans (e_istore_n dX10_liveMany_39 (Nat.le_of_ble_eq_true rfl)) ?_
      refine Eq.trans (e_iinc (y := 1) dX10_liveMany_40 rfl (by decide)) ?_
      refine Eq.trans (e_goto (t := 4) dX10_liveMany_43 (by decide)) ?_
      rfl
    · refine Eq.trans (e_aload_n dX10_liveMany_23 rfl) ?_
      refine Eq.trans (e_iload_n dX10_liveMany_24 rfl) ?_
      refine Eq.trans (e_iconst (x := 5) dX10_liveMany_25 (by decide)) ?_
      exact e_invv dX10_liveMany_26 cl_10_57 (kX10 h0) (by simp) rfl rfl (by simp)
theorem BX10_liveMany_29 {C : gC} {G : gG} {Q : gK} {σ : gM} {a0 : Nat} {v1 : Int32} {v2 : Int32} {v3 : Int32} {s0 : Int32} {s1 : Int32} (h0 : isX10 G a0) : gw C G mX10_liveMany Q 29 [.ref a0, .int v1, .int v2, .int v3] [.int s1, .int s0] σ = (if s1 = v1 then gw C G mX10_liveMany Q 4 [.ref a0, .int v1, .int (s0 + 1), .int (v3 + 1)] [] σ else gw C G mX10_liveMany Q 4 [.ref a0, .int v1, .int (s0 + 0), .int (v3 + 1)] [] σ) := by
  refine Eq.trans (e_iload_n dX10_liveMany_29 rfl) ?_
  refine Eq.trans (e_ic_ne (t := 37) dX10_liveMany_30 (by decide)) (g_ite ?_ ?_)
  · refine Eq.trans (e_iconst (x := 1) dX10_liveMany_33 (by decide)) ?_
    refine Eq.trans (e_goto (t := 38) dX10_liveMany_34 (by decide)) ?_
    refine Eq.trans (e_iadd dX10_liveMany_38) ?_
    refine Eq.trans (e_istore_n dX10_liveMany_39 (Nat.le_of_ble_eq_true rfl)) ?_
    refine Eq.trans (e_iinc (y := 1) dX10_liveMany_40 rfl (by decide)) ?_
    refine Eq.trans (e_goto (t := 4) dX10_liveMany_43 (by decide)) ?_
    rfl
  · refine Eq.trans (e_iconst (x := 0) dX10_liveMany_37 (by decide)) ?_
    refine Eq.trans (e_iadd dX10_liveMany_38) ?_
    refine Eq.trans (e_istore_n dX10_liveMany_39 (Nat.le_of_ble_eq_true rfl)) ?_
    refine Eq.trans (e_iinc (y := 1) dX10_liveMany_40 rfl (by decide)) ?_
    refine Eq.trans (e_goto (t := 4) dX10_liveMany_43 (by decide)) ?_
    rfl
theorem BX10_enter_0 {C : gC} {G : gG} {Q : gK} {σ : gM} {a0 : Nat} {v1 : Int32} (h0 : isX10 G a0) : gw C G mX10_enter Q 0 [.ref a0, .int v1] [] σ = (g_inv C mX10_in [.int v1, .int 0, .int 5] σ fun r σ' => gw C G mX10_enter Q 6 [.ref a0, .int v1] (r.toList ++ []) σ') := by
  refine Eq.trans (e_iload_n dX10_enter_0 rfl) ?_
  refine Eq.trans (e_iconst (x := 0) dX10_enter_1 (by decide)) ?_
  refine Eq.trans (e_iconst (x := 5) dX10_enter_2 (by decide)) ?_
  exact e_invs dX10_enter_3 cl_10_65 (by decide) (by simp) rfl rfl (by simp)
theorem BX10_enter_6 {C : gC} {G : gG} {Q : gK} {σ : gM} {a0 : Nat} {v1 : Int32} {s0 : Int32} (h0 : isX10 G a0) : gw C G mX10_enter Q 6 [.ref a0, .int v1] [.int s0] σ = (if s0 = 0 then Q (some (.int (-1))) σ else (vp_in (599 + v1) 607 ∧ (if (σ (a0 + 1) (599 + v1).toNatClampNeg) < 0 then (vp_in 605 607 ∧ (vp_in (599 + v1) 607 ∧ gw C G mX10_enter Q 45 [.ref a0, .int v1] [] (g_up σ (a0 + 1) (599 + v1).toNatClampNeg (σ (a0 + 1) (605 : Int32).toNatClampNeg)))) else Q (some (.int (-5))) σ))) := by
  refine Eq.trans (e_if_ne (t := 11) dX10_enter_6 (by decide)) (g_ite ?_ ?_)
  · refine Eq.trans (e_iconst (x := (-1)) dX10_enter_9 (by decide)) ?_
    exact e_ireti dX10_enter_10 rfl
  · refine Eq.trans (e_aload_n dX10_enter_11 rfl) ?_
    refine Eq.trans (e_getr (b := a0 + 1) dX10_enter_12 fl_10_9 (kX10 h0) (sX10_0 h0)) ?_
    refine Eq.trans (e_sipush (x := 599) dX10_enter_15 (by decide)) ?_
    refine Eq.trans (e_iload_n dX10_enter_18 rfl) ?_
    refine Eq.trans (e_iadd dX10_enter_19) ?_
    refine Eq.trans (e_iald dX10_enter_20 (aX10_0 h0) (nX10_0 h0)) (g_cj ?_)
    refine Eq.trans (e_if_lt (t := 27) dX10_enter_21 (by decide)) (g_ite ?_ ?_)
    · refine Eq.trans (e_aload_n dX10_enter_27 rfl) ?_
      refine Eq.trans (e_getr (b := a0 + 1) dX10_enter_28 fl_10_9 (kX10 h0) (sX10_0 h0)) ?_
      refine Eq.trans (e_sipush (x := 599) dX10_enter_31 (by decide)) ?_
      refine Eq.trans (e_iload_n dX10_enter_34 rfl) ?_
      refine Eq.trans (e_iadd dX10_enter_35) ?_
      refine Eq.trans (e_aload_n dX10_enter_36 rfl) ?_
      refine Eq.trans (e_getr (b := a0 + 1) dX10_enter_37 fl_10_9 (kX10 h0) (sX10_0 h0)) ?_
      refine Eq.trans (e_sipush (x := 605) dX10_enter_40 (by decide)) ?_
      refine Eq.trans (e_iald dX10_enter_43 (aX10_0 h0) (nX10_0 h0)) (g_cj ?_)
      refine Eq.trans (e_iast dX10_enter_44 (aX10_0 h0) (nX10_0 h0)) (g_cj ?_)
      rfl
    · refine Eq.trans (e_bipush (x := (-5)) dX10_enter_24 (by decide)) ?_
      exact e_ireti dX10_enter_26 rfl
theorem BX10_enter_45 {C : gC} {G : gG} {Q : gK} {σ : gM} {a0 : Nat} {v1 : Int32} (h0 : isX10 G a0) : gw C G mX10_enter Q 45 [.ref a0, .int v1] [] σ = (vp_in 605 607 ∧ Q (some (.int (σ (a0 + 1) (605 : Int32).toNatClampNeg))) σ) := by
  refine Eq.trans (e_aload_n dX10_enter_45 rfl) ?_
  refine Eq.trans (e_getr (b := a0 + 1) dX10_enter_46 fl_10_9 (kX10 h0) (sX10_0 h0)) ?_
  refine Eq.trans (e_sipush (x := 605) dX10_enter_49 (by decide)) ?_
  refine Eq.trans (e_iald dX10_enter_52 (aX10_0 h0) (nX10_0 h0)) (g_cj ?_)
  exact e_ireti dX10_enter_53 rfl
theorem BX10_leave_0 {C : gC} {G : gG} {Q : gK} {σ : gM} {a0 : Nat} {v1 : Int32} (h0 : isX10 G a0) : gw C G mX10_leave Q 0 [.ref a0, .int v1, .long 0] [] σ = (g_inv C mX10_in [.int v1, .int 0, .int 5] σ fun r σ' => gw C G mX10_leave Q 6 [.ref a0, .int v1, .long 0] (r.toList ++ []) σ') := by
  refine Eq.trans (e_iload_n dX10_leave_0 rfl) ?_
  refine Eq.trans (e_iconst (x := 0) dX10_leave_1 (by decide)) ?_
  refine Eq.trans (e_iconst (x := 5) dX10_leave_2 (by decide)) ?_
  exact e_invs dX10_leave_3 cl_10_65 (by decide) (by simp) rfl rfl (by simp)
theorem BX10_leave_6 {C : gC} {G : gG} {Q : gK} {σ : gM} {a0 : Nat} {v1 : Int32} {wv2 : Value} {s0 : Int32} (h0 : isX10 G a0) : gw C G mX10_leave Q 6 [.ref a0, .int v1, wv2] [.int s0] σ = (if s0 = 0 then Q (some (.int (-1))) σ else (vp_in (599 + v1) 607 ∧ (if (σ (a0 + 1) (599 + v1).toNatClampNeg) < 0 then Q (some (.int (-5))) σ else (vp_in (599 + v1) 607 ∧ Q (some (.int (σ (a0 + 1) (599 + v1).toNatClampNeg))) (g_up σ (a0 + 1) (599 + v1).toNatClampNeg (-1)))))) := by
  refine Eq.trans (e_if_ne (t := 11) dX10_leave_6 (by decide)) (g_ite ?_ ?_)
  · refine Eq.trans (e_iconst (x := (-1)) dX10_leave_9 (by decide)) ?_
    exact e_ireti dX10_leave_10 rfl
  · refine Eq.trans (e_aload_n dX10_leave_11 rfl) ?_
    refine Eq.trans (e_getr (b := a0 + 1) dX10_leave_12 fl_10_9 (kX10 h0) (sX10_0 h0)) ?_
    refine Eq.trans (e_sipush (x := 599) dX10_leave_15 (by decide)) ?_
    refine Eq.trans (e_iload_n dX10_leave_18 rfl) ?_
    refine Eq.trans (e_iadd dX10_leave_19) ?_
    refine Eq.trans (e_iald dX10_leave_20 (aX10_0 h0) (nX10_0 h0)) (g_cj ?_)
    refine Eq.trans (e_istore_n dX10_leave_21 (Nat.le_of_ble_eq_true rfl)) ?_
    refine Eq.trans (e_iload_n dX10_leave_22 rfl) ?_
    refine Eq.trans (e_if_ge (t := 29) dX10_leave_23 (by decide)) (g_ite ?_ ?_)
    · refine Eq.trans (e_bipush (x := (-5)) dX10_leave_26 (by decide)) ?_
      exact e_ireti dX10_leave_28 rfl
    · refine Eq.trans (e_aload_n dX10_leave_29 rfl) ?_
      refine Eq.trans (e_getr (b := a0 + 1) dX10_leave_30 fl_10_9 (kX10 h0) (sX10_0 h0)) ?_
      refine Eq.trans (e_sipush (x := 599) dX10_leave_33 (by decide)) ?_
      refine Eq.trans (e_iload_n dX10_leave_36 rfl) ?_
      refine Eq.trans (e_iadd dX10_leave_37) ?_
      refine Eq.trans (e_iconst (x := (-1)) dX10_leave_38 (by decide)) ?_
      refine Eq.trans (e_iast dX10_leave_39 (aX10_0 h0) (nX10_0 h0)) (g_cj ?_)
      refine Eq.trans (e_iload_n dX10_leave_40 rfl) ?_
      exact e_ireti dX10_leave_41 rfl
theorem BX10_advance_0 {C : gC} {G : gG} {Q : gK} {σ : gM} {a0 : Nat} (h0 : isX10 G a0) : gw C G mX10_advance Q 0 [.ref a0, .long 0, .long 0] [] σ = (g_inv C mX10_freeable [.ref a0] σ fun r σ' => gw C G mX10_advance Q 4 [.ref a0, .long 0, .long 0] (r.toList ++ []) σ') := by
  refine Eq.trans (e_aload_n dX10_advance_0 rfl) ?_
  exact e_invv dX10_advance_1 cl_10_133 (kX10 h0) (by simp) rfl rfl (by simp)
theorem BX10_advance_4 {C : gC} {G : gG} {Q : gK} {σ : gM} {a0 : Nat} {wv1 : Value} {wv2 : Value} {s0 : Int32} (h0 : isX10 G a0) : gw C G mX10_advance Q 4 [.ref a0, wv1, wv2] [.int s0] σ = (vp_in 605 607 ∧ (vp_in 605 607 ∧ gw C G mX10_advance Q 19 [.ref a0, .int s0, .int 0] [] (g_up σ (a0 + 1) (605 : Int32).toNatClampNeg ((σ (a0 + 1) (605 : Int32).toNatClampNeg) + 1)))) := by
  refine Eq.trans (e_istore_n dX10_advance_4 (Nat.le_of_ble_eq_true rfl)) ?_
  refine Eq.trans (e_aload_n dX10_advance_5 rfl) ?_
  refine Eq.trans (e_getr (b := a0 + 1) dX10_advance_6 fl_10_9 (kX10 h0) (sX10_0 h0)) ?_
  refine Eq.trans (e_sipush (x := 605) dX10_advance_9 (by decide)) ?_
  refine Eq.trans (e_dup2 dX10_advance_12) ?_
  refine Eq.trans (e_iald dX10_advance_13 (aX10_0 h0) (nX10_0 h0)) (g_cj ?_)
  refine Eq.trans (e_iconst (x := 1) dX10_advance_14 (by decide)) ?_
  refine Eq.trans (e_iadd dX10_advance_15) ?_
  refine Eq.trans (e_iast dX10_advance_16 (aX10_0 h0) (nX10_0 h0)) (g_cj ?_)
  refine Eq.trans (e_iconst (x := 0) dX10_advance_17 (by decide)) ?_
  refine Eq.trans (e_istore_n dX10_advance_18 (Nat.le_of_ble_eq_true rfl)) ?_
  rfl
theorem BX10_advance_19 {C : gC} {G : gG} {Q : gK} {σ : gM} {a0 : Nat} {v1 : Int32} {v2 : Int32} (h0 : isX10 G a0) : gw C G mX10_advance Q 19 [.ref a0, .int v1, .int v2] [] σ = (if v2 < 30 then (g_inv C mX10_at [.ref a0, .int v2, .int 0] σ fun r σ' => gw C G mX10_advance Q 31 [.ref a0, .int v1, .int v2] (r.toList ++ []) σ') else Q (some (.int v1)) σ) := by
  refine Eq.trans (e_iload_n dX10_advance_19 rfl) ?_
  refine Eq.trans (e_bipush (x := 30) dX10_advance_20 (by decide)) ?_
  refine Eq.trans (e_ic_ge (t := 56) dX10_advance_22 (by decide)) (g_ite ?_ ?_)
  · refine Eq.trans (e_aload_n dX10_advance_25 rfl) ?_
    refine Eq.trans (e_iload_n dX10_advance_26 rfl) ?_
    refine Eq.trans (e_iconst (x := 0) dX10_advance_27 (by decide)) ?_
    exact e_invv dX10_advance_28 cl_10_57 (kX10 h0) (by simp) rfl rfl (by simp)
  · refine Eq.trans (e_iload_n dX10_advance_56 rfl) ?_
    exact e_ireti dX10_advance_57 rfl
theorem BX10_advance_31 {C : gC} {G : gG} {Q : gK} {σ : gM} {a0 : Nat} {v1 : Int32} {v2 : Int32} {s0 : Int32} (h0 : isX10 G a0) : gw C G mX10_advance Q 31 [.ref a0, .int v1, .int v2] [.int s0] σ = (if s0 = 2 then (g_inv C mX10_isSeen [.ref a0, .int v2] σ fun r σ' => gw C G mX10_advance Q 40 [.ref a0, .int v1, .int v2] (r.toList ++ []) σ') else gw C G mX10_advance Q 50 [.ref a0, .int v1, .int v2] [] σ) := by
  refine Eq.trans (e_iconst (x := 2) dX10_advance_31 (by decide)) ?_
  refine Eq.trans (e_ic_ne (t := 50) dX10_advance_32 (by decide)) (g_ite ?_ ?_)
  · refine Eq.trans (e_aload_n dX10_advance_35 rfl) ?_
    refine Eq.trans (e_iload_n dX10_advance_36 rfl) ?_
    exact e_invv dX10_advance_37 cl_10_130 (kX10 h0) (by simp) rfl rfl (by simp)
  · rfl
theorem BX10_advance_40 {C : gC} {G : gG} {Q : gK} {σ : gM} {a0 : Nat} {v1 : Int32} {v2 : Int32} {s0 : Int32} (h0 : isX10 G a0) : gw C G mX10_advance Q 40 [.ref a0, .int v1, .int v2] [.int s0] σ = (if s0 = 0 then (g_inv C mX10_sets [.ref a0, .int v2, .int 0, .int 0] σ fun r σ' => gw C G mX10_advance Q 50 [.ref a0, .int v1, .int v2] (r.toList ++ []) σ') else gw C G mX10_advance Q 50 [.ref a0, .int v1, .int v2] [] σ) := by
  refine Eq.trans (e_if_ne (t := 50) dX10_advance_40 (by decide)) (g_ite ?_ ?_)
  · refine Eq.trans (e_aload_n dX10_advance_43 rfl) ?_
    refine Eq.trans (e_iload_n dX10_advance_44 rfl) ?_
    refine Eq.trans (e_iconst (x := 0) dX10_advance_45 (by decide)) ?_
    refine Eq.trans (e_iconst (x := 0) dX10_advance_46 (by decide)) ?_
    exact e_invv dX10_advance_47 cl_10_89 (kX10 h0) (by simp) rfl rfl (by simp)
  · rfl
theorem BX10_advance_50 {C : gC} {G : gG} {Q : gK} {σ : gM} {a0 : Nat} {v1 : Int32} {v2 : Int32} (h0 : isX10 G a0) : gw C G mX10_advance Q 50 [.ref a0, .int v1, .int v2] [] σ = gw C G mX10_advance Q 19 [.ref a0, .int v1, .int (v2 + 1)] [] σ := by
  refine Eq.trans (e_iinc (y := 1) dX10_advance_50 rfl (by decide)) ?_
  refine Eq.trans (e_goto (t := 19) dX10_advance_53 (by decide)) ?_
  rfl
theorem BX10_freeable_0 {C : gC} {G : gG} {Q : gK} {σ : gM} {a0 : Nat} (h0 : isX10 G a0) : gw C G mX10_freeable Q 0 [.ref a0, .long 0, .long 0] [] σ = gw C G mX10_freeable Q 4 [.ref a0, .int 0, .int 0] [] σ := by
  refine Eq.trans (e_iconst (x := 0) dX10_freeable_0 (by decide)) ?_
  refine Eq.trans (e_istore_n dX10_freeable_1 (Nat.le_of_ble_eq_true rfl)) ?_
  refine Eq.trans (e_iconst (x := 0) dX10_freeable_2 (by decide)) ?_
  refine Eq.trans (e_istore_n dX10_freeable_3 (Nat.le_of_ble_eq_true rfl)) ?_
  rfl
theorem BX10_freeable_4 {C : gC} {G : gG} {Q : gK} {σ : gM} {a0 : Nat} {v1 : Int32} {v2 : Int32} (h0 : isX10 G a0) : gw C G mX10_freeable Q 4 [.ref a0, .int v1, .int v2] [] σ = (if v2 < 30 then (g_inv C mX10_at [.ref a0, .int v2, .int 0] σ fun r σ' => gw C G mX10_freeable Q 17 [.ref a0, .int v1, .int v2] (r.toList ++ [.int v1]) σ') else Q (some (.int v1)) σ) := by
  refine Eq.trans (e_iload_n dX10_freeable_4 rfl) ?_
  refine Eq.trans (e_bipush (x := 30) dX10_freeable_5 (by decide)) ?_
  refine Eq.trans (e_ic_ge (t := 42) dX10_freeable_7 (by decide)) (g_ite ?_ ?_)
  · refine Eq.trans (e_iload_n dX10_freeable_10 rfl) ?_
    refine Eq.trans (e_aload_n dX10_freeable_11 rfl) ?_
    refine Eq.trans (e_iload_n dX10_freeable_12 rfl) ?_
    refine Eq.trans (e_iconst (x := 0) dX10_freeable_13 (by decide)) ?_
    exact e_invv dX10_freeable_14 cl_10_57 (kX10 h0) (by simp) rfl rfl (by simp)
  · refine Eq.trans (e_iload_n dX10_freeable_42 rfl) ?_
    exact e_ireti dX10_freeable_43 rfl
theorem BX10_freeable_17 {C : gC} {G : gG} {Q : gK} {σ : gM} {a0 : Nat} {v1 : Int32} {v2 : Int32} {s0 : Int32} {s1 : Int32} (h0 : isX10 G a0) : gw C G mX10_freeable Q 17 [.ref a0, .int v1, .int v2] [.int s1, .int s0] σ = (if s1 = 2 then (g_inv C mX10_isSeen [.ref a0, .int v2] σ fun r σ' => gw C G mX10_freeable Q 26 [.ref a0, .int v1, .int v2] (r.toList ++ [.int s0]) σ') else gw C G mX10_freeable Q 4 [.ref a0, .int (s0 + 0), .int (v2 + 1)] [] σ) := by
  refine Eq.trans (e_iconst (x := 2) dX10_freeable_17 (by decide)) ?_
  refine Eq.trans (e_ic_ne (t := 33) dX10_freeable_18 (by decide)) (g_ite ?_ ?_)
  · refine Eq.trans (e_aload_n dX10_freeable_21 rfl) ?_
    refine Eq.trans (e_iload_n dX10_freeable_22 rfl) ?_
    exact e_invv dX10_freeable_23 cl_10_130 (kX10 h0) (by simp) rfl rfl (by simp)
  · refine Eq.trans (e_iconst (x := 0) dX10_freeable_33 (by decide)) ?_
    refine Eq.trans (e_iadd dX10_freeable_34) ?_
    refine Eq.trans (e_istore_n dX10_freeable_35 (Nat.le_of_ble_eq_true rfl)) ?_
    refine Eq.trans (e_iinc (y := 1) dX10_freeable_36 rfl (by decide)) ?_
    refine Eq.trans (e_goto (t := 4) dX10_freeable_39 (by decide)) ?_
    rfl
theorem BX10_freeable_26 {C : gC} {G : gG} {Q : gK} {σ : gM} {a0 : Nat} {v1 : Int32} {v2 : Int32} {s0 : Int32} {s1 : Int32} (h0 : isX10 G a0) : gw C G mX10_freeable Q 26 [.ref a0, .int v1, .int v2] [.int s1, .int s0] σ = (if s1 = 0 then gw C G mX10_freeable Q 4 [.ref a0, .int (s0 + 1), .int (v2 + 1)] [] σ else gw C G mX10_freeable Q 4 [.ref a0, .int (s0 + 0), .int (v2 + 1)] [] σ) := by
  refine Eq.trans (e_if_ne (t := 33) dX10_freeable_26 (by decide)) (g_ite ?_ ?_)
  · refine Eq.trans (e_iconst (x := 1) dX10_freeable_29 (by decide)) ?_
    refine Eq.trans (e_goto (t := 34) dX10_freeable_30 (by decide)) ?_
    refine Eq.trans (e_iadd dX10_freeable_34) ?_
    refine Eq.trans (e_istore_n dX10_freeable_35 (Nat.le_of_ble_eq_true rfl)) ?_
    refine Eq.trans (e_iinc (y := 1) dX10_freeable_36 rfl (by decide)) ?_
    refine Eq.trans (e_goto (t := 4) dX10_freeable_39 (by decide)) ?_
    rfl
  · refine Eq.trans (e_iconst (x := 0) dX10_freeable_33 (by decide)) ?_
    refine Eq.trans (e_iadd dX10_freeable_34) ?_
    refine Eq.trans (e_istore_n dX10_freeable_35 (Nat.le_of_ble_eq_true rfl)) ?_
    refine Eq.trans (e_iinc (y := 1) dX10_freeable_36 rfl (by decide)) ?_
    refine Eq.trans (e_goto (t := 4) dX10_freeable_39 (by decide)) ?_
    rfl
theorem BX10_isSeen_0 {C : gC} {G : gG} {Q : gK} {σ : gM} {a0 : Nat} {v1 : Int32} (h0 : isX10 G a0) : gw C G mX10_isSeen Q 0 [.ref a0, .int v1, .long 0] [] σ = gw C G mX10_isSeen Q 2 [.ref a0, .int v1, .int 0] [] σ := by
  refine Eq.trans (e_iconst (x := 0) dX10_isSeen_0 (by decide)) ?_
  refine Eq.trans (e_istore_n dX10_isSeen_1 (Nat.le_of_ble_eq_true rfl)) ?_
  rfl
theorem BX10_isSeen_2 {C : gC} {G : gG} {Q : gK} {σ : gM} {a0 : Nat} {v1 : Int32} {v2 : Int32} (h0 : isX10 G a0) : gw C G mX10_isSeen Q 2 [.ref a0, .int v1, .int v2] [] σ = (if v2 < 6 then (vp_in (599 + v2) 607 ∧ (if (σ (a0 + 1) (599 + v2).toNatClampNeg) < 0 then gw C G mX10_isSeen Q 2 [.ref a0, .int v1, .int (v2 + 1)] [] σ else (vp_in (599 + v2) 607 ∧ (g_inv C mX10_at [.ref a0, .int v1, .int 9] σ fun r σ' => gw C G mX10_isSeen Q 38 [.ref a0, .int v1, .int v2] (r.toList ++ [.int (σ (a0 + 1) (599 + v2).toNatClampNeg)]) σ')))) else Q (some (.int 0)) σ) := by
  refine Eq.trans (e_iload_n dX10_isSeen_2 rfl) ?_
  refine Eq.trans (e_bipush (x := 6) dX10_isSeen_3 (by decide)) ?_
  refine Eq.trans (e_ic_ge (t := 49) dX10_isSeen_5 (by decide)) (g_ite ?_ ?_)
  · refine Eq.trans (e_aload_n dX10_isSeen_8 rfl) ?_
    refine Eq.trans (e_getr (b := a0 + 1) dX10_isSeen_9 fl_10_9 (kX10 h0) (sX10_0 h0)) ?_
    refine Eq.trans (e_sipush (x := 599) dX10_isSeen_12 (by decide)) ?_
    refine Eq.trans (e_iload_n dX10_isSeen_15 rfl) ?_
    refine Eq.trans (e_iadd dX10_isSeen_16) ?_
    refine Eq.trans (e_iald dX10_isSeen_17 (aX10_0 h0) (nX10_0 h0)) (g_cj ?_)
    refine Eq.trans (e_if_lt (t := 43) dX10_isSeen_18 (by decide)) (g_ite ?_ ?_)
    · refine Eq.trans (e_iinc (y := 1) dX10_isSeen_43 rfl (by decide)) ?_
      refine Eq.trans (e_goto (t := 2) dX10_isSeen_46 (by decide)) ?_
      rfl
    · refine Eq.trans (e_aload_n dX10_isSeen_21 rfl) ?_
      refine Eq.trans (e_getr (b := a0 + 1) dX10_isSeen_22 fl_10_9 (kX10 h0) (sX10_0 h0)) ?_
      refine Eq.trans (e_sipush (x := 599) dX10_isSeen_25 (by decide)) ?_
      refine Eq.trans (e_iload_n dX10_isSeen_28 rfl) ?_
      refine Eq.trans (e_iadd dX10_isSeen_29) ?_
      refine Eq.trans (e_iald dX10_isSeen_30 (aX10_0 h0) (nX10_0 h0)) (g_cj ?_)
      refine Eq.trans (e_aload_n dX10_isSeen_31 rfl) ?_
      refine Eq.trans (e_iload_n dX10_isSeen_32 rfl) ?_
      refine Eq.trans (e_bipush (x := 9) dX10_isSeen_33 (by decide)) ?_
      exact e_invv dX10_isSeen_35 cl_10_57 (kX10 h0) (by simp) rfl rfl (by simp)
  · refine Eq.trans (e_iconst (x := 0) dX10_isSeen_49 (by decide)) ?_
    exact Eq.trans (e_iretz dX10_isSeen_50 rfl) (g_and (by decide))
theorem BX10_isSeen_38 {C : gC} {G : gG} {Q : gK} {σ : gM} {a0 : Nat} {v1 : Int32} {v2 : Int32} {s0 : Int32} {s1 : Int32} (h0 : isX10 G a0) : gw C G mX10_isSeen Q 38 [.ref a0, .int v1, .int v2] [.int s1, .int s0] σ = (if s1 < s0 then gw C G mX10_isSeen Q 2 [.ref a0, .int v1, .int (v2 + 1)] [] σ else Q (some (.int 1)) σ) := by
  refine Eq.trans (e_ic_gt (t := 43) dX10_isSeen_38 (by decide)) (g_ite ?_ ?_)
  · refine Eq.trans (e_iinc (y := 1) dX10_isSeen_43 rfl (by decide)) ?_
    refine Eq.trans (e_goto (t := 2) dX10_isSeen_46 (by decide)) ?_
    rfl
  · refine Eq.trans (e_iconst (x := 1) dX10_isSeen_41 (by decide)) ?_
    exact Eq.trans (e_iretz dX10_isSeen_42 rfl) (g_and (by decide))
theorem BX10_would_0 {C : gC} {G : gG} {Q : gK} {σ : gM} {a0 : Nat} {v1 : Int32} {v2 : Int32} {v3 : Int32} (h0 : isX10 G a0) : gw C G mX10_would Q 0 [.ref a0, .int v1, .int v2, .int v3] [] σ = (g_inv C mX10_isRegion [.ref a0, .int v1] σ fun r σ' => gw C G mX10_would Q 5 [.ref a0, .int v1, .int v2, .int v3] (r.toList ++ []) σ') := by
  refine Eq.trans (e_aload_n dX10_would_0 rfl) ?_
  refine Eq.trans (e_iload_n dX10_would_1 rfl) ?_
  exact e_invv dX10_would_2 cl_10_73 (kX10 h0) (by simp) rfl rfl (by simp)
theorem BX10_would_5 {C : gC} {G : gG} {Q : gK} {σ : gM} {a0 : Nat} {v1 : Int32} {v2 : Int32} {v3 : Int32} {s0 : Int32} (h0 : isX10 G a0) : gw C G mX10_would Q 5 [.ref a0, .int v1, .int v2, .int v3] [.int s0] σ = (if s0 = 0 then Q (some (.int (-1))) σ else (g_inv C mX10_in [.int v3, .int 0, .int 3] σ fun r σ' => gw C G mX10_would Q 14 [.ref a0, .int v1, .int v2, .int v3] (r.toList ++ []) σ')) := by
  refine Eq.trans (e_if_eq (t := 31) dX10_would_5 (by decide)) (g_ite ?_ ?_)
  · refine Eq.trans (e_iconst (x := (-1)) dX10_would_31 (by decide)) ?_
    exact e_ireti dX10_would_32 rfl
  · refine Eq.trans (e_iload_n dX10_would_8 rfl) ?_
    refine Eq.trans (e_iconst (x := 0) dX10_would_9 (by decide)) ?_
    refine Eq.trans (e_iconst (x := 3) dX10_would_10 (by decide)) ?_
    exact e_invs dX10_would_11 cl_10_65 (by decide) (by simp) rfl rfl (by simp)
theorem BX10_would_14 {C : gC} {G : gG} {Q : gK} {σ : gM} {a0 : Nat} {v1 : Int32} {v2 : Int32} {v3 : Int32} {s0 : Int32} (h0 : isX10 G a0) : gw C G mX10_would Q 14 [.ref a0, .int v1, .int v2, .int v3] [.int s0] σ = (if s0 = 0 then Q (some (.int (-1))) σ else (if v3 = 0 then (g_inv C mX10_in [.int v2, .int 1, .int 40] σ fun r σ' => gw C G mX10_would Q 28 [.ref a0, .int v1, .int v2, .int v3] (r.toList ++ []) σ') else gw C G mX10_would Q 33 [.ref a0, .int v1, .int v2, .int v3] [] σ)) := by
  refine Eq.trans (e_if_eq (t := 31) dX10_would_14 (by decide)) (g_ite ?_ ?_)
  · refine Eq.trans (e_iconst (x := (-1)) dX10_would_31 (by decide)) ?_
    exact e_ireti dX10_would_32 rfl
  · refine Eq.trans (e_iload_n dX10_would_17 rfl) ?_
    refine Eq.trans (e_if_ne (t := 33) dX10_would_18 (by decide)) (g_ite ?_ ?_)
    · refine Eq.trans (e_iload_n dX10_would_21 rfl) ?_
      refine Eq.trans (e_iconst (x := 1) dX10_would_22 (by decide)) ?_
      refine Eq.trans (e_bipush (x := 40) dX10_would_23 (by decide)) ?_
      exact e_invs dX10_would_25 cl_10_65 (by decide) (by simp) rfl rfl (by simp)
    · rfl
theorem BX10_would_28 {C : gC} {G : gG} {Q : gK} {σ : gM} {a0 : Nat} {v1 : Int32} {v2 : Int32} {v3 : Int32} {s0 : Int32} (h0 : isX10 G a0) : gw C G mX10_would Q 28 [.ref a0, .int v1, .int v2, .int v3] [.int s0] σ = (if s0 = 0 then Q (some (.int (-1))) σ else gw C G mX10_would Q 33 [.ref a0, .int v1, .int v2, .int v3] [] σ) := by
  refine Eq.trans (e_if_ne (t := 33) dX10_would_28 (by decide)) (g_ite ?_ ?_)
  · refine Eq.trans (e_iconst (x := (-1)) dX10_would_31 (by decide)) ?_
    exact e_ireti dX10_would_32 rfl
  · rfl
theorem BX10_would_33 {C : gC} {G : gG} {Q : gK} {σ : gM} {a0 : Nat} {v1 : Int32} {v2 : Int32} {v3 : Int32} (h0 : isX10 G a0) : gw C G mX10_would Q 33 [.ref a0, .int v1, .int v2, .int v3] [] σ = (g_inv C mX10_laid [.ref a0] σ fun r σ' => gw C G mX10_would Q 37 [.ref a0, .int v1, .int v2, .int v3] (r.toList ++ []) σ') := by
  refine Eq.trans (e_aload_n dX10_would_33 rfl) ?_
  exact e_invv dX10_would_34 cl_10_79 (kX10 h0) (by simp) rfl rfl (by simp)
theorem BX10_would_37 {C : gC} {G : gG} {Q : gK} {σ : gM} {a0 : Nat} {v1 : Int32} {v2 : Int32} {v3 : Int32} (h0 : isX10 G a0) : gw C G mX10_would Q 37 [.ref a0, .int v1, .int v2, .int v3] [] σ = (if v3 = 0 then (g_inv C mX10_placed [.ref a0, .int v1, .int v2] σ fun r σ' => gw C G mX10_would Q 47 [.ref a0, .int v1, .int v2, .int v3] (r.toList ++ []) σ') else (g_inv C mX10_freeIn [.ref a0, .int v1, .int v3] σ fun r σ' => gw C G mX10_would Q 56 [.ref a0, .int v1, .int v2, .int v3] (r.toList ++ []) σ')) := by
  refine Eq.trans (e_iload_n dX10_would_37 rfl) ?_
  refine Eq.trans (e_if_ne (t := 50) dX10_would_38 (by decide)) (g_ite ?_ ?_)
  · refine Eq.trans (e_aload_n dX10_would_41 rfl) ?_
    refine Eq.trans (e_iload_n dX10_would_42 rfl) ?_
    refine Eq.trans (e_iload_n dX10_would_43 rfl) ?_
    exact e_invv dX10_would_44 cl_10_82 (kX10 h0) (by simp) rfl rfl (by simp)
  · refine Eq.trans (e_aload_n dX10_would_50 rfl) ?_
    refine Eq.trans (e_iload_n dX10_would_51 rfl) ?_
    refine Eq.trans (e_iload_n dX10_would_52 rfl) ?_
    exact e_invv dX10_would_53 cl_10_136 (kX10 h0) (by simp) rfl rfl (by simp)
theorem BX10_would_47 {C : gC} {G : gG} {Q : gK} {σ : gM} {a0 : Nat} {v1 : Int32} {v2 : Int32} {v3 : Int32} {s0 : Int32} (h0 : isX10 G a0) : gw C G mX10_would Q 47 [.ref a0, .int v1, .int v2, .int v3] [.int s0] σ = gw C G mX10_would Q 56 [.ref a0, .int v1, .int v2, .int v3] [.int s0] σ := by
  refine Eq.trans (e_goto (t := 56) dX10_would_47 (by decide)) ?_
  rfl
theorem BX10_would_56 {C : gC} {G : gG} {Q : gK} {σ : gM} {a0 : Nat} {v1 : Int32} {v2 : Int32} {v3 : Int32} {s0 : Int32} (h0 : isX10 G a0) : gw C G mX10_would Q 56 [.ref a0, .int v1, .int v2, .int v3] [.int s0] σ = Q (some (.int s0)) σ := by
  exact e_ireti dX10_would_56 rfl
theorem BX10_freeIn_0 {C : gC} {G : gG} {Q : gK} {σ : gM} {a0 : Nat} {v1 : Int32} {v2 : Int32} (h0 : isX10 G a0) : gw C G mX10_freeIn Q 0 [.ref a0, .int v1, .int v2, .long 0, .long 0, .long 0, .long 0, .long 0, .long 0] [] σ = (vp_in (571 + v1) 607 ∧ gw C G mX10_freeIn Q 23 [.ref a0, .int v1, .int v2, .int 0, .int 0, .int 0, .int 0, .int (σ (a0 + 1) (571 + v1).toNatClampNeg), .long 0] [] σ) := by
  refine Eq.trans (e_iconst (x := 0) dX10_freeIn_0 (by decide)) ?_
  refine Eq.trans (e_istore_n dX10_freeIn_1 (Nat.le_of_ble_eq_true rfl)) ?_
  refine Eq.trans (e_iconst (x := 0) dX10_freeIn_2 (by decide)) ?_
  refine Eq.trans (e_istore dX10_freeIn_3 (Nat.le_of_ble_eq_true rfl)) ?_
  refine Eq.trans (e_iconst (x := 0) dX10_freeIn_5 (by decide)) ?_
  refine Eq.trans (e_istore dX10_freeIn_6 (Nat.le_of_ble_eq_true rfl)) ?_
  refine Eq.trans (e_iconst (x := 0) dX10_freeIn_8 (by decide)) ?_
  refine Eq.trans (e_istore dX10_freeIn_9 (Nat.le_of_ble_eq_true rfl)) ?_
  refine Eq.trans (e_aload_n dX10_freeIn_11 rfl) ?_
  refine Eq.trans (e_getr (b := a0 + 1) dX10_freeIn_12 fl_10_9 (kX10 h0) (sX10_0 h0)) ?_
  refine Eq.trans (e_sipush (x := 571) dX10_freeIn_15 (by decide)) ?_
  refine Eq.trans (e_iload_n dX10_freeIn_18 rfl) ?_
  refine Eq.trans (e_iadd dX10_freeIn_19) ?_
  refine Eq.trans (e_iald dX10_freeIn_20 (aX10_0 h0) (nX10_0 h0)) (g_cj ?_)
  refine Eq.trans (e_istore dX10_freeIn_21 (Nat.le_of_ble_eq_true rfl)) ?_
  rfl
theorem BX10_freeIn_23 {C : gC} {G : gG} {Q : gK} {σ : gM} {a0 : Nat} {v1 : Int32} {v2 : Int32} {v3 : Int32} {v4 : Int32} {v5 : Int32} {v6 : Int32} {v7 : Int32} {wv8 : Value} (h0 : isX10 G a0) : gw C G mX10_freeIn Q 23 [.ref a0, .int v1, .int v2, .int v3, .int v4, .int v5, .int v6, .int v7, wv8] [] σ = (g_inv C mX10_end [.ref a0, .int v1] σ fun r σ' => gw C G mX10_freeIn Q 30 [.ref a0, .int v1, .int v2, .int v3, .int v4, .int v5, .int v6, .int v7, wv8] (r.toList ++ [.int v7]) σ') := by
  refine Eq.trans (e_iload dX10_freeIn_23 rfl) ?_
  refine Eq.trans (e_aload_n dX10_freeIn_25 rfl) ?_
  refine Eq.trans (e_iload_n dX10_freeIn_26 rfl) ?_
  exact e_invv dX10_freeIn_27 cl_10_69 (kX10 h0) (by simp) rfl rfl (by simp)
theorem BX10_freeIn_30 {C : gC} {G : gG} {Q : gK} {σ : gM} {a0 : Nat} {v1 : Int32} {v2 : Int32} {v3 : Int32} {v4 : Int32} {v5 : Int32} {v6 : Int32} {v7 : Int32} {wv8 : Value} {s0 : Int32} {s1 : Int32} (h0 : isX10 G a0) : gw C G mX10_freeIn Q 30 [.ref a0, .int v1, .int v2, .int v3, .int v4, .int v5, .int v6, .int v7, wv8] [.int s1, .int s0] σ = (if s0 < s1 then (vp_in v7 240 ∧ (if (σ (a0 + 5) v7.toNatClampNeg) = 100 then gw C G mX10_freeIn Q 50 [.ref a0, .int v1, .int v2, .int v3, .int v4, .int v5, .int v6, .int v7, wv8] [.int 1] σ else gw C G mX10_freeIn Q 50 [.ref a0, .int v1, .int v2, .int v3, .int v4, .int v5, .int v6, .int v7, wv8] [.int 0] σ)) else (if v2 = 1 then Q (some (.int v3)) σ else (if v2 = 2 then Q (some (.int v5)) σ else Q (some (.int v6)) σ))) := by
  refine Eq.trans (e_ic_ge (t := 122) dX10_freeIn_30 (by decide)) (g_ite ?_ ?_)
  · refine Eq.trans (e_aload_n dX10_freeIn_33 rfl) ?_
    refine Eq.trans (e_getr (b := a0 + 5) dX10_freeIn_34 fl_10_22 (kX10 h0) (sX10_5 h0)) ?_
    refine Eq.trans (e_iload dX10_freeIn_37 rfl) ?_
    refine Eq.trans (e_iald dX10_freeIn_39 (aX10_5 h0) (nX10_5 h0)) (g_cj ?_)
    refine Eq.trans (e_bipush (x := 100) dX10_freeIn_40 (by decide)) ?_
    refine Eq.trans (e_ic_ne (t := 49) dX10_freeIn_42 (by decide)) (g_ite ?_ ?_)
    · refine Eq.trans (e_iconst (x := 1) dX10_freeIn_45 (by decide)) ?_
      refine Eq.trans (e_goto (t := 50) dX10_freeIn_46 (by decide)) ?_
      rfl
    · refine Eq.trans (e_iconst (x := 0) dX10_freeIn_49 (by decide)) ?_
      rfl
  · refine Eq.trans (e_iload_n dX10_freeIn_122 rfl) ?_
    refine Eq.trans (e_iconst (x := 1) dX10_freeIn_123 (by decide)) ?_
    refine Eq.trans (e_ic_ne (t := 131) dX10_freeIn_124 (by decide)) (g_ite ?_ ?_)
    · refine Eq.trans (e_iload_n dX10_freeIn_127 rfl) ?_
      refine Eq.trans (e_goto (t := 143) dX10_freeIn_128 (by decide)) ?_
      exact e_ireti dX10_freeIn_143 rfl
    · refine Eq.trans (e_iload_n dX10_freeIn_131 rfl) ?_
      refine Eq.trans (e_iconst (x := 2) dX10_freeIn_132 (by decide)) ?_
      refine Eq.trans (e_ic_ne (t := 141) dX10_freeIn_133 (by decide)) (g_ite ?_ ?_)
      · refine Eq.trans (e_iload dX10_freeIn_136 rfl) ?_
        refine Eq.trans (e_goto (t := 143) dX10_freeIn_138 (by decide)) ?_
        exact e_ireti dX10_freeIn_143 rfl
      · refine Eq.trans (e_iload dX10_freeIn_141 rfl) ?_
        exact e_ireti dX10_freeIn_143 rfl
theorem BX10_freeIn_50 {C : gC} {G : gG} {Q : gK} {σ : gM} {a0 : Nat} {v1 : Int32} {v2 : Int32} {v3 : Int32} {v4 : Int32} {v5 : Int32} {v6 : Int32} {v7 : Int32} {wv8 : Value} {s0 : Int32} (h0 : isX10 G a0) : gw C G mX10_freeIn Q 50 [.ref a0, .int v1, .int v2, .int v3, .int v4, .int v5, .int v6, .int v7, wv8] [.int s0] σ = (if s0 = 0 then gw C G mX10_freeIn Q 63 [.ref a0, .int v1, .int v2, .int v3, .int v4, .int v5, .int v6, .int v7, .int s0] [.int 0, .int v3] σ else gw C G mX10_freeIn Q 63 [.ref a0, .int v1, .int v2, .int v3, .int v4, .int v5, .int v6, .int v7, .int s0] [.int 1, .int v3] σ) := by
  refine Eq.trans (e_istore dX10_freeIn_50 (Nat.le_of_ble_eq_true rfl)) ?_
  refine Eq.trans (e_iload_n dX10_freeIn_52 rfl) ?_
  refine Eq.trans (e_iload dX10_freeIn_53 rfl) ?_
  refine Eq.trans (e_if_eq (t := 62) dX10_freeIn_55 (by decide)) (g_ite ?_ ?_)
  · refine Eq.trans (e_iconst (x := 0) dX10_freeIn_62 (by decide)) ?_
    rfl
  · refine Eq.trans (e_iconst (x := 1) dX10_freeIn_58 (by decide)) ?_
    refine Eq.trans (e_goto (t := 63) dX10_freeIn_59 (by decide)) ?_
    rfl
theorem BX10_freeIn_63 {C : gC} {G : gG} {Q : gK} {σ : gM} {a0 : Nat} {v1 : Int32} {v2 : Int32} {v3 : Int32} {v4 : Int32} {v5 : Int32} {v6 : Int32} {v7 : Int32} {v8 : Int32} {s0 : Int32} {s1 : Int32} (h0 : isX10 G a0) : gw C G mX10_freeIn Q 63 [.ref a0, .int v1, .int v2, .int v3, .int v4, .int v5, .int v6, .int v7, .int v8] [.int s1, .int s0] σ = (if v8 = 0 then gw C G mX10_freeIn Q 81 [.ref a0, .int v1, .int v2, .int (s0 + s1), .int v4, .int v5, .int v6, .int v7, .int v8] [.int v6] σ else (if v4 = 0 then gw C G mX10_freeIn Q 82 [.ref a0, .int v1, .int v2, .int (s0 + s1), .int v4, .int v5, .int v6, .int v7, .int v8] [.int 1, .int v6] σ else gw C G mX10_freeIn Q 81 [.ref a0, .int v1, .int v2, .int (s0 + s1), .int v4, .int v5, .int v6, .int v7, .int v8] [.int v6] σ)) := by
  refine Eq.trans (e_iadd dX10_freeIn_63) ?_
  refine Eq.trans (e_istore_n dX10_freeIn_64 (Nat.le_of_ble_eq_true rfl)) ?_
  refine Eq.trans (e_iload dX10_freeIn_65 rfl) ?_
  refine Eq.trans (e_iload dX10_freeIn_67 rfl) ?_
  refine Eq.trans (e_if_eq (t := 81) dX10_freeIn_69 (by decide)) (g_ite ?_ ?_)
  · rfl
  · refine Eq.trans (e_iload dX10_freeIn_72 rfl) ?_
    refine Eq.trans (e_if_ne (t := 81) dX10_freeIn_74 (by decide)) (g_ite ?_ ?_)
    · refine Eq.trans (e_iconst (x := 1) dX10_freeIn_77 (by decide)) ?_
      refine Eq.trans (e_goto (t := 82) dX10_freeIn_78 (by decide)) ?_
      rfl
    · rfl
theorem BX10_freeIn_81 {C : gC} {G : gG} {Q : gK} {σ : gM} {a0 : Nat} {v1 : Int32} {v2 : Int32} {v3 : Int32} {v4 : Int32} {v5 : Int32} {v6 : Int32} {v7 : Int32} {v8 : Int32} {s0 : Int32} (h0 : isX10 G a0) : gw C G mX10_freeIn Q 81 [.ref a0, .int v1, .int v2, .int v3, .int v4, .int v5, .int v6, .int v7, .int v8] [.int s0] σ = gw C G mX10_freeIn Q 82 [.ref a0, .int v1, .int v2, .int v3, .int v4, .int v5, .int v6, .int v7, .int v8] [.int 0, .int s0] σ := by
  refine Eq.trans (e_iconst (x := 0) dX10_freeIn_81 (by decide)) ?_
  rfl
theorem BX10_freeIn_82 {C : gC} {G : gG} {Q : gK} {σ : gM} {a0 : Nat} {v1 : Int32} {v2 : Int32} {v3 : Int32} {v4 : Int32} {v5 : Int32} {v6 : Int32} {v7 : Int32} {v8 : Int32} {s0 : Int32} {s1 : Int32} (h0 : isX10 G a0) : gw C G mX10_freeIn Q 82 [.ref a0, .int v1, .int v2, .int v3, .int v4, .int v5, .int v6, .int v7, .int v8] [.int s1, .int s0] σ = (if v8 = 0 then gw C G mX10_freeIn Q 98 [.ref a0, .int v1, .int v2, .int v3, .int v4, .int v5, .int (s0 + s1), .int v7, .int v8] [.int 0] σ else gw C G mX10_freeIn Q 98 [.ref a0, .int v1, .int v2, .int v3, .int v4, .int v5, .int (s0 + s1), .int v7, .int v8] [.int (v4 + 1)] σ) := by
  refine Eq.trans (e_iadd dX10_freeIn_82) ?_
  refine Eq.trans (e_istore dX10_freeIn_83 (Nat.le_of_ble_eq_true rfl)) ?_
  refine Eq.trans (e_iload dX10_freeIn_85 rfl) ?_
  refine Eq.trans (e_if_eq (t := 97) dX10_freeIn_87 (by decide)) (g_ite ?_ ?_)
  · refine Eq.trans (e_iconst (x := 0) dX10_freeIn_97 (by decide)) ?_
    rfl
  · refine Eq.trans (e_iload dX10_freeIn_90 rfl) ?_
    refine Eq.trans (e_iconst (x := 1) dX10_freeIn_92 (by decide)) ?_
    refine Eq.trans (e_iadd dX10_freeIn_93) ?_
    refine Eq.trans (e_goto (t := 98) dX10_freeIn_94 (by decide)) ?_
    rfl
theorem BX10_freeIn_98 {C : gC} {G : gG} {Q : gK} {σ : gM} {a0 : Nat} {v1 : Int32} {v2 : Int32} {v3 : Int32} {v4 : Int32} {v5 : Int32} {v6 : Int32} {v7 : Int32} {v8 : Int32} {s0 : Int32} (h0 : isX10 G a0) : gw C G mX10_freeIn Q 98 [.ref a0, .int v1, .int v2, .int v3, .int v4, .int v5, .int v6, .int v7, .int v8] [.int s0] σ = (if v5 < s0 then gw C G mX10_freeIn Q 23 [.ref a0, .int v1, .int v2, .int v3, .int s0, .int s0, .int v6, .int (v7 + 1), .int v8] [] σ else gw C G mX10_freeIn Q 23 [.ref a0, .int v1, .int v2, .int v3, .int s0, .int v5, .int v6, .int (v7 + 1), .int v8] [] σ) := by
  refine Eq.trans (e_istore dX10_freeIn_98 (Nat.le_of_ble_eq_true rfl)) ?_
  refine Eq.trans (e_iload dX10_freeIn_100 rfl) ?_
  refine Eq.trans (e_iload dX10_freeIn_102 rfl) ?_
  refine Eq.trans (e_ic_le (t := 112) dX10_freeIn_104 (by decide)) (g_ite ?_ ?_)
  · refine Eq.trans (e_iload dX10_freeIn_107 rfl) ?_
    refine Eq.trans (e_goto (t := 114) dX10_freeIn_109 (by decide)) ?_
    refine Eq.trans (e_istore dX10_freeIn_114 (Nat.le_of_ble_eq_true rfl)) ?_
    refine Eq.trans (e_iinc (y := 1) dX10_freeIn_116 rfl (by decide)) ?_
    refine Eq.trans (e_goto (t := 23) dX10_freeIn_119 (by decide)) ?_
    rfl
  · refine Eq.trans (e_iload dX10_freeIn_112 rfl) ?_
    refine Eq.trans (e_istore dX10_freeIn_114 (Nat.le_of_ble_eq_true rfl)) ?_
    refine Eq.trans (e_iinc (y := 1) dX10_freeIn_116 rfl (by decide)) ?_
    refine Eq.trans (e_goto (t := 23) dX10_freeIn_119 (by decide)) ?_
    rfl
theorem BX10_least_0 {C : gC} {G : gG} {Q : gK} {σ : gM} {a0 : Nat} {v1 : Int32} {v2 : Int32} (h0 : isX10 G a0) : gw C G mX10_least Q 0 [.ref a0, .int v1, .int v2, .long 0, .long 0] [] σ = (g_inv C mX10_isRegion [.ref a0, .int v1] σ fun r σ' => gw C G mX10_least Q 5 [.ref a0, .int v1, .int v2, .long 0, .long 0] (r.toList ++ []) σ') := by
  refine Eq.trans (e_aload_n dX10_least_0 rfl) ?_
  refine Eq.trans (e_iload_n dX10_least_1 rfl) ?_
  exact e_invv dX10_least_2 cl_10_73 (kX10 h0) (by simp) rfl rfl (by simp)
theorem BX10_least_5 {C : gC} {G : gG} {Q : gK} {σ : gM} {a0 : Nat} {v1 : Int32} {v2 : Int32} {wv3 : Value} {wv4 : Value} {s0 : Int32} (h0 : isX10 G a0) : gw C G mX10_least Q 5 [.ref a0, .int v1, .int v2, wv3, wv4] [.int s0] σ = (if s0 = 0 then Q (some (.int (-1))) σ else (g_inv C mX10_in [.int v2, .int 1, .int 40] σ fun r σ' => gw C G mX10_least Q 15 [.ref a0, .int v1, .int v2, wv3, wv4] (r.toList ++ []) σ')) := by
  refine Eq.trans (e_if_eq (t := 18) dX10_least_5 (by decide)) (g_ite ?_ ?_)
  · refine Eq.trans (e_iconst (x := (-1)) dX10_least_18 (by decide)) ?_
    exact e_ireti dX10_least_19 rfl
  · refine Eq.trans (e_iload_n dX10_least_8 rfl) ?_
    refine Eq.trans (e_iconst (x := 1) dX10_least_9 (by decide)) ?_
    refine Eq.trans (e_bipush (x := 40) dX10_least_10 (by decide)) ?_
    exact e_invs dX10_least_12 cl_10_65 (by decide) (by simp) rfl rfl (by simp)
theorem BX10_least_15 {C : gC} {G : gG} {Q : gK} {σ : gM} {a0 : Nat} {v1 : Int32} {v2 : Int32} {wv3 : Value} {wv4 : Value} {s0 : Int32} (h0 : isX10 G a0) : gw C G mX10_least Q 15 [.ref a0, .int v1, .int v2, wv3, wv4] [.int s0] σ = (if s0 = 0 then Q (some (.int (-1))) σ else (g_inv C mX10_take [.ref (a0 + 1), .ref (a0 + 2)] σ fun r σ' => gw C G mX10_least Q 31 [.ref a0, .int v1, .int v2, wv3, wv4] (r.toList ++ []) σ')) := by
  refine Eq.trans (e_if_ne (t := 20) dX10_least_15 (by decide)) (g_ite ?_ ?_)
  · refine Eq.trans (e_iconst (x := (-1)) dX10_least_18 (by decide)) ?_
    exact e_ireti dX10_least_19 rfl
  · refine Eq.trans (e_aload_n dX10_least_20 rfl) ?_
    refine Eq.trans (e_getr (b := a0 + 1) dX10_least_21 fl_10_9 (kX10 h0) (sX10_0 h0)) ?_
    refine Eq.trans (e_aload_n dX10_least_24 rfl) ?_
    refine Eq.trans (e_getr (b := a0 + 2) dX10_least_25 fl_10_13 (kX10 h0) (sX10_1 h0)) ?_
    exact e_invs dX10_least_28 cl_10_139 (by decide) (by simp) rfl rfl (by simp)
theorem BX10_least_31 {C : gC} {G : gG} {Q : gK} {σ : gM} {a0 : Nat} {v1 : Int32} {v2 : Int32} {wv3 : Value} {wv4 : Value} (h0 : isX10 G a0) : gw C G mX10_least Q 31 [.ref a0, .int v1, .int v2, wv3, wv4] [] σ = gw C G mX10_least Q 37 [.ref a0, .int v1, .int v2, .int (-2), .int 0] [] σ := by
  refine Eq.trans (e_bipush (x := (-2)) dX10_least_31 (by decide)) ?_
  refine Eq.trans (e_istore_n dX10_least_33 (Nat.le_of_ble_eq_true rfl)) ?_
  refine Eq.trans (e_iconst (x := 0) dX10_least_34 (by decide)) ?_
  refine Eq.trans (e_istore dX10_least_35 (Nat.le_of_ble_eq_true rfl)) ?_
  rfl
theorem BX10_least_37 {C : gC} {G : gG} {Q : gK} {σ : gM} {a0 : Nat} {v1 : Int32} {v2 : Int32} {v3 : Int32} {v4 : Int32} (h0 : isX10 G a0) : gw C G mX10_least Q 37 [.ref a0, .int v1, .int v2, .int v3, .int v4] [] σ = (if 240 < v4 then Q (some (.int v3)) σ else (if v3 < 0 then (g_inv C mX10_moved [.ref a0, .int v1, .int v4] σ fun r σ' => gw C G mX10_least Q 56 [.ref a0, .int v1, .int v2, .int v3, .int v4] (r.toList ++ []) σ') else Q (some (.int v3)) σ)) := by
  refine Eq.trans (e_iload dX10_least_37 rfl) ?_
  refine Eq.trans (e_sipush (x := 240) dX10_least_39 (by decide)) ?_
  refine Eq.trans (e_ic_gt (t := 95) dX10_least_42 (by decide)) (g_ite ?_ ?_)
  · refine Eq.trans (e_iload_n dX10_least_95 rfl) ?_
    exact e_ireti dX10_least_96 rfl
  · refine Eq.trans (e_iload_n dX10_least_45 rfl) ?_
    refine Eq.trans (e_if_ge (t := 95) dX10_least_46 (by decide)) (g_ite ?_ ?_)
    · refine Eq.trans (e_aload_n dX10_least_49 rfl) ?_
      refine Eq.trans (e_iload_n dX10_least_50 rfl) ?_
      refine Eq.trans (e_iload dX10_least_51 rfl) ?_
      exact e_invv dX10_least_53 cl_10_111 (kX10 h0) (by simp) rfl rfl (by simp)
    · refine Eq.trans (e_iload_n dX10_least_95 rfl) ?_
      exact e_ireti dX10_least_96 rfl
theorem BX10_least_56 {C : gC} {G : gG} {Q : gK} {σ : gM} {a0 : Nat} {v1 : Int32} {v2 : Int32} {v3 : Int32} {v4 : Int32} {s0 : Int32} (h0 : isX10 G a0) : gw C G mX10_least Q 56 [.ref a0, .int v1, .int v2, .int v3, .int v4] [.int s0] σ = (g_inv C mX10_laid [.ref a0] σ fun r σ' => gw C G mX10_least Q 61 [.ref a0, .int v1, .int v2, .int v3, .int v4] (r.toList ++ []) σ') := by
  refine Eq.trans (e_pop dX10_least_56) ?_
  refine Eq.trans (e_aload_n dX10_least_57 rfl) ?_
  exact e_invv dX10_least_58 cl_10_79 (kX10 h0) (by simp) rfl rfl (by simp)
theorem BX10_least_61 {C : gC} {G : gG} {Q : gK} {σ : gM} {a0 : Nat} {v1 : Int32} {v2 : Int32} {v3 : Int32} {v4 : Int32} (h0 : isX10 G a0) : gw C G mX10_least Q 61 [.ref a0, .int v1, .int v2, .int v3, .int v4] [] σ = (g_inv C mX10_placed [.ref a0, .int v1, .int v2] σ fun r σ' => gw C G mX10_least Q 67 [.ref a0, .int v1, .int v2, .int v3, .int v4] (r.toList ++ []) σ') := by
  refine Eq.trans (e_aload_n dX10_least_61 rfl) ?_
  refine Eq.trans (e_iload_n dX10_least_62 rfl) ?_
  refine Eq.trans (e_iload_n dX10_least_63 rfl) ?_
  exact e_invv dX10_least_64 cl_10_82 (kX10 h0) (by simp) rfl rfl (by simp)
theorem BX10_least_67 {C : gC} {G : gG} {Q : gK} {σ : gM} {a0 : Nat} {v1 : Int32} {v2 : Int32} {v3 : Int32} {v4 : Int32} {s0 : Int32} (h0 : isX10 G a0) : gw C G mX10_least Q 67 [.ref a0, .int v1, .int v2, .int v3, .int v4] [.int s0] σ = (if s0 < 0 then gw C G mX10_least Q 77 [.ref a0, .int v1, .int v2, .int v3, .int v4] [.int (-2)] σ else gw C G mX10_least Q 77 [.ref a0, .int v1, .int v2, .int v3, .int v4] [.int v4] σ) := by
  refine Eq.trans (e_if_lt (t := 75) dX10_least_67 (by decide)) (g_ite ?_ ?_)
  · refine Eq.trans (e_bipush (x := (-2)) dX10_least_75 (by decide)) ?_
    rfl
  · refine Eq.trans (e_iload dX10_least_70 rfl) ?_
    refine Eq.trans (e_goto (t := 77) dX10_least_72 (by decide)) ?_
    rfl
theorem BX10_least_77 {C : gC} {G : gG} {Q : gK} {σ : gM} {a0 : Nat} {v1 : Int32} {v2 : Int32} {v3 : Int32} {v4 : Int32} {s0 : Int32} (h0 : isX10 G a0) : gw C G mX10_least Q 77 [.ref a0, .int v1, .int v2, .int v3, .int v4] [.int s0] σ = (g_inv C mX10_take [.ref (a0 + 2), .ref (a0 + 1)] σ fun r σ' => gw C G mX10_least Q 89 [.ref a0, .int v1, .int v2, .int s0, .int v4] (r.toList ++ []) σ') := by
  refine Eq.trans (e_istore_n dX10_least_77 (Nat.le_of_ble_eq_true rfl)) ?_
  refine Eq.trans (e_aload_n dX10_least_78 rfl) ?_
  refine Eq.trans (e_getr (b := a0 + 2) dX10_least_79 fl_10_13 (kX10 h0) (sX10_1 h0)) ?_
  refine Eq.trans (e_aload_n dX10_least_82 rfl) ?_
  refine Eq.trans (e_getr (b := a0 + 1) dX10_least_83 fl_10_9 (kX10 h0) (sX10_0 h0)) ?_
  exact e_invs dX10_least_86 cl_10_139 (by decide) (by simp) rfl rfl (by simp)
theorem BX10_least_89 {C : gC} {G : gG} {Q : gK} {σ : gM} {a0 : Nat} {v1 : Int32} {v2 : Int32} {v3 : Int32} {v4 : Int32} (h0 : isX10 G a0) : gw C G mX10_least Q 89 [.ref a0, .int v1, .int v2, .int v3, .int v4] [] σ = gw C G mX10_least Q 37 [.ref a0, .int v1, .int v2, .int v3, .int (v4 + 1)] [] σ := by
  refine Eq.trans (e_iinc (y := 1) dX10_least_89 rfl (by decide)) ?_
  refine Eq.trans (e_goto (t := 37) dX10_least_92 (by decide)) ?_
  rfl
theorem BX10_take_0 {C : gC} {G : gG} {Q : gK} {σ : gM} {a0 n0 : Nat} {a1 n1 : Nat} (h0 : (G a0).1 = 11) (m0 : (G a0).2.1 = n0) (h1 : (G a1).1 = 11) (m1 : (G a1).2.1 = n1) : gw C G mX10_take Q 0 [.ref a0, .ref a1, .long 0] [] σ = gw C G mX10_take Q 2 [.ref a0, .ref a1, .int 0] [] σ := by
  refine Eq.trans (e_iconst (x := 0) dX10_take_0 (by decide)) ?_
  refine Eq.trans (e_istore_n dX10_take_1 (Nat.le_of_ble_eq_true rfl)) ?_
  rfl
theorem BX10_take_2 {C : gC} {G : gG} {Q : gK} {σ : gM} {a0 n0 : Nat} {a1 n1 : Nat} {v2 : Int32} (h0 : (G a0).1 = 11) (m0 : (G a0).2.1 = n0) (h1 : (G a1).1 = 11) (m1 : (G a1).2.1 = n1) : gw C G mX10_take Q 2 [.ref a0, .ref a1, .int v2] [] σ = (if v2 < 607 then (vp_in v2 n0 ∧ (vp_in v2 n1 ∧ gw C G mX10_take Q 2 [.ref a0, .ref a1, .int (v2 + 1)] [] (g_up σ a1 v2.toNatClampNeg (σ a0 v2.toNatClampNeg)))) else Q none σ) := by
  refine Eq.trans (e_iload_n dX10_take_2 rfl) ?_
  refine Eq.trans (e_sipush (x := 607) dX10_take_3 (by decide)) ?_
  refine Eq.trans (e_ic_ge (t := 21) dX10_take_6 (by decide)) (g_ite ?_ ?_)
  · refine Eq.trans (e_aload_n dX10_take_9 rfl) ?_
    refine Eq.trans (e_iload_n dX10_take_10 rfl) ?_
    refine Eq.trans (e_aload_n dX10_take_11 rfl) ?_
    refine Eq.trans (e_iload_n dX10_take_12 rfl) ?_
    refine Eq.trans (e_iald dX10_take_13 h0 m0) (g_cj ?_)
    refine Eq.trans (e_iast dX10_take_14 h1 m1) (g_cj ?_)
    refine Eq.trans (e_iinc (y := 1) dX10_take_15 rfl (by decide)) ?_
    refine Eq.trans (e_goto (t := 2) dX10_take_18 (by decide)) ?_
    rfl
  · exact e_ret dX10_take_21 rfl
theorem BX10_leaked_0 {C : gC} {G : gG} {Q : gK} {σ : gM} {a0 : Nat} {v1 : Int32} (h0 : isX10 G a0) : gw C G mX10_leaked Q 0 [.ref a0, .int v1, .long 0, .long 0, .long 0] [] σ = (if v1 < (-1) then Q (some (.int (-1))) σ else (g_inv C mX10_leakedOnes [.ref a0] σ fun r σ' => gw C G mX10_leaked Q 11 [.ref a0, .int v1, .long 0, .long 0, .long 0] (r.toList ++ []) σ')) := by
  refine Eq.trans (e_iload_n dX10_leaked_0 rfl) ?_
  refine Eq.trans (e_iconst (x := (-1)) dX10_leaked_1 (by decide)) ?_
  refine Eq.trans (e_ic_ge (t := 7) dX10_leaked_2 (by decide)) (g_ite ?_ ?_)
  · refine Eq.trans (e_iconst (x := (-1)) dX10_leaked_5 (by decide)) ?_
    exact e_ireti dX10_leaked_6 rfl
  · refine Eq.trans (e_aload_n dX10_leaked_7 rfl) ?_
    exact e_invv dX10_leaked_8 cl_10_124 (kX10 h0) (by simp) rfl rfl (by simp)
theorem BX10_leaked_11 {C : gC} {G : gG} {Q : gK} {σ : gM} {a0 : Nat} {v1 : Int32} {wv2 : Value} {wv3 : Value} {wv4 : Value} {s0 : Int32} (h0 : isX10 G a0) : gw C G mX10_leaked Q 11 [.ref a0, .int v1, wv2, wv3, wv4] [.int s0] σ = gw C G mX10_leaked Q 17 [.ref a0, .int v1, .int s0, .int 0, .int 0] [] σ := by
  refine Eq.trans (e_istore_n dX10_leaked_11 (Nat.le_of_ble_eq_true rfl)) ?_
  refine Eq.trans (e_iconst (x := 0) dX10_leaked_12 (by decide)) ?_
  refine Eq.trans (e_istore_n dX10_leaked_13 (Nat.le_of_ble_eq_true rfl)) ?_
  refine Eq.trans (e_iconst (x := 0) dX10_leaked_14 (by decide)) ?_
  refine Eq.trans (e_istore dX10_leaked_15 (Nat.le_of_ble_eq_true rfl)) ?_
  rfl
theorem BX10_leaked_17 {C : gC} {G : gG} {Q : gK} {σ : gM} {a0 : Nat} {v1 : Int32} {v2 : Int32} {v3 : Int32} {v4 : Int32} (h0 : isX10 G a0) : gw C G mX10_leaked Q 17 [.ref a0, .int v1, .int v2, .int v3, .int v4] [] σ = (if v4 < 30 then (if ((v2 >>> (v4 &&& 31)) &&& 1) = 1 then (if v3 = v1 then Q (some (.int v4)) σ else gw C G mX10_leaked Q 17 [.ref a0, .int v1, .int v2, .int (v3 + 1), .int (v4 + 1)] [] σ) else gw C G mX10_leaked Q 17 [.ref a0, .int v1, .int v2, .int v3, .int (v4 + 1)] [] σ) else (if v1 = (-1) then Q (some (.int v3)) σ else Q (some (.int (-2))) σ)) := by
  refine Eq.trans (e_iload dX10_leaked_17 rfl) ?_
  refine Eq.trans (e_bipush (x := 30) dX10_leaked_19 (by decide)) ?_
  refine Eq.trans (e_ic_ge (t := 51) dX10_leaked_21 (by decide)) (g_ite ?_ ?_)
  · refine Eq.trans (e_iload_n dX10_leaked_24 rfl) ?_
    refine Eq.trans (e_iload dX10_leaked_25 rfl) ?_
    refine Eq.trans (e_ishr dX10_leaked_27) ?_
    refine Eq.trans (e_iconst (x := 1) dX10_leaked_28 (by decide)) ?_
    refine Eq.trans (e_iand dX10_leaked_29) ?_
    refine Eq.trans (e_iconst (x := 1) dX10_leaked_30 (by decide)) ?_
    refine Eq.trans (e_ic_ne (t := 45) dX10_leaked_31 (by decide)) (g_ite ?_ ?_)
    · refine Eq.trans (e_iload_n dX10_leaked_34 rfl) ?_
      refine Eq.trans (e_iload_n dX10_leaked_35 rfl) ?_
      refine Eq.trans (e_ic_ne (t := 42) dX10_leaked_36 (by decide)) (g_ite ?_ ?_)
      · refine Eq.trans (e_iload dX10_leaked_39 rfl) ?_
        exact e_ireti dX10_leaked_41 rfl
      · refine Eq.trans (e_iinc (y := 1) dX10_leaked_42 rfl (by decide)) ?_
        refine Eq.trans (e_iinc (y := 1) dX10_leaked_45 rfl (by decide)) ?_
        refine Eq.trans (e_goto (t := 17) dX10_leaked_48 (by decide)) ?_
        rfl
    · refine Eq.trans (e_iinc (y := 1) dX10_leaked_45 rfl (by decide)) ?_
      refine Eq.trans (e_goto (t := 17) dX10_leaked_48 (by decide)) ?_
      rfl
  · refine Eq.trans (e_iload_n dX10_leaked_51 rfl) ?_
    refine Eq.trans (e_iconst (x := (-1)) dX10_leaked_52 (by decide)) ?_
    refine Eq.trans (e_ic_ne (t := 60) dX10_leaked_53 (by decide)) (g_ite ?_ ?_)
    · refine Eq.trans (e_iload_n dX10_leaked_56 rfl) ?_
      refine Eq.trans (e_goto (t := 62) dX10_leaked_57 (by decide)) ?_
      exact e_ireti dX10_leaked_62 rfl
    · refine Eq.trans (e_bipush (x := (-2)) dX10_leaked_60 (by decide)) ?_
      exact e_ireti dX10_leaked_62 rfl
theorem BX10_path_0 {C : gC} {G : gG} {Q : gK} {σ : gM} {a0 : Nat} {v1 : Int32} {v2 : Int32} (h0 : isX10 G a0) : gw C G mX10_path Q 0 [.ref a0, .int v1, .int v2, .long 0, .long 0, .long 0, .long 0, .long 0] [] σ = (g_inv C mX10_good [.ref a0, .int v1] σ fun r σ' => gw C G mX10_path Q 5 [.ref a0, .int v1, .int v2, .long 0, .long 0, .long 0, .long 0, .long 0] (r.toList ++ []) σ') := by
  refine Eq.trans (e_aload_n dX10_path_0 rfl) ?_
  refine Eq.trans (e_iload_n dX10_path_1 rfl) ?_
  exact e_invv dX10_path_2 cl_10_96 (kX10 h0) (by simp) rfl rfl (by simp)
theorem BX10_path_5 {C : gC} {G : gG} {Q : gK} {σ : gM} {a0 : Nat} {v1 : Int32} {v2 : Int32} {wv3 : Value} {wv4 : Value} {wv5 : Value} {wv6 : Value} {wv7 : Value} {s0 : Int32} (h0 : isX10 G a0) : gw C G mX10_path Q 5 [.ref a0, .int v1, .int v2, wv3, wv4, wv5, wv6, wv7] [.int s0] σ = (g_inv C mX10_good [.ref a0, .int v2] σ fun r σ' => gw C G mX10_path Q 11 [.ref a0, .int v1, .int v2, .int s0, wv4, wv5, wv6, wv7] (r.toList ++ []) σ') := by
  refine Eq.trans (e_istore_n dX10_path_5 (Nat.le_of_ble_eq_true rfl)) ?_
  refine Eq.trans (e_aload_n dX10_path_6 rfl) ?_
  refine Eq.trans (e_iload_n dX10_path_7 rfl) ?_
  exact e_invv dX10_path_8 cl_10_96 (kX10 h0) (by simp) rfl rfl (by simp)
theorem BX10_path_11 {C : gC} {G : gG} {Q : gK} {σ : gM} {a0 : Nat} {v1 : Int32} {v2 : Int32} {v3 : Int32} {wv4 : Value} {wv5 : Value} {wv6 : Value} {wv7 : Value} {s0 : Int32} (h0 : isX10 G a0) : gw C G mX10_path Q 11 [.ref a0, .int v1, .int v2, .int v3, wv4, wv5, wv6, wv7] [.int s0] σ = (if v3 < 0 then Q (some (.int (-4))) σ else (if s0 < 0 then Q (some (.int (-4))) σ else gw C G mX10_path Q 28 [.ref a0, .int v1, .int v2, .int v3, .int s0, .int 0, wv6, wv7] [] σ)) := by
  refine Eq.trans (e_istore dX10_path_11 (Nat.le_of_ble_eq_true rfl)) ?_
  refine Eq.trans (e_iload_n dX10_path_13 rfl) ?_
  refine Eq.trans (e_if_lt (t := 22) dX10_path_14 (by decide)) (g_ite ?_ ?_)
  · refine Eq.trans (e_bipush (x := (-4)) dX10_path_22 (by decide)) ?_
    exact e_ireti dX10_path_24 rfl
  · refine Eq.trans (e_iload dX10_path_17 rfl) ?_
    refine Eq.trans (e_if_ge (t := 25) dX10_path_19 (by decide)) (g_ite ?_ ?_)
    · refine Eq.trans (e_bipush (x := (-4)) dX10_path_22 (by decide)) ?_
      exact e_ireti dX10_path_24 rfl
    · refine Eq.trans (e_iconst (x := 0) dX10_path_25 (by decide)) ?_
      refine Eq.trans (e_istore dX10_path_26 (Nat.le_of_ble_eq_true rfl)) ?_
      rfl
theorem BX10_path_28 {C : gC} {G : gG} {Q : gK} {σ : gM} {a0 : Nat} {v1 : Int32} {v2 : Int32} {v3 : Int32} {v4 : Int32} {v5 : Int32} {wv6 : Value} {wv7 : Value} (h0 : isX10 G a0) : gw C G mX10_path Q 28 [.ref a0, .int v1, .int v2, .int v3, .int v4, .int v5, wv6, wv7] [] σ = (if v5 < 30 then (vp_in v5 30 ∧ gw C G mX10_path Q 28 [.ref a0, .int v1, .int v2, .int v3, .int v4, .int (v5 + 1), wv6, wv7] [] (g_up σ (a0 + 8) v5.toNatClampNeg (-2))) else (vp_in v3 30 ∧ gw C G mX10_path Q 57 [.ref a0, .int v1, .int v2, .int v3, .int v4, .int v5, wv6, wv7] [] (g_up σ (a0 + 8) v3.toNatClampNeg 0))) := by
  refine Eq.trans (e_iload dX10_path_28 rfl) ?_
  refine Eq.trans (e_bipush (x := 30) dX10_path_30 (by decide)) ?_
  refine Eq.trans (e_ic_ge (t := 50) dX10_path_32 (by decide)) (g_ite ?_ ?_)
  · refine Eq.trans (e_aload_n dX10_path_35 rfl) ?_
    refine Eq.trans (e_getr (b := a0 + 8) dX10_path_36 fl_10_31 (kX10 h0) (sX10_8 h0)) ?_
    refine Eq.trans (e_iload dX10_path_39 rfl) ?_
    refine Eq.trans (e_bipush (x := (-2)) dX10_path_41 (by decide)) ?_
    refine Eq.trans (e_iast dX10_path_43 (aX10_8 h0) (nX10_8 h0)) (g_cj ?_)
    refine Eq.trans (e_iinc (y := 1) dX10_path_44 rfl (by decide)) ?_
    refine Eq.trans (e_goto (t := 28) dX10_path_47 (by decide)) ?_
    rfl
  · refine Eq.trans (e_aload_n dX10_path_50 rfl) ?_
    refine Eq.trans (e_getr (b := a0 + 8) dX10_path_51 fl_10_31 (kX10 h0) (sX10_8 h0)) ?_
    refine Eq.trans (e_iload_n dX10_path_54 rfl) ?_
    refine Eq.trans (e_iconst (x := 0) dX10_path_55 (by decide)) ?_
    refine Eq.trans (e_iast dX10_path_56 (aX10_8 h0) (nX10_8 h0)) (g_cj ?_)
    rfl
theorem BX10_path_57 {C : gC} {G : gG} {Q : gK} {σ : gM} {a0 : Nat} {v1 : Int32} {v2 : Int32} {v3 : Int32} {v4 : Int32} {v5 : Int32} {wv6 : Value} {wv7 : Value} (h0 : isX10 G a0) : gw C G mX10_path Q 57 [.ref a0, .int v1, .int v2, .int v3, .int v4, .int v5, wv6, wv7] [] σ = (vp_in 0 30 ∧ gw C G mX10_path Q 70 [.ref a0, .int v1, .int v2, .int v3, .int v4, .int 1, .int 0, wv7] [] (g_up σ (a0 + 9) (0 : Int32).toNatClampNeg v3)) := by
  refine Eq.trans (e_aload_n dX10_path_57 rfl) ?_
  refine Eq.trans (e_getr (b := a0 + 9) dX10_path_58 fl_10_34 (kX10 h0) (sX10_9 h0)) ?_
  refine Eq.trans (e_iconst (x := 0) dX10_path_61 (by decide)) ?_
  refine Eq.trans (e_iload_n dX10_path_62 rfl) ?_
  refine Eq.trans (e_iast dX10_path_63 (aX10_9 h0) (nX10_9 h0)) (g_cj ?_)
  refine Eq.trans (e_iconst (x := 1) dX10_path_64 (by decide)) ?_
  refine Eq.trans (e_istore dX10_path_65 (Nat.le_of_ble_eq_true rfl)) ?_
  refine Eq.trans (e_iconst (x := 0) dX10_path_67 (by decide)) ?_
  refine Eq.trans (e_istore dX10_path_68 (Nat.le_of_ble_eq_true rfl)) ?_
  rfl
theorem BX10_path_70 {C : gC} {G : gG} {Q : gK} {σ : gM} {a0 : Nat} {v1 : Int32} {v2 : Int32} {v3 : Int32} {v4 : Int32} {v5 : Int32} {v6 : Int32} {wv7 : Value} (h0 : isX10 G a0) : gw C G mX10_path Q 70 [.ref a0, .int v1, .int v2, .int v3, .int v4, .int v5, .int v6, wv7] [] σ = (if v6 < v5 then gw C G mX10_path Q 80 [.ref a0, .int v1, .int v2, .int v3, .int v4, .int v5, .int v6, .int 0] [] σ else (vp_in v4 30 ∧ Q (some (.int (σ (a0 + 8) v4.toNatClampNeg))) σ)) := by
  refine Eq.trans (e_iload dX10_path_70 rfl) ?_
  refine Eq.trans (e_iload dX10_path_72 rfl) ?_
  refine Eq.trans (e_ic_ge (t := 167) dX10_path_74 (by decide)) (g_ite ?_ ?_)
  · refine Eq.trans (e_iconst (x := 0) dX10_path_77 (by decide)) ?_
    refine Eq.trans (e_istore dX10_path_78 (Nat.le_of_ble_eq_true rfl)) ?_
    rfl
  · refine Eq.trans (e_aload_n dX10_path_167 rfl) ?_
    refine Eq.trans (e_getr (b := a0 + 8) dX10_path_168 fl_10_31 (kX10 h0) (sX10_8 h0)) ?_
    refine Eq.trans (e_iload dX10_path_171 rfl) ?_
    refine Eq.trans (e_iald dX10_path_173 (aX10_8 h0) (nX10_8 h0)) (g_cj ?_)
    exact e_ireti dX10_path_174 rfl
theorem BX10_path_80 {C : gC} {G : gG} {Q : gK} {σ : gM} {a0 : Nat} {v1 : Int32} {v2 : Int32} {v3 : Int32} {v4 : Int32} {v5 : Int32} {v6 : Int32} {v7 : Int32} (h0 : isX10 G a0) : gw C G mX10_path Q 80 [.ref a0, .int v1, .int v2, .int v3, .int v4, .int v5, .int v6, .int v7] [] σ = (if v7 < 30 then (vp_in v7 30 ∧ (if (σ (a0 + 8) v7.toNatClampNeg) < 0 then (g_inv C mX10_isLive [.ref a0, .int v7] σ fun r σ' => gw C G mX10_path Q 103 [.ref a0, .int v1, .int v2, .int v3, .int v4, .int v5, .int v6, .int v7] (r.toList ++ []) σ') else gw C G mX10_path Q 80 [.ref a0, .int v1, .int v2, .int v3, .int v4, .int v5, .int v6, .int (v7 + 1)] [] σ)) else gw C G mX10_path Q 70 [.ref a0, .int v1, .int v2, .int v3, .int v4, .int v5, .int (v6 + 1), .int v7] [] σ) := by
  refine Eq.trans (e_iload dX10_path_80 rfl) ?_
  refine Eq.trans (e_bipush (x := 30) dX10_path_82 (by decide)) ?_
  refine Eq.trans (e_ic_ge (t := 161) dX10_path_84 (by decide)) (g_ite ?_ ?_)
  · refine Eq.trans (e_aload_n dX10_path_87 rfl) ?_
    refine Eq.trans (e_getr (b := a0 + 8) dX10_path_88 fl_10_31 (kX10 h0) (sX10_8 h0)) ?_
    refine Eq.trans (e_iload dX10_path_91 rfl) ?_
    refine Eq.trans (e_iald dX10_path_93 (aX10_8 h0) (nX10_8 h0)) (g_cj ?_)
    refine Eq.trans (e_if_ge (t := 155) dX10_path_94 (by decide)) (g_ite ?_ ?_)
    · refine Eq.trans (e_aload_n dX10_path_97 rfl) ?_
      refine Eq.trans (e_iload dX10_path_98 rfl) ?_
      exact e_invv dX10_path_100 cl_10_61 (kX10 h0) (by simp) rfl rfl (by simp)
    · refine Eq.trans (e_iinc (y := 1) dX10_path_155 rfl (by decide)) ?_
      refine Eq.trans (e_goto (t := 80) dX10_path_158 (by decide)) ?_
      rfl
  · refine Eq.trans (e_iinc (y := 1) dX10_path_161 rfl (by decide)) ?_
    refine Eq.trans (e_goto (t := 70) dX10_path_164 (by decide)) ?_
    rfl
theorem BX10_path_103 {C : gC} {G : gG} {Q : gK} {σ : gM} {a0 : Nat} {v1 : Int32} {v2 : Int32} {v3 : Int32} {v4 : Int32} {v5 : Int32} {v6 : Int32} {v7 : Int32} {s0 : Int32} (h0 : isX10 G a0) : gw C G mX10_path Q 103 [.ref a0, .int v1, .int v2, .int v3, .int v4, .int v5, .int v6, .int v7] [.int s0] σ = (if s0 = 0 then gw C G mX10_path Q 80 [.ref a0, .int v1, .int v2, .int v3, .int v4, .int v5, .int v6, .int (v7 + 1)] [] σ else (vp_in v6 30 ∧ (g_inv C mX10_holds [.ref a0, .int (σ (a0 + 9) v6.toNatClampNeg), .int v7] σ fun r σ' => gw C G mX10_path Q 119 [.ref a0, .int v1, .int v2, .int v3, .int v4, .int v5, .int v6, .int v7] (r.toList ++ []) σ'))) := by
  refine Eq.trans (e_if_eq (t := 155) dX10_path_103 (by decide)) (g_ite ?_ ?_)
  · refine Eq.trans (e_iinc (y := 1) dX10_path_155 rfl (by decide)) ?_
    refine Eq.trans (e_goto (t := 80) dX10_path_158 (by decide)) ?_
    rfl
  · refine Eq.trans (e_aload_n dX10_path_106 rfl) ?_
    refine Eq.trans (e_aload_n dX10_path_107 rfl) ?_
    refine Eq.trans (e_getr (b := a0 + 9) dX10_path_108 fl_10_34 (kX10 h0) (sX10_9 h0)) ?_
    refine Eq.trans (e_iload dX10_path_111 rfl) ?_
    refine Eq.trans (e_iald dX10_path_113 (aX10_9 h0) (nX10_9 h0)) (g_cj ?_)
    refine Eq.trans (e_iload dX10_path_114 rfl) ?_
    exact e_invv dX10_path_116 cl_10_143 (kX10 h0) (by simp) rfl rfl (by simp)
theorem BX10_path_119 {C : gC} {G : gG} {Q : gK} {σ : gM} {a0 : Nat} {v1 : Int32} {v2 : Int32} {v3 : Int32} {v4 : Int32} {v5 : Int32} {v6 : Int32} {v7 : Int32} {s0 : Int32} (h0 : isX10 G a0) : gw C G mX10_path Q 119 [.ref a0, .int v1, .int v2, .int v3, .int v4, .int v5, .int v6, .int v7] [.int s0] σ = (if s0 = 0 then gw C G mX10_path Q 80 [.ref a0, .int v1, .int v2, .int v3, .int v4, .int v5, .int v6, .int (v7 + 1)] [] σ else (vp_in v6 30 ∧ (vp_in (σ (a0 + 9) v6.toNatClampNeg) 30 ∧ (vp_in v7 30 ∧ gw C G mX10_path Q 143 [.ref a0, .int v1, .int v2, .int v3, .int v4, .int v5, .int v6, .int v7] [] (g_up σ (a0 + 8) v7.toNatClampNeg ((σ (a0 + 8) (σ (a0 + 9) v6.toNatClampNeg).toNatClampNeg) + 1)))))) := by
  refine Eq.trans (e_if_eq (t := 155) dX10_path_119 (by decide)) (g_ite ?_ ?_)
  · refine Eq.trans (e_iinc (y := 1) dX10_path_155 rfl (by decide)) ?_
    refine Eq.trans (e_goto (t := 80) dX10_path_158 (by decide)) ?_
    rfl
  · refine Eq.trans (e_aload_n dX10_path_122 rfl) ?_
    refine Eq.trans (e_getr (b := a0 + 8) dX10_path_123 fl_10_31 (kX10 h0) (sX10_8 h0)) ?_
    refine Eq.trans (e_iload dX10_path_126 rfl) ?_
    refine Eq.trans (e_aload_n dX10_path_128 rfl) ?_
    refine Eq.trans (e_getr (b := a0 + 8) dX10_path_129 fl_10_31 (kX10 h0) (sX10_8 h0)) ?_
    refine Eq.trans (e_aload_n dX10_path_132 rfl) ?_
    refine Eq.trans (e_getr (b := a0 + 9) dX10_path_133 fl_10_34 (kX10 h0) (sX10_9 h0)) ?_
    refine Eq.trans (e_iload dX10_path_136 rfl) ?_
    refine Eq.trans (e_iald dX10_path_138 (aX10_9 h0) (nX10_9 h0)) (g_cj ?_)
    refine Eq.trans (e_iald dX10_path_139 (aX10_8 h0) (nX10_8 h0)) (g_cj ?_)
    refine Eq.trans (e_iconst (x := 1) dX10_path_140 (by decide)) ?_
    refine Eq.trans (e_iadd dX10_path_141) ?_
    refine Eq.trans (e_iast dX10_path_142 (aX10_8 h0) (nX10_8 h0)) (g_cj ?_)
    rfl
theorem BX10_path_143 {C : gC} {G : gG} {Q : gK} {σ : gM} {a0 : Nat} {v1 : Int32} {v2 : Int32} {v3 : Int32} {v4 : Int32} {v5 : Int32} {v6 : Int32} {v7 : Int32} (h0 : isX10 G a0) : gw C G mX10_path Q 143 [.ref a0, .int v1, .int v2, .int v3, .int v4, .int v5, .int v6, .int v7] [] σ = (vp_in v5 30 ∧ gw C G mX10_path Q 80 [.ref a0, .int v1, .int v2, .int v3, .int v4, .int (v5 + 1), .int v6, .int (v7 + 1)] [] (g_up σ (a0 + 9) v5.toNatClampNeg v7)) := by
  refine Eq.trans (e_aload_n dX10_path_143 rfl) ?_
  refine Eq.trans (e_getr (b := a0 + 9) dX10_path_144 fl_10_34 (kX10 h0) (sX10_9 h0)) ?_
  refine Eq.trans (e_iload dX10_path_147 rfl) ?_
  refine Eq.trans (e_iinc (y := 1) dX10_path_149 rfl (by decide)) ?_
  refine Eq.trans (e_iload dX10_path_152 rfl) ?_
  refine Eq.trans (e_iast dX10_path_154 (aX10_9 h0) (nX10_9 h0)) (g_cj ?_)
  refine Eq.trans (e_iinc (y := 1) dX10_path_155 rfl (by decide)) ?_
  refine Eq.trans (e_goto (t := 80) dX10_path_158 (by decide)) ?_
  rfl
theorem BX10_epochs_0 {C : gC} {G : gG} {Q : gK} {σ : gM} {a0 : Nat} {v1 : Int32} (h0 : isX10 G a0) : gw C G mX10_epochs Q 0 [.ref a0, .int v1, .long 0, .long 0, .long 0] [] σ = (g_inv C mX10_in [.int v1, .int 0, .int 2] σ fun r σ' => gw C G mX10_epochs Q 6 [.ref a0, .int v1, .long 0, .long 0, .long 0] (r.toList ++ []) σ') := by
  refine Eq.trans (e_iload_n dX10_epochs_0 rfl) ?_
  refine Eq.trans (e_iconst (x := 0) dX10_epochs_1 (by decide)) ?_
  refine Eq.trans (e_iconst (x := 2) dX10_epochs_2 (by decide)) ?_
  exact e_invs dX10_epochs_3 cl_10_65 (by decide) (by simp) rfl rfl (by simp)
theorem BX10_epochs_6 {C : gC} {G : gG} {Q : gK} {σ : gM} {a0 : Nat} {v1 : Int32} {wv2 : Value} {wv3 : Value} {wv4 : Value} {s0 : Int32} (h0 : isX10 G a0) : gw C G mX10_epochs Q 6 [.ref a0, .int v1, wv2, wv3, wv4] [.int s0] σ = (if s0 = 0 then Q (some (.int (-1))) σ else gw C G mX10_epochs Q 19 [.ref a0, .int v1, .int 0, .int (-2), .int 0] [] σ) := by
  refine Eq.trans (e_if_ne (t := 11) dX10_epochs_6 (by decide)) (g_ite ?_ ?_)
  · refine Eq.trans (e_iconst (x := (-1)) dX10_epochs_9 (by decide)) ?_
    exact e_ireti dX10_epochs_10 rfl
  · refine Eq.trans (e_iconst (x := 0) dX10_epochs_11 (by decide)) ?_
    refine Eq.trans (e_istore_n dX10_epochs_12 (Nat.le_of_ble_eq_true rfl)) ?_
    refine Eq.trans (e_bipush (x := (-2)) dX10_epochs_13 (by decide)) ?_
    refine Eq.trans (e_istore_n dX10_epochs_15 (Nat.le_of_ble_eq_true rfl)) ?_
    refine Eq.trans (e_iconst (x := 0) dX10_epochs_16 (by decide)) ?_
    refine Eq.trans (e_istore dX10_epochs_17 (Nat.le_of_ble_eq_true rfl)) ?_
    rfl
theorem BX10_epochs_19 {C : gC} {G : gG} {Q : gK} {σ : gM} {a0 : Nat} {v1 : Int32} {v2 : Int32} {v3 : Int32} {v4 : Int32} (h0 : isX10 G a0) : gw C G mX10_epochs Q 19 [.ref a0, .int v1, .int v2, .int v3, .int v4] [] σ = (if v4 < 6 then (vp_in (599 + v4) 607 ∧ (if (σ (a0 + 1) (599 + v4).toNatClampNeg) < 0 then gw C G mX10_epochs Q 19 [.ref a0, .int v1, .int v2, .int v3, .int (v4 + 1)] [] σ else (if v3 < 0 then gw C G mX10_epochs Q 19 [.ref a0, .int v1, .int (v2 ||| (1 <<< (v4 &&& 31))), .int v4, .int (v4 + 1)] [] σ else (vp_in (599 + v4) 607 ∧ (vp_in (599 + v3) 607 ∧ (if (σ (a0 + 1) (599 + v4).toNatClampNeg) < (σ (a0 + 1) (599 + v3).toNatClampNeg) then gw C G mX10_epochs Q 19 [.ref a0, .int v1, .int (v2 ||| (1 <<< (v4 &&& 31))), .int v4, .int (v4 + 1)] [] σ else gw C G mX10_epochs Q 19 [.ref a0, .int v1, .int (v2 ||| (1 <<< (v4 &&& 31))), .int v3, .int (v4 + 1)] [] σ)))))) else (if v1 = 0 then (g_inv C mX10_freeable [.ref a0] σ fun r σ' => gw C G mX10_epochs Q 96 [.ref a0, .int v1, .int v2, .int v3, .int v4] (r.toList ++ []) σ') else (if v1 = 1 then Q (some (.int v3)) σ else Q (some (.int v2)) σ))) := by
  refine Eq.trans (e_iload dX10_epochs_19 rfl) ?_
  refine Eq.trans (e_bipush (x := 6) dX10_epochs_21 (by decide)) ?_
  refine Eq.trans (e_ic_ge (t := 88) dX10_epochs_23 (by decide)) (g_ite ?_ ?_)
  · refine Eq.trans (e_aload_n dX10_epochs_26 rfl) ?_
    refine Eq.trans (e_getr (b := a0 + 1) dX10_epochs_27 fl_10_9 (kX10 h0) (sX10_0 h0)) ?_
    refine Eq.trans (e_sipush (x := 599) dX10_epochs_30 (by decide)) ?_
    refine Eq.trans (e_iload dX10_epochs_33 rfl) ?_
    refine Eq.trans (e_iadd dX10_epochs_35) ?_
    refine Eq.trans (e_iald dX10_epochs_36 (aX10_0 h0) (nX10_0 h0)) (g_cj ?_)
    refine Eq.trans (e_if_lt (t := 82) dX10_epochs_37 (by decide)) (g_ite ?_ ?_)
    · refine Eq.trans (e_iinc (y := 1) dX10_epochs_82 rfl (by decide)) ?_
      refine Eq.trans (e_goto (t := 19) dX10_epochs_85 (by decide)) ?_
      rfl
    · refine Eq.trans (e_iload_n dX10_epochs_40 rfl) ?_
      refine Eq.trans (e_iconst (x := 1) dX10_epochs_41 (by decide)) ?_
      refine Eq.trans (e_iload dX10_epochs_42 rfl) ?_
      refine Eq.trans (e_ishl dX10_epochs_44) ?_
      refine Eq.trans (e_ior dX10_epochs_45) ?_
      refine Eq.trans (e_istore_n dX10_epochs_46 (Nat.le_of_ble_eq_true rfl)) ?_
      refine Eq.trans (e_iload_n dX10_epochs_47 rfl) ?_
      refine Eq.trans (e_if_lt (t := 75) dX10_epochs_48 (by decide)) (g_ite ?_ ?_)
      · refine Eq.trans (e_iload dX10_epochs_75 rfl) ?_
        refine Eq.trans (e_goto (t := 81) dX10_epochs_77 (by decide)) ?_
        refine Eq.trans (e_istore_n dX10_epochs_81 (Nat.le_of_ble_eq_true rfl)) ?_
        refine Eq.trans (e_iinc (y := 1) dX10_epochs_82 rfl (by decide)) ?_
        refine Eq.trans (e_goto (t := 19) dX10_epochs_85 (by decide)) ?_
        rfl
      · refine Eq.trans (e_aload_n dX10_epochs_51 rfl) ?_
        refine Eq.trans (e_getr (b := a0 + 1) dX10_epochs_52 fl_10_9 (kX10 h0) (sX10_0 h0)) ?_
        refine Eq.trans (e_sipush (x := 599) dX10_epochs_55 (by decide)) ?_
        refine Eq.trans (e_iload dX10_epochs_58 rfl) ?_
        refine Eq.trans (e_iadd dX10_epochs_60) ?_
        refine Eq.trans (e_iald dX10_epochs_61 (aX10_0 h0) (nX10_0 h0)) (g_cj ?_)
        refine Eq.trans (e_aload_n dX10_epochs_62 rfl) ?_
        refine Eq.trans (e_getr (b := a0 + 1) dX10_epochs_63 fl_10_9 (kX10 h0) (sX10_0 h0)) ?_
        refine Eq.trans (e_sipush (x := 599) dX10_epochs_66 (by decide)) ?_
        refine Eq.trans (e_iload_n dX10_epochs_69 rfl) ?_
        refine Eq.trans (e_iadd dX10_epochs_70) ?_
        refine Eq.trans (e_iald dX10_epochs_71 (aX10_0 h0) (nX10_0 h0)) (g_cj ?_)
        refine Eq.trans (e_ic_ge (t := 80) dX10_epochs_72 (by decide)) (g_ite ?_ ?_)
        · refine Eq.trans (e_iload dX10_epochs_75 rfl) ?_
          refine Eq.trans (e_goto (t := 81) dX10_epochs_77 (by decide)) ?_
          refine Eq.trans (e_istore_n dX10_epochs_81 (Nat.le_of_ble_eq_true rfl)) ?_
          refine Eq.trans (e_iinc (y := 1) dX10_epochs_82 rfl (by decide)) ?_
          refine Eq.trans (e_goto (t := 19) dX10_epochs_85 (by decide)) ?_
          rfl
        · refine Eq.trans (e_iload_n dX10_epochs_80 rfl) ?_
          refine Eq.trans (e_istore_n dX10_epochs_81 (Nat.le_of_ble_eq_true rfl)) ?_
          refine Eq.trans (e_iinc (y := 1) dX10_epochs_82 rfl (by decide)) ?_
          refine Eq.trans (e_goto (t := 19) dX10_epochs_85 (by decide)) ?_
          rfl
  · refine Eq.trans (e_iload_n dX10_epochs_88 rfl) ?_
    refine Eq.trans (e_if_ne (t := 99) dX10_epochs_89 (by decide)) (g_ite ?_ ?_)
    · refine Eq.trans (e_aload_n dX10_epochs_92 rfl) ?_
      exact e_invv dX10_epochs_93 cl_10_133 (kX10 h0) (by simp) rfl rfl (by simp)
    · refine Eq.trans (e_iload_n dX10_epochs_99 rfl) ?_
      refine Eq.trans (e_iconst (x := 1) dX10_epochs_100 (by decide)) ?_
      refine Eq.trans (e_ic_ne (t := 108) dX10_epochs_101 (by decide)) (g_ite ?_ ?_)
      · refine Eq.trans (e_iload_n dX10_epochs_104 rfl) ?_
        refine Eq.trans (e_goto (t := 109) dX10_epochs_105 (by decide)) ?_
        exact e_ireti dX10_epochs_109 rfl
      · refine Eq.trans (e_iload_n dX10_epochs_108 rfl) ?_
        exact e_ireti dX10_epochs_109 rfl
theorem BX10_epochs_96 {C : gC} {G : gG} {Q : gK} {σ : gM} {a0 : Nat} {v1 : Int32} {v2 : Int32} {v3 : Int32} {v4 : Int32} {s0 : Int32} (h0 : isX10 G a0) : gw C G mX10_epochs Q 96 [.ref a0, .int v1, .int v2, .int v3, .int v4] [.int s0] σ = Q (some (.int s0)) σ := by
  refine Eq.trans (e_goto (t := 109) dX10_epochs_96 (by decide)) ?_
  exact e_ireti dX10_epochs_109 rfl
theorem BX10_plan_0 {C : gC} {G : gG} {Q : gK} {σ : gM} {a0 : Nat} {v1 : Int32} {v2 : Int32} (h0 : isX10 G a0) : gw C G mX10_plan Q 0 [.ref a0, .int v1, .int v2, .long 0, .long 0, .long 0, .long 0] [] σ = (g_inv C mX10_isHolder [.ref a0, .int v1] σ fun r σ' => gw C G mX10_plan Q 5 [.ref a0, .int v1, .int v2, .long 0, .long 0, .long 0, .long 0] (r.toList ++ []) σ') := by
  refine Eq.trans (e_aload_n dX10_plan_0 rfl) ?_
  refine Eq.trans (e_iload_n dX10_plan_1 rfl) ?_
  exact e_invv dX10_plan_2 cl_10_146 (kX10 h0) (by simp) rfl rfl (by simp)
theorem BX10_plan_5 {C : gC} {G : gG} {Q : gK} {σ : gM} {a0 : Nat} {v1 : Int32} {v2 : Int32} {wv3 : Value} {wv4 : Value} {wv5 : Value} {wv6 : Value} {s0 : Int32} (h0 : isX10 G a0) : gw C G mX10_plan Q 5 [.ref a0, .int v1, .int v2, wv3, wv4, wv5, wv6] [.int s0] σ = (if s0 = 0 then Q (some (.int (-1))) σ else (g_inv C mX10_isRegion [.ref a0, .int v2] σ fun r σ' => gw C G mX10_plan Q 13 [.ref a0, .int v1, .int v2, wv3, wv4, wv5, wv6] (r.toList ++ []) σ')) := by
  refine Eq.trans (e_if_eq (t := 16) dX10_plan_5 (by decide)) (g_ite ?_ ?_)
  · refine Eq.trans (e_iconst (x := (-1)) dX10_plan_16 (by decide)) ?_
    exact e_ireti dX10_plan_17 rfl
  · refine Eq.trans (e_aload_n dX10_plan_8 rfl) ?_
    refine Eq.trans (e_iload_n dX10_plan_9 rfl) ?_
    exact e_invv dX10_plan_10 cl_10_73 (kX10 h0) (by simp) rfl rfl (by simp)
theorem BX10_plan_13 {C : gC} {G : gG} {Q : gK} {σ : gM} {a0 : Nat} {v1 : Int32} {v2 : Int32} {wv3 : Value} {wv4 : Value} {wv5 : Value} {wv6 : Value} {s0 : Int32} (h0 : isX10 G a0) : gw C G mX10_plan Q 13 [.ref a0, .int v1, .int v2, wv3, wv4, wv5, wv6] [.int s0] σ = (if s0 = 0 then Q (some (.int (-1))) σ else (vp_in v1 6 ∧ (if (σ (a0 + 11) v1.toNatClampNeg) = 2 then (g_inv C mX10_laid [.ref a0] σ fun r σ' => gw C G mX10_plan Q 49 [.ref a0, .int v1, .int v2, wv3, wv4, wv5, wv6] (r.toList ++ []) σ') else (vp_in v1 6 ∧ (if (σ (a0 + 11) v1.toNatClampNeg) = 0 then Q (some (.int (-11))) σ else Q (some (.int (-12))) σ))))) := by
  refine Eq.trans (e_if_ne (t := 18) dX10_plan_13 (by decide)) (g_ite ?_ ?_)
  · refine Eq.trans (e_iconst (x := (-1)) dX10_plan_16 (by decide)) ?_
    exact e_ireti dX10_plan_17 rfl
  · refine Eq.trans (e_aload_n dX10_plan_18 rfl) ?_
    refine Eq.trans (e_getr (b := a0 + 11) dX10_plan_19 fl_10_40 (kX10 h0) (sX10_12 h0)) ?_
    refine Eq.trans (e_iload_n dX10_plan_22 rfl) ?_
    refine Eq.trans (e_iald dX10_plan_23 (aX10_12 h0) (nX10_12 h0)) (g_cj ?_)
    refine Eq.trans (e_iconst (x := 2) dX10_plan_24 (by decide)) ?_
    refine Eq.trans (e_ic_eq (t := 45) dX10_plan_25 (by decide)) (g_ite ?_ ?_)
    · refine Eq.trans (e_aload_n dX10_plan_45 rfl) ?_
      exact e_invv dX10_plan_46 cl_10_79 (kX10 h0) (by simp) rfl rfl (by simp)
    · refine Eq.trans (e_aload_n dX10_plan_28 rfl) ?_
      refine Eq.trans (e_getr (b := a0 + 11) dX10_plan_29 fl_10_40 (kX10 h0) (sX10_12 h0)) ?_
      refine Eq.trans (e_iload_n dX10_plan_32 rfl) ?_
      refine Eq.trans (e_iald dX10_plan_33 (aX10_12 h0) (nX10_12 h0)) (g_cj ?_)
      refine Eq.trans (e_if_ne (t := 42) dX10_plan_34 (by decide)) (g_ite ?_ ?_)
      · refine Eq.trans (e_bipush (x := (-11)) dX10_plan_37 (by decide)) ?_
        refine Eq.trans (e_goto (t := 44) dX10_plan_39 (by decide)) ?_
        exact e_ireti dX10_plan_44 rfl
      · refine Eq.trans (e_bipush (x := (-12)) dX10_plan_42 (by decide)) ?_
        exact e_ireti dX10_plan_44 rfl
theorem BX10_plan_49 {C : gC} {G : gG} {Q : gK} {σ : gM} {a0 : Nat} {v1 : Int32} {v2 : Int32} {wv3 : Value} {wv4 : Value} {wv5 : Value} {wv6 : Value} (h0 : isX10 G a0) : gw C G mX10_plan Q 49 [.ref a0, .int v1, .int v2, wv3, wv4, wv5, wv6] [] σ = gw C G mX10_plan Q 54 [.ref a0, .int v1, .int v2, .int 0, .int 0, wv5, wv6] [] σ := by
  refine Eq.trans (e_iconst (x := 0) dX10_plan_49 (by decide)) ?_
  refine Eq.trans (e_istore_n dX10_plan_50 (Nat.le_of_ble_eq_true rfl)) ?_
  refine Eq.trans (e_iconst (x := 0) dX10_plan_51 (by decide)) ?_
  refine Eq.trans (e_istore dX10_plan_52 (Nat.le_of_ble_eq_true rfl)) ?_
  rfl
theorem BX10_plan_54 {C : gC} {G : gG} {Q : gK} {σ : gM} {a0 : Nat} {v1 : Int32} {v2 : Int32} {v3 : Int32} {v4 : Int32} {wv5 : Value} {wv6 : Value} (h0 : isX10 G a0) : gw C G mX10_plan Q 54 [.ref a0, .int v1, .int v2, .int v3, .int v4, wv5, wv6] [] σ = (vp_in v1 6 ∧ (if v4 < (σ (a0 + 13) v1.toNatClampNeg) then (vp_in v1 6 ∧ (vp_in v4 60 ∧ (if 0 < (σ (a0 + 15 + v1.toNatClampNeg) v4.toNatClampNeg) then (if 40 < (σ (a0 + 15 + v1.toNatClampNeg) v4.toNatClampNeg) then gw C G mX10_plan Q 100 [.ref a0, .int v1, .int v2, .int v3, .int v4, .int (σ (a0 + 15 + v1.toNatClampNeg) v4.toNatClampNeg), wv6] [.int (-2)] σ else (g_inv C mX10_placed [.ref a0, .int v2, .int (σ (a0 + 15 + v1.toNatClampNeg) v4.toNatClampNeg)] σ fun r σ' => gw C G mX10_plan Q 100 [.ref a0, .int v1, .int v2, .int v3, .int v4, .int (σ (a0 + 15 + v1.toNatClampNeg) v4.toNatClampNeg), wv6] (r.toList ++ []) σ')) else (if (σ (a0 + 15 + v1.toNatClampNeg) v4.toNatClampNeg) < (-v3) then gw C G mX10_plan Q 151 [.ref a0, .int v1, .int v2, .int v3, .int v4, .int (σ (a0 + 15 + v1.toNatClampNeg) v4.toNatClampNeg), wv6] [] σ else (if (σ (a0 + 15 + v1.toNatClampNeg) v4.toNatClampNeg) = 0 then gw C G mX10_plan Q 151 [.ref a0, .int v1, .int v2, .int v3, .int v4, .int (σ (a0 + 15 + v1.toNatClampNeg) v4.toNatClampNeg), wv6] [] σ else gw C G mX10_plan Q 161 [.ref a0, .int v1, .int v2, .int v3, .int v4, .int (σ (a0 + 15 + v1.toNatClampNeg) v4.toNatClampNeg), wv6] [.int ((-(σ (a0 + 15 + v1.toNatClampNeg) v4.toNatClampNeg)) - 1)] σ))))) else Q (some (.int (-2))) σ)) := by
  refine Eq.trans (e_iload dX10_plan_54 rfl) ?_
  refine Eq.trans (e_aload_n dX10_plan_56 rfl) ?_
  refine Eq.trans (e_getr (b := a0 + 13) dX10_plan_57 fl_10_46 (kX10 h0) (sX10_14 h0)) ?_
  refine Eq.trans (e_iload_n dX10_plan_60 rfl) ?_
  refine Eq.trans (e_iald dX10_plan_61 (aX10_14 h0) (nX10_14 h0)) (g_cj ?_)
  refine Eq.trans (e_ic_ge (t := 222) dX10_plan_62 (by decide)) (g_ite ?_ ?_)
  · refine Eq.trans (e_aload_n dX10_plan_65 rfl) ?_
    refine Eq.trans (e_getr (b := a0 + 14) dX10_plan_66 fl_10_51 (kX10 h0) (sX10_15 h0)) ?_
    refine Eq.trans (e_iload_n dX10_plan_69 rfl) ?_
    refine Eq.trans (e_aald dX10_plan_70 (aX10_15 h0) (nX10_15 h0)) (g_cjr ?_)
    intro hr
    have hr := rX10_15 h0 _ (vp_lt hr)
    rw [hr.1]
    refine Eq.trans (e_iload dX10_plan_71 rfl) ?_
    refine Eq.trans (e_iald dX10_plan_73 hr.2.1 hr.2.2) (g_cj ?_)
    refine Eq.trans (e_istore dX10_plan_74 (Nat.le_of_ble_eq_true rfl)) ?_
    refine Eq.trans (e_iload dX10_plan_76 rfl) ?_
    refine Eq.trans (e_if_le (t := 139) dX10_plan_78 (by decide)) (g_ite ?_ ?_)
    · refine Eq.trans (e_iload dX10_plan_81 rfl) ?_
      refine Eq.trans (e_bipush (x := 40) dX10_plan_83 (by decide)) ?_
      refine Eq.trans (e_ic_le (t := 93) dX10_plan_85 (by decide)) (g_ite ?_ ?_)
      · refine Eq.trans (e_bipush (x := (-2)) dX10_plan_88 (by decide)) ?_
        refine Eq.trans (e_goto (t := 100) dX10_plan_90 (by decide)) ?_
        rfl
      · refine Eq.trans (e_aload_n dX10_plan_93 rfl) ?_
        refine Eq.trans (e_iload_n dX10_plan_94 rfl) ?_
        refine Eq.trans (e_iload dX10_plan_95 rfl) ?_
        exact e_invv dX10_plan_97 cl_10_82 (kX10 h0) (by simp) rfl rfl (by simp)
    · refine Eq.trans (e_iload dX10_plan_139 rfl) ?_
      refine Eq.trans (e_iload_n dX10_plan_141 rfl) ?_
      refine Eq.trans (e_ineg dX10_plan_142) ?_
      refine Eq.trans (e_ic_lt (t := 151) dX10_plan_143 (by decide)) (g_ite ?_ ?_)
      · rfl
      · refine Eq.trans (e_iload dX10_plan_146 rfl) ?_
        refine Eq.trans (e_if_ne (t := 156) dX10_plan_148 (by decide)) (g_ite ?_ ?_)
        · rfl
        · refine Eq.trans (e_iload dX10_plan_156 rfl) ?_
          refine Eq.trans (e_ineg dX10_plan_158) ?_
          refine Eq.trans (e_iconst (x := 1) dX10_plan_159 (by decide)) ?_
          refine Eq.trans (e_isub dX10_plan_160) ?_
          rfl
  · refine Eq.trans (e_bipush (x := (-2)) dX10_plan_222 (by decide)) ?_
    exact e_ireti dX10_plan_224 rfl
theorem BX10_plan_100 {C : gC} {G : gG} {Q : gK} {σ : gM} {a0 : Nat} {v1 : Int32} {v2 : Int32} {v3 : Int32} {v4 : Int32} {v5 : Int32} {wv6 : Value} {s0 : Int32} (h0 : isX10 G a0) : gw C G mX10_plan Q 100 [.ref a0, .int v1, .int v2, .int v3, .int v4, .int v5, wv6] [.int s0] σ = (if s0 < 0 then Q (some (.int v4)) σ else (g_inv C mX10_fills [.ref a0, .int s0, .int v5, .int 0] σ fun r σ' => gw C G mX10_plan Q 119 [.ref a0, .int v1, .int v2, .int v3, .int v4, .int v5, .int s0] (r.toList ++ []) σ')) := by
  refine Eq.trans (e_istore dX10_plan_100 (Nat.le_of_ble_eq_true rfl)) ?_
  refine Eq.trans (e_iload dX10_plan_102 rfl) ?_
  refine Eq.trans (e_if_ge (t := 110) dX10_plan_104 (by decide)) (g_ite ?_ ?_)
  · refine Eq.trans (e_iload dX10_plan_107 rfl) ?_
    exact e_ireti dX10_plan_109 rfl
  · refine Eq.trans (e_aload_n dX10_plan_110 rfl) ?_
    refine Eq.trans (e_iload dX10_plan_111 rfl) ?_
    refine Eq.trans (e_iload dX10_plan_113 rfl) ?_
    refine Eq.trans (e_iconst (x := 0) dX10_plan_115 (by decide)) ?_
    exact e_invv dX10_plan_116 cl_10_149 (kX10 h0) (by simp) rfl rfl (by simp)
theorem BX10_plan_119 {C : gC} {G : gG} {Q : gK} {σ : gM} {a0 : Nat} {v1 : Int32} {v2 : Int32} {v3 : Int32} {v4 : Int32} {v5 : Int32} {v6 : Int32} (h0 : isX10 G a0) : gw C G mX10_plan Q 119 [.ref a0, .int v1, .int v2, .int v3, .int v4, .int v5, .int v6] [] σ = (vp_in v3 60 ∧ gw C G mX10_plan Q 54 [.ref a0, .int v1, .int v2, .int (v3 + 1), .int (v4 + 1), .int v5, .int v6] [] (g_up σ (a0 + 7) v3.toNatClampNeg ((100 * v6) + v5))) := by
  refine Eq.trans (e_aload_n dX10_plan_119 rfl) ?_
  refine Eq.trans (e_getr (b := a0 + 7) dX10_plan_120 fl_10_28 (kX10 h0) (sX10_7 h0)) ?_
  refine Eq.trans (e_iload_n dX10_plan_123 rfl) ?_
  refine Eq.trans (e_iinc (y := 1) dX10_plan_124 rfl (by decide)) ?_
  refine Eq.trans (e_bipush (x := 100) dX10_plan_127 (by decide)) ?_
  refine Eq.trans (e_iload dX10_plan_129 rfl) ?_
  refine Eq.trans (e_imul dX10_plan_131) ?_
  refine Eq.trans (e_iload dX10_plan_132 rfl) ?_
  refine Eq.trans (e_iadd dX10_plan_134) ?_
  refine Eq.trans (e_iast dX10_plan_135 (aX10_7 h0) (nX10_7 h0)) (g_cj ?_)
  refine Eq.trans (e_goto (t := 216) dX10_plan_136 (by decide)) ?_
  refine Eq.trans (e_iinc (y := 1) dX10_plan_216 rfl (by decide)) ?_
  refine Eq.trans (e_goto (t := 54) dX10_plan_219 (by decide)) ?_
  rfl
theorem BX10_plan_151 {C : gC} {G : gG} {Q : gK} {σ : gM} {a0 : Nat} {v1 : Int32} {v2 : Int32} {v3 : Int32} {v4 : Int32} {v5 : Int32} {wv6 : Value} (h0 : isX10 G a0) : gw C G mX10_plan Q 151 [.ref a0, .int v1, .int v2, .int v3, .int v4, .int v5, wv6] [] σ = gw C G mX10_plan Q 161 [.ref a0, .int v1, .int v2, .int v3, .int v4, .int v5, wv6] [.int (-2)] σ := by
  refine Eq.trans (e_bipush (x := (-2)) dX10_plan_151 (by decide)) ?_
  refine Eq.trans (e_goto (t := 161) dX10_plan_153 (by decide)) ?_
  rfl
theorem BX10_plan_161 {C : gC} {G : gG} {Q : gK} {σ : gM} {a0 : Nat} {v1 : Int32} {v2 : Int32} {v3 : Int32} {v4 : Int32} {v5 : Int32} {wv6 : Value} {s0 : Int32} (h0 : isX10 G a0) : gw C G mX10_plan Q 161 [.ref a0, .int v1, .int v2, .int v3, .int v4, .int v5, wv6] [.int s0] σ = (if s0 < 0 then Q (some (.int v4)) σ else (vp_in s0 60 ∧ (if (σ (a0 + 7) s0.toNatClampNeg) < 0 then Q (some (.int v4)) σ else (vp_in s0 60 ∧ (vp_in s0 60 ∧ (g_inv C mX10_fills [.ref a0, .int ((σ (a0 + 7) s0.toNatClampNeg) / 100), .int ((σ (a0 + 7) s0.toNatClampNeg) - (σ (a0 + 7) s0.toNatClampNeg) / 100 * 100), .int 100] σ fun r σ' => gw C G mX10_plan Q 207 [.ref a0, .int v1, .int v2, .int v3, .int v4, .int v5, .int s0] (r.toList ++ []) σ')))))) := by
  refine Eq.trans (e_istore dX10_plan_161 (Nat.le_of_ble_eq_true rfl)) ?_
  refine Eq.trans (e_iload dX10_plan_163 rfl) ?_
  refine Eq.trans (e_if_lt (t := 178) dX10_plan_165 (by decide)) (g_ite ?_ ?_)
  · refine Eq.trans (e_iload dX10_plan_178 rfl) ?_
    exact e_ireti dX10_plan_180 rfl
  · refine Eq.trans (e_aload_n dX10_plan_168 rfl) ?_
    refine Eq.trans (e_getr (b := a0 + 7) dX10_plan_169 fl_10_28 (kX10 h0) (sX10_7 h0)) ?_
    refine Eq.trans (e_iload dX10_plan_172 rfl) ?_
    refine Eq.trans (e_iald dX10_plan_174 (aX10_7 h0) (nX10_7 h0)) (g_cj ?_)
    refine Eq.trans (e_if_ge (t := 181) dX10_plan_175 (by decide)) (g_ite ?_ ?_)
    · refine Eq.trans (e_iload dX10_plan_178 rfl) ?_
      exact e_ireti dX10_plan_180 rfl
    · refine Eq.trans (e_aload_n dX10_plan_181 rfl) ?_
      refine Eq.trans (e_aload_n dX10_plan_182 rfl) ?_
      refine Eq.trans (e_getr (b := a0 + 7) dX10_plan_183 fl_10_28 (kX10 h0) (sX10_7 h0)) ?_
      refine Eq.trans (e_iload dX10_plan_186 rfl) ?_
      refine Eq.trans (e_iald dX10_plan_188 (aX10_7 h0) (nX10_7 h0)) (g_cj ?_)
      refine Eq.trans (e_bipush (x := 100) dX10_plan_189 (by decide)) ?_
      refine Eq.trans (e_idiv dX10_plan_191 (by decide)) ?_
      refine Eq.trans (e_aload_n dX10_plan_192 rfl) ?_
      refine Eq.trans (e_getr (b := a0 + 7) dX10_plan_193 fl_10_28 (kX10 h0) (sX10_7 h0)) ?_
      refine Eq.trans (e_iload dX10_plan_196 rfl) ?_
      refine Eq.trans (e_iald dX10_plan_198 (aX10_7 h0) (nX10_7 h0)) (g_cj ?_)
      refine Eq.trans (e_bipush (x := 100) dX10_plan_199 (by decide)) ?_
      refine Eq.trans (e_irem dX10_plan_201 (by decide)) ?_
      refine Eq.trans (e_bipush (x := 100) dX10_plan_202 (by decide)) ?_
      exact e_invv dX10_plan_204 cl_10_149 (kX10 h0) (by simp) rfl rfl (by simp)
theorem BX10_plan_207 {C : gC} {G : gG} {Q : gK} {σ : gM} {a0 : Nat} {v1 : Int32} {v2 : Int32} {v3 : Int32} {v4 : Int32} {v5 : Int32} {v6 : Int32} (h0 : isX10 G a0) : gw C G mX10_plan Q 207 [.ref a0, .int v1, .int v2, .int v3, .int v4, .int v5, .int v6] [] σ = (vp_in v6 60 ∧ gw C G mX10_plan Q 54 [.ref a0, .int v1, .int v2, .int v3, .int (v4 + 1), .int v5, .int v6] [] (g_up σ (a0 + 7) v6.toNatClampNeg (-2))) := by
  refine Eq.trans (e_aload_n dX10_plan_207 rfl) ?_
  refine Eq.trans (e_getr (b := a0 + 7) dX10_plan_208 fl_10_28 (kX10 h0) (sX10_7 h0)) ?_
  refine Eq.trans (e_iload dX10_plan_211 rfl) ?_
  refine Eq.trans (e_bipush (x := (-2)) dX10_plan_213 (by decide)) ?_
  refine Eq.trans (e_iast dX10_plan_215 (aX10_7 h0) (nX10_7 h0)) (g_cj ?_)
  refine Eq.trans (e_iinc (y := 1) dX10_plan_216 rfl (by decide)) ?_
  refine Eq.trans (e_goto (t := 54) dX10_plan_219 (by decide)) ?_
  rfl
theorem BX10_isHolder_0 {C : gC} {G : gG} {Q : gK} {σ : gM} {a0 : Nat} {v1 : Int32} (h0 : isX10 G a0) : gw C G mX10_isHolder Q 0 [.ref a0, .int v1] [] σ = (g_inv C mX10_in [.int v1, .int 0, .int 5] σ fun r σ' => gw C G mX10_isHolder Q 6 [.ref a0, .int v1] (r.toList ++ []) σ') := by
  refine Eq.trans (e_iload_n dX10_isHolder_0 rfl) ?_
  refine Eq.trans (e_iconst (x := 0) dX10_isHolder_1 (by decide)) ?_
  refine Eq.trans (e_iconst (x := 5) dX10_isHolder_2 (by decide)) ?_
  exact e_invs dX10_isHolder_3 cl_10_65 (by decide) (by simp) rfl rfl (by simp)
theorem BX10_isHolder_6 {C : gC} {G : gG} {Q : gK} {σ : gM} {a0 : Nat} {v1 : Int32} {s0 : Int32} (h0 : isX10 G a0) : gw C G mX10_isHolder Q 6 [.ref a0, .int v1] [.int s0] σ = ((s0 = 0 ∨ s0 = 1) ∧ Q (some (.int s0)) σ) := by
  exact e_iretz dX10_isHolder_6 rfl
theorem BX10_fills_0 {C : gC} {G : gG} {Q : gK} {σ : gM} {a0 : Nat} {v1 : Int32} {v2 : Int32} {v3 : Int32} (h0 : isX10 G a0) : gw C G mX10_fills Q 0 [.ref a0, .int v1, .int v2, .int v3, .long 0] [] σ = gw C G mX10_fills Q 3 [.ref a0, .int v1, .int v2, .int v3, .int 0] [] σ := by
  refine Eq.trans (e_iconst (x := 0) dX10_fills_0 (by decide)) ?_
  refine Eq.trans (e_istore dX10_fills_1 (Nat.le_of_ble_eq_true rfl)) ?_
  rfl
theorem BX10_fills_3 {C : gC} {G : gG} {Q : gK} {σ : gM} {a0 : Nat} {v1 : Int32} {v2 : Int32} {v3 : Int32} {v4 : Int32} (h0 : isX10 G a0) : gw C G mX10_fills Q 3 [.ref a0, .int v1, .int v2, .int v3, .int v4] [] σ = (if v4 < v2 then (vp_in (v1 + v4) 240 ∧ gw C G mX10_fills Q 3 [.ref a0, .int v1, .int v2, .int v3, .int (v4 + 1)] [] (g_up σ (a0 + 5) (v1 + v4).toNatClampNeg v3)) else Q none σ) := by
  refine Eq.trans (e_iload dX10_fills_3 rfl) ?_
  refine Eq.trans (e_iload_n dX10_fills_5 rfl) ?_
  refine Eq.trans (e_ic_ge (t := 25) dX10_fills_6 (by decide)) (g_ite ?_ ?_)
  · refine Eq.trans (e_aload_n dX10_fills_9 rfl) ?_
    refine Eq.trans (e_getr (b := a0 + 5) dX10_fills_10 fl_10_22 (kX10 h0) (sX10_5 h0)) ?_
    refine Eq.trans (e_iload_n dX10_fills_13 rfl) ?_
    refine Eq.trans (e_iload dX10_fills_14 rfl) ?_
    refine Eq.trans (e_iadd dX10_fills_16) ?_
    refine Eq.trans (e_iload_n dX10_fills_17 rfl) ?_
    refine Eq.trans (e_iast dX10_fills_18 (aX10_5 h0) (nX10_5 h0)) (g_cj ?_)
    refine Eq.trans (e_iinc (y := 1) dX10_fills_19 rfl (by decide)) ?_
    refine Eq.trans (e_goto (t := 3) dX10_fills_22 (by decide)) ?_
    rfl
  · exact e_ret dX10_fills_25 rfl
theorem BX10_told_0 {C : gC} {G : gG} {Q : gK} {σ : gM} {a0 : Nat} {v1 : Int32} {v2 : Int32} (h0 : isX10 G a0) : gw C G mX10_told Q 0 [.ref a0, .int v1, .int v2, .long 0, .long 0] [] σ = (g_inv C mX10_isHolder [.ref a0, .int v1] σ fun r σ' => gw C G mX10_told Q 5 [.ref a0, .int v1, .int v2, .long 0, .long 0] (r.toList ++ []) σ') := by
  refine Eq.trans (e_aload_n dX10_told_0 rfl) ?_
  refine Eq.trans (e_iload_n dX10_told_1 rfl) ?_
  exact e_invv dX10_told_2 cl_10_146 (kX10 h0) (by simp) rfl rfl (by simp)
theorem BX10_told_5 {C : gC} {G : gG} {Q : gK} {σ : gM} {a0 : Nat} {v1 : Int32} {v2 : Int32} {wv3 : Value} {wv4 : Value} {s0 : Int32} (h0 : isX10 G a0) : gw C G mX10_told Q 5 [.ref a0, .int v1, .int v2, wv3, wv4] [.int s0] σ = (if s0 = 0 then Q (some (.int (-1))) σ else (vp_in v1 6 ∧ (if (σ (a0 + 11) v1.toNatClampNeg) = 2 then (g_inv C mX10_good [.ref a0, .int v2] σ fun r σ' => gw C G mX10_told Q 42 [.ref a0, .int v1, .int v2, wv3, wv4] (r.toList ++ []) σ') else (vp_in v1 6 ∧ (if (σ (a0 + 11) v1.toNatClampNeg) = 0 then Q (some (.int (-11))) σ else Q (some (.int (-12))) σ))))) := by
  refine Eq.trans (e_if_ne (t := 10) dX10_told_5 (by decide)) (g_ite ?_ ?_)
  · refine Eq.trans (e_iconst (x := (-1)) dX10_told_8 (by decide)) ?_
    exact e_ireti dX10_told_9 rfl
  · refine Eq.trans (e_aload_n dX10_told_10 rfl) ?_
    refine Eq.trans (e_getr (b := a0 + 11) dX10_told_11 fl_10_40 (kX10 h0) (sX10_12 h0)) ?_
    refine Eq.trans (e_iload_n dX10_told_14 rfl) ?_
    refine Eq.trans (e_iald dX10_told_15 (aX10_12 h0) (nX10_12 h0)) (g_cj ?_)
    refine Eq.trans (e_iconst (x := 2) dX10_told_16 (by decide)) ?_
    refine Eq.trans (e_ic_eq (t := 37) dX10_told_17 (by decide)) (g_ite ?_ ?_)
    · refine Eq.trans (e_aload_n dX10_told_37 rfl) ?_
      refine Eq.trans (e_iload_n dX10_told_38 rfl) ?_
      exact e_invv dX10_told_39 cl_10_96 (kX10 h0) (by simp) rfl rfl (by simp)
    · refine Eq.trans (e_aload_n dX10_told_20 rfl) ?_
      refine Eq.trans (e_getr (b := a0 + 11) dX10_told_21 fl_10_40 (kX10 h0) (sX10_12 h0)) ?_
      refine Eq.trans (e_iload_n dX10_told_24 rfl) ?_
      refine Eq.trans (e_iald dX10_told_25 (aX10_12 h0) (nX10_12 h0)) (g_cj ?_)
      refine Eq.trans (e_if_ne (t := 34) dX10_told_26 (by decide)) (g_ite ?_ ?_)
      · refine Eq.trans (e_bipush (x := (-11)) dX10_told_29 (by decide)) ?_
        refine Eq.trans (e_goto (t := 36) dX10_told_31 (by decide)) ?_
        exact e_ireti dX10_told_36 rfl
      · refine Eq.trans (e_bipush (x := (-12)) dX10_told_34 (by decide)) ?_
        exact e_ireti dX10_told_36 rfl
theorem BX10_told_42 {C : gC} {G : gG} {Q : gK} {σ : gM} {a0 : Nat} {v1 : Int32} {v2 : Int32} {wv3 : Value} {wv4 : Value} {s0 : Int32} (h0 : isX10 G a0) : gw C G mX10_told Q 42 [.ref a0, .int v1, .int v2, wv3, wv4] [.int s0] σ = (if s0 < 0 then Q (some (.int (-4))) σ else gw C G mX10_told Q 53 [.ref a0, .int v1, .int v2, .int s0, .int 0] [] σ) := by
  refine Eq.trans (e_istore_n dX10_told_42 (Nat.le_of_ble_eq_true rfl)) ?_
  refine Eq.trans (e_iload_n dX10_told_43 rfl) ?_
  refine Eq.trans (e_if_ge (t := 50) dX10_told_44 (by decide)) (g_ite ?_ ?_)
  · refine Eq.trans (e_bipush (x := (-4)) dX10_told_47 (by decide)) ?_
    exact e_ireti dX10_told_49 rfl
  · refine Eq.trans (e_iconst (x := 0) dX10_told_50 (by decide)) ?_
    refine Eq.trans (e_istore dX10_told_51 (Nat.le_of_ble_eq_true rfl)) ?_
    rfl
theorem BX10_told_53 {C : gC} {G : gG} {Q : gK} {σ : gM} {a0 : Nat} {v1 : Int32} {v2 : Int32} {v3 : Int32} {v4 : Int32} (h0 : isX10 G a0) : gw C G mX10_told Q 53 [.ref a0, .int v1, .int v2, .int v3, .int v4] [] σ = (vp_in v1 6 ∧ (if v4 < (σ (a0 + 13) v1.toNatClampNeg) then (g_inv C mX10_at [.ref a0, .int v3, .int 3] σ fun r σ' => gw C G mX10_told Q 72 [.ref a0, .int v1, .int v2, .int v3, .int v4] (r.toList ++ [.int v4]) σ') else (g_inv C mX10_at [.ref a0, .int v3, .int 3] σ fun r σ' => gw C G mX10_told Q 109 [.ref a0, .int v1, .int v2, .int v3, .int v4] (r.toList ++ []) σ'))) := by
  refine Eq.trans (e_iload dX10_told_53 rfl) ?_
  refine Eq.trans (e_aload_n dX10_told_55 rfl) ?_
  refine Eq.trans (e_getr (b := a0 + 13) dX10_told_56 fl_10_46 (kX10 h0) (sX10_14 h0)) ?_
  refine Eq.trans (e_iload_n dX10_told_59 rfl) ?_
  refine Eq.trans (e_iald dX10_told_60 (aX10_14 h0) (nX10_14 h0)) (g_cj ?_)
  refine Eq.trans (e_ic_ge (t := 103) dX10_told_61 (by decide)) (g_ite ?_ ?_)
  · refine Eq.trans (e_iload dX10_told_64 rfl) ?_
    refine Eq.trans (e_aload_n dX10_told_66 rfl) ?_
    refine Eq.trans (e_iload_n dX10_told_67 rfl) ?_
    refine Eq.trans (e_iconst (x := 3) dX10_told_68 (by decide)) ?_
    exact e_invv dX10_told_69 cl_10_57 (kX10 h0) (by simp) rfl rfl (by simp)
  · refine Eq.trans (e_aload_n dX10_told_103 rfl) ?_
    refine Eq.trans (e_iload_n dX10_told_104 rfl) ?_
    refine Eq.trans (e_iconst (x := 3) dX10_told_105 (by decide)) ?_
    exact e_invv dX10_told_106 cl_10_57 (kX10 h0) (by simp) rfl rfl (by simp)
theorem BX10_told_72 {C : gC} {G : gG} {Q : gK} {σ : gM} {a0 : Nat} {v1 : Int32} {v2 : Int32} {v3 : Int32} {v4 : Int32} {s0 : Int32} {s1 : Int32} (h0 : isX10 G a0) : gw C G mX10_told Q 72 [.ref a0, .int v1, .int v2, .int v3, .int v4] [.int s1, .int s0] σ = (if s0 < s1 then (g_inv C mX10_cellOf [.ref a0, .int v3, .int v4] σ fun r σ' => gw C G mX10_told Q 82 [.ref a0, .int v1, .int v2, .int v3, .int v4] (r.toList ++ []) σ') else Q (some (.int v4)) σ) := by
  refine Eq.trans (e_ic_ge (t := 94) dX10_told_72 (by decide)) (g_ite ?_ ?_)
  · refine Eq.trans (e_aload_n dX10_told_75 rfl) ?_
    refine Eq.trans (e_iload_n dX10_told_76 rfl) ?_
    refine Eq.trans (e_iload dX10_told_77 rfl) ?_
    exact e_invv dX10_told_79 cl_10_115 (kX10 h0) (by simp) rfl rfl (by simp)
  · refine Eq.trans (e_iload dX10_told_94 rfl) ?_
    exact e_ireti dX10_told_96 rfl
theorem BX10_told_82 {C : gC} {G : gG} {Q : gK} {σ : gM} {a0 : Nat} {v1 : Int32} {v2 : Int32} {v3 : Int32} {v4 : Int32} {s0 : Int32} (h0 : isX10 G a0) : gw C G mX10_told Q 82 [.ref a0, .int v1, .int v2, .int v3, .int v4] [.int s0] σ = (vp_in v1 6 ∧ (vp_in v4 60 ∧ (if s0 = (σ (a0 + 15 + v1.toNatClampNeg) v4.toNatClampNeg) then gw C G mX10_told Q 53 [.ref a0, .int v1, .int v2, .int v3, .int (v4 + 1)] [] σ else Q (some (.int v4)) σ))) := by
  refine Eq.trans (e_aload_n dX10_told_82 rfl) ?_
  refine Eq.trans (e_getr (b := a0 + 14) dX10_told_83 fl_10_51 (kX10 h0) (sX10_15 h0)) ?_
  refine Eq.trans (e_iload_n dX10_told_86 rfl) ?_
  refine Eq.trans (e_aald dX10_told_87 (aX10_15 h0) (nX10_15 h0)) (g_cjr ?_)
  intro hr
  have hr := rX10_15 h0 _ (vp_lt hr)
  rw [hr.1]
  refine Eq.trans (e_iload dX10_told_88 rfl) ?_
  refine Eq.trans (e_iald dX10_told_90 hr.2.1 hr.2.2) (g_cj ?_)
  refine Eq.trans (e_ic_eq (t := 97) dX10_told_91 (by decide)) (g_ite ?_ ?_)
  · refine Eq.trans (e_iinc (y := 1) dX10_told_97 rfl (by decide)) ?_
    refine Eq.trans (e_goto (t := 53) dX10_told_100 (by decide)) ?_
    rfl
  · refine Eq.trans (e_iload dX10_told_94 rfl) ?_
    exact e_ireti dX10_told_96 rfl
theorem BX10_told_109 {C : gC} {G : gG} {Q : gK} {σ : gM} {a0 : Nat} {v1 : Int32} {v2 : Int32} {v3 : Int32} {v4 : Int32} {s0 : Int32} (h0 : isX10 G a0) : gw C G mX10_told Q 109 [.ref a0, .int v1, .int v2, .int v3, .int v4] [.int s0] σ = (vp_in v1 6 ∧ (if (σ (a0 + 13) v1.toNatClampNeg) < s0 then (vp_in v1 6 ∧ Q (some (.int (σ (a0 + 13) v1.toNatClampNeg))) σ) else Q (some (.int (-2))) σ)) := by
  refine Eq.trans (e_aload_n dX10_told_109 rfl) ?_
  refine Eq.trans (e_getr (b := a0 + 13) dX10_told_110 fl_10_46 (kX10 h0) (sX10_14 h0)) ?_
  refine Eq.trans (e_iload_n dX10_told_113 rfl) ?_
  refine Eq.trans (e_iald dX10_told_114 (aX10_14 h0) (nX10_14 h0)) (g_cj ?_)
  refine Eq.trans (e_ic_le (t := 127) dX10_told_115 (by decide)) (g_ite ?_ ?_)
  · refine Eq.trans (e_aload_n dX10_told_118 rfl) ?_
    refine Eq.trans (e_getr (b := a0 + 13) dX10_told_119 fl_10_46 (kX10 h0) (sX10_14 h0)) ?_
    refine Eq.trans (e_iload_n dX10_told_122 rfl) ?_
    refine Eq.trans (e_iald dX10_told_123 (aX10_14 h0) (nX10_14 h0)) (g_cj ?_)
    refine Eq.trans (e_goto (t := 129) dX10_told_124 (by decide)) ?_
    exact e_ireti dX10_told_129 rfl
  · refine Eq.trans (e_bipush (x := (-2)) dX10_told_127 (by decide)) ?_
    exact e_ireti dX10_told_129 rfl
theorem BX10_feed_0 {C : gC} {G : gG} {Q : gK} {σ : gM} {a0 : Nat} {v1 : Int32} (h0 : isX10 G a0) : gw C G mX10_feed Q 0 [.ref a0, .int v1] [] σ = (g_inv C mX10_in [.int v1, .int 0, .int 255] σ fun r σ' => gw C G mX10_feed Q 8 [.ref a0, .int v1] (r.toList ++ []) σ') := by
  refine Eq.trans (e_iload_n dX10_feed_0 rfl) ?_
  refine Eq.trans (e_iconst (x := 0) dX10_feed_1 (by decide)) ?_
  refine Eq.trans (e_sipush (x := 255) dX10_feed_2 (by decide)) ?_
  exact e_invs dX10_feed_5 cl_10_65 (by decide) (by simp) rfl rfl (by simp)
theorem BX10_feed_8 {C : gC} {G : gG} {Q : gK} {σ : gM} {a0 : Nat} {v1 : Int32} {s0 : Int32} (h0 : isX10 G a0) : gw C G mX10_feed Q 8 [.ref a0, .int v1] [.int s0] σ = (if s0 = 0 then Q (some (.int (-1))) σ else (if (σ a0 11) = 120 then Q (some (.int (-3))) σ else gw C G mX10_feed Q 40 [.ref a0, .int v1] [.int (σ a0 11), .ref (a0 + 10)] (g_up σ a0 11 ((σ a0 11) + 1)))) := by
  refine Eq.trans (e_if_ne (t := 13) dX10_feed_8 (by decide)) (g_ite ?_ ?_)
  · refine Eq.trans (e_iconst (x := (-1)) dX10_feed_11 (by decide)) ?_
    exact e_ireti dX10_feed_12 rfl
  · refine Eq.trans (e_aload_n dX10_feed_13 rfl) ?_
    refine Eq.trans (e_geti dX10_feed_14 fl_10_152 (kX10 h0)) ?_
    refine Eq.trans (e_bipush (x := 120) dX10_feed_17 (by decide)) ?_
    refine Eq.trans (e_ic_ne (t := 25) dX10_feed_19 (by decide)) (g_ite ?_ ?_)
    · refine Eq.trans (e_bipush (x := (-3)) dX10_feed_22 (by decide)) ?_
      exact e_ireti dX10_feed_24 rfl
    · refine Eq.trans (e_aload_n dX10_feed_25 rfl) ?_
      refine Eq.trans (e_getr (b := a0 + 10) dX10_feed_26 fl_10_37 (kX10 h0) (sX10_10 h0)) ?_
      refine Eq.trans (e_aload_n dX10_feed_29 rfl) ?_
      refine Eq.trans (e_dup dX10_feed_30) ?_
      refine Eq.trans (e_geti dX10_feed_31 fl_10_152 (kX10 h0)) ?_
      refine Eq.trans (e_dup_x1 dX10_feed_34) ?_
      refine Eq.trans (e_iconst (x := 1) dX10_feed_35 (by decide)) ?_
      refine Eq.trans (e_iadd dX10_feed_36) ?_
      refine Eq.trans (e_puti dX10_feed_37 fl_10_152 (kX10 h0)) ?_
      rfl
theorem BX10_feed_40 {C : gC} {G : gG} {Q : gK} {σ : gM} {a0 : Nat} {v1 : Int32} {s1 : Int32} (h0 : isX10 G a0) : gw C G mX10_feed Q 40 [.ref a0, .int v1] [.int s1, .ref (a0 + 10)] σ = (vp_in s1 120 ∧ gw C G mX10_feed Q 42 [.ref a0, .int v1] [] (g_up σ (a0 + 10) s1.toNatClampNeg v1)) := by
  refine Eq.trans (e_iload_n dX10_feed_40 rfl) ?_
  refine Eq.trans (e_iast dX10_feed_41 (aX10_10 h0) (nX10_10 h0)) (g_cj ?_)
  rfl
theorem BX10_feed_42 {C : gC} {G : gG} {Q : gK} {σ : gM} {a0 : Nat} {v1 : Int32} (h0 : isX10 G a0) : gw C G mX10_feed Q 42 [.ref a0, .int v1] [] σ = Q (some (.int (σ a0 11))) σ := by
  refine Eq.trans (e_aload_n dX10_feed_42 rfl) ?_
  refine Eq.trans (e_geti dX10_feed_43 fl_10_152 (kX10 h0)) ?_
  exact e_ireti dX10_feed_46 rfl
theorem BX10_script_0 {C : gC} {G : gG} {Q : gK} {σ : gM} {a0 : Nat} (h0 : isX10 G a0) : gw C G mX10_script Q 0 [.ref a0, .long 0, .long 0] [] σ = (g_inv C mX10_isForm [.ref a0] σ fun r σ' => gw C G mX10_script Q 4 [.ref a0, .long 0, .long 0] (r.toList ++ []) σ') := by
  refine Eq.trans (e_aload_n dX10_script_0 rfl) ?_
  exact e_invv dX10_script_1 cl_10_208 (kX10 h0) (by simp) rfl rfl (by simp)
theorem BX10_script_4 {C : gC} {G : gG} {Q : gK} {σ : gM} {a0 : Nat} {wv1 : Value} {wv2 : Value} {s0 : Int32} (h0 : isX10 G a0) : gw C G mX10_script Q 4 [.ref a0, wv1, wv2] [.int s0] σ = (if s0 = 0 then gw C G mX10_script Q 12 [.ref a0, wv1, wv2] [] (g_up σ a0 11 0) else (g_inv C mX10_take [.ref (a0 + 1), .ref (a0 + 3)] σ fun r σ' => gw C G mX10_script Q 32 [.ref a0, wv1, wv2] (r.toList ++ []) σ')) := by
  refine Eq.trans (e_if_ne (t := 21) dX10_script_4 (by decide)) (g_ite ?_ ?_)
  · refine Eq.trans (e_aload_n dX10_script_7 rfl) ?_
    refine Eq.trans (e_iconst (x := 0) dX10_script_8 (by decide)) ?_
    refine Eq.trans (e_puti dX10_script_9 fl_10_152 (kX10 h0)) ?_
    rfl
  · refine Eq.trans (e_aload_n dX10_script_21 rfl) ?_
    refine Eq.trans (e_getr (b := a0 + 1) dX10_script_22 fl_10_9 (kX10 h0) (sX10_0 h0)) ?_
    refine Eq.trans (e_aload_n dX10_script_25 rfl) ?_
    refine Eq.trans (e_getr (b := a0 + 3) dX10_script_26 fl_10_16 (kX10 h0) (sX10_2 h0)) ?_
    exact e_invs dX10_script_29 cl_10_139 (by decide) (by simp) rfl rfl (by simp)
theorem BX10_script_12 {C : gC} {G : gG} {Q : gK} {σ : gM} {a0 : Nat} {wv1 : Value} {wv2 : Value} (h0 : isX10 G a0) : gw C G mX10_script Q 12 [.ref a0, wv1, wv2] [] σ = Q (some (.int ((-1000) - (σ a0 17)))) σ := by
  refine Eq.trans (e_sipush (x := (-1000)) dX10_script_12 (by decide)) ?_
  refine Eq.trans (e_aload_n dX10_script_15 rfl) ?_
  refine Eq.trans (e_geti dX10_script_16 fl_10_156 (kX10 h0)) ?_
  refine Eq.trans (e_isub dX10_script_19) ?_
  exact e_ireti dX10_script_20 rfl
theorem BX10_script_32 {C : gC} {G : gG} {Q : gK} {σ : gM} {a0 : Nat} {wv1 : Value} {wv2 : Value} (h0 : isX10 G a0) : gw C G mX10_script Q 32 [.ref a0, wv1, wv2] [] σ = gw C G mX10_script Q 41 [.ref a0, .int 0, .int 1] [] (g_up σ a0 16 0) := by
  refine Eq.trans (e_aload_n dX10_script_32 rfl) ?_
  refine Eq.trans (e_iconst (x := 0) dX10_script_33 (by decide)) ?_
  refine Eq.trans (e_puti dX10_script_34 fl_10_159 (kX10 h0)) ?_
  refine Eq.trans (e_iconst (x := 0) dX10_script_37 (by decide)) ?_
  refine Eq.trans (e_istore_n dX10_script_38 (Nat.le_of_ble_eq_true rfl)) ?_
  refine Eq.trans (e_iconst (x := 1) dX10_script_39 (by decide)) ?_
  refine Eq.trans (e_istore_n dX10_script_40 (Nat.le_of_ble_eq_true rfl)) ?_
  rfl
theorem BX10_script_41 {C : gC} {G : gG} {Q : gK} {σ : gM} {a0 : Nat} {v1 : Int32} {v2 : Int32} (h0 : isX10 G a0) : gw C G mX10_script Q 41 [.ref a0, .int v1, .int v2] [] σ = (if v2 = 0 then gw C G mX10_script Q 97 [.ref a0, .int v1, .int v2] [] σ else (if (σ a0 16) < (σ a0 11) then (if 0 < v1 then gw C G mX10_script Q 70 [.ref a0, .int v1, .int v2] [.int 1, .int (σ a0 16), .ref a0] σ else gw C G mX10_script Q 70 [.ref a0, .int v1, .int v2] [.int 0, .int (σ a0 16), .ref a0] σ) else gw C G mX10_script Q 97 [.ref a0, .int v1, .int v2] [] σ)) := by
  refine Eq.trans (e_iload_n dX10_script_41 rfl) ?_
  refine Eq.trans (e_if_eq (t := 97) dX10_script_42 (by decide)) (g_ite ?_ ?_)
  · rfl
  · refine Eq.trans (e_aload_n dX10_script_45 rfl) ?_
    refine Eq.trans (e_geti dX10_script_46 fl_10_159 (kX10 h0)) ?_
    refine Eq.trans (e_aload_n dX10_script_49 rfl) ?_
    refine Eq.trans (e_geti dX10_script_50 fl_10_152 (kX10 h0)) ?_
    refine Eq.trans (e_ic_ge (t := 97) dX10_script_53 (by decide)) (g_ite ?_ ?_)
    · refine Eq.trans (e_aload_n dX10_script_56 rfl) ?_
      refine Eq.trans (e_dup dX10_script_57) ?_
      refine Eq.trans (e_geti dX10_script_58 fl_10_159 (kX10 h0)) ?_
      refine Eq.trans (e_iload_n dX10_script_61 rfl) ?_
      refine Eq.trans (e_if_le (t := 69) dX10_script_62 (by decide)) (g_ite ?_ ?_)
      · refine Eq.trans (e_iconst (x := 1) dX10_script_65 (by decide)) ?_
        refine Eq.trans (e_goto (t := 70) dX10_script_66 (by decide)) ?_
        rfl
      · refine Eq.trans (e_iconst (x := 0) dX10_script_69 (by decide)) ?_
        rfl
    · rfl
theorem BX10_script_70 {C : gC} {G : gG} {Q : gK} {σ : gM} {a0 : Nat} {v1 : Int32} {v2 : Int32} {s1 : Int32} {s2 : Int32} (h0 : isX10 G a0) : gw C G mX10_script Q 70 [.ref a0, .int v1, .int v2] [.int s2, .int s1, .ref a0] σ = gw C G mX10_script Q 74 [.ref a0, .int v1, .int v2] [] (g_up σ a0 16 (s1 + s2)) := by
  refine Eq.trans (e_iadd dX10_script_70) ?_
  refine Eq.trans (e_puti dX10_script_71 fl_10_159 (kX10 h0)) ?_
  rfl
theorem BX10_script_74 {C : gC} {G : gG} {Q : gK} {σ : gM} {a0 : Nat} {v1 : Int32} {v2 : Int32} (h0 : isX10 G a0) : gw C G mX10_script Q 74 [.ref a0, .int v1, .int v2] [] σ = (g_inv C mX10_line [.ref a0] σ fun r σ' => gw C G mX10_script Q 79 [.ref a0, .int v1, .int v2] (r.toList ++ [.ref a0]) σ') := by
  refine Eq.trans (e_aload_n dX10_script_74 rfl) ?_
  refine Eq.trans (e_aload_n dX10_script_75 rfl) ?_
  exact e_invv dX10_script_76 cl_10_174 (kX10 h0) (by simp) rfl rfl (by simp)
theorem BX10_script_79 {C : gC} {G : gG} {Q : gK} {σ : gM} {a0 : Nat} {v1 : Int32} {v2 : Int32} {s1 : Int32} (h0 : isX10 G a0) : gw C G mX10_script Q 79 [.ref a0, .int v1, .int v2] [.int s1, .ref a0] σ = (g_inv C mX10_does [.ref a0, .int s1] σ fun r σ' => gw C G mX10_script Q 82 [.ref a0, .int v1, .int v2] (r.toList ++ []) σ') := by
  exact e_invv dX10_script_79 cl_10_212 (kX10 h0) (by simp) rfl rfl (by simp)
theorem BX10_script_82 {C : gC} {G : gG} {Q : gK} {σ : gM} {a0 : Nat} {v1 : Int32} {v2 : Int32} {s0 : Int32} (h0 : isX10 G a0) : gw C G mX10_script Q 82 [.ref a0, .int v1, .int v2] [.int s0] σ = (if s0 < 0 then gw C G mX10_script Q 41 [.ref a0, .int (v1 + 1), .int 0] [] σ else gw C G mX10_script Q 41 [.ref a0, .int (v1 + 1), .int 1] [] σ) := by
  refine Eq.trans (e_if_lt (t := 89) dX10_script_82 (by decide)) (g_ite ?_ ?_)
  · refine Eq.trans (e_iconst (x := 0) dX10_script_89 (by decide)) ?_
    refine Eq.trans (e_istore_n dX10_script_90 (Nat.le_of_ble_eq_true rfl)) ?_
    refine Eq.trans (e_iinc (y := 1) dX10_script_91 rfl (by decide)) ?_
    refine Eq.trans (e_goto (t := 41) dX10_script_94 (by decide)) ?_
    rfl
  · refine Eq.trans (e_iconst (x := 1) dX10_script_85 (by decide)) ?_
    refine Eq.trans (e_goto (t := 90) dX10_script_86 (by decide)) ?_
    refine Eq.trans (e_istore_n dX10_script_90 (Nat.le_of_ble_eq_true rfl)) ?_
    refine Eq.trans (e_iinc (y := 1) dX10_script_91 rfl (by decide)) ?_
    refine Eq.trans (e_goto (t := 41) dX10_script_94 (by decide)) ?_
    rfl
theorem BX10_script_97 {C : gC} {G : gG} {Q : gK} {σ : gM} {a0 : Nat} {v1 : Int32} {v2 : Int32} (h0 : isX10 G a0) : gw C G mX10_script Q 97 [.ref a0, .int v1, .int v2] [] σ = gw C G mX10_script Q 102 [.ref a0, .int v1, .int v2] [] (g_up σ a0 11 0) := by
  refine Eq.trans (e_aload_n dX10_script_97 rfl) ?_
  refine Eq.trans (e_iconst (x := 0) dX10_script_98 (by decide)) ?_
  refine Eq.trans (e_puti dX10_script_99 fl_10_152 (kX10 h0)) ?_
  rfl
theorem BX10_script_102 {C : gC} {G : gG} {Q : gK} {σ : gM} {a0 : Nat} {v1 : Int32} {v2 : Int32} (h0 : isX10 G a0) : gw C G mX10_script Q 102 [.ref a0, .int v1, .int v2] [] σ = (if v2 = 0 then (g_inv C mX10_take [.ref (a0 + 3), .ref (a0 + 1)] σ fun r σ' => gw C G mX10_script Q 117 [.ref a0, .int v1, .int v2] (r.toList ++ []) σ') else Q (some (.int v1)) σ) := by
  refine Eq.trans (e_iload_n dX10_script_102 rfl) ?_
  refine Eq.trans (e_if_ne (t := 125) dX10_script_103 (by decide)) (g_ite ?_ ?_)
  · refine Eq.trans (e_aload_n dX10_script_106 rfl) ?_
    refine Eq.trans (e_getr (b := a0 + 3) dX10_script_107 fl_10_16 (kX10 h0) (sX10_2 h0)) ?_
    refine Eq.trans (e_aload_n dX10_script_110 rfl) ?_
    refine Eq.trans (e_getr (b := a0 + 1) dX10_script_111 fl_10_9 (kX10 h0) (sX10_0 h0)) ?_
    exact e_invs dX10_script_114 cl_10_139 (by decide) (by simp) rfl rfl (by simp)
  · refine Eq.trans (e_iload_n dX10_script_125 rfl) ?_
    exact e_ireti dX10_script_126 rfl
theorem BX10_script_117 {C : gC} {G : gG} {Q : gK} {σ : gM} {a0 : Nat} {v1 : Int32} {v2 : Int32} (h0 : isX10 G a0) : gw C G mX10_script Q 117 [.ref a0, .int v1, .int v2] [] σ = Q (some (.int ((-2000) - (v1 - 1)))) σ := by
  refine Eq.trans (e_sipush (x := (-2000)) dX10_script_117 (by decide)) ?_
  refine Eq.trans (e_iload_n dX10_script_120 rfl) ?_
  refine Eq.trans (e_iconst (x := 1) dX10_script_121 (by decide)) ?_
  refine Eq.trans (e_isub dX10_script_122) ?_
  refine Eq.trans (e_isub dX10_script_123) ?_
  exact e_ireti dX10_script_124 rfl
theorem BX10_isForm_0 {C : gC} {G : gG} {Q : gK} {σ : gM} {a0 : Nat} (h0 : isX10 G a0) : gw C G mX10_isForm Q 0 [.ref a0] [] σ = gw C G mX10_isForm Q 5 [.ref a0] [] (g_up σ a0 16 0) := by
  refine Eq.trans (e_aload_n dX10_isForm_0 rfl) ?_
  refine Eq.trans (e_iconst (x := 0) dX10_isForm_1 (by decide)) ?_
  refine Eq.trans (e_puti dX10_isForm_2 fl_10_159 (kX10 h0)) ?_
  rfl
theorem BX10_isForm_5 {C : gC} {G : gG} {Q : gK} {σ : gM} {a0 : Nat} (h0 : isX10 G a0) : gw C G mX10_isForm Q 5 [.ref a0] [] σ = gw C G mX10_isForm Q 10 [.ref a0] [] (g_up σ a0 17 (-1)) := by
  refine Eq.trans (e_aload_n dX10_isForm_5 rfl) ?_
  refine Eq.trans (e_iconst (x := (-1)) dX10_isForm_6 (by decide)) ?_
  refine Eq.trans (e_puti dX10_isForm_7 fl_10_156 (kX10 h0)) ?_
  rfl
theorem BX10_isForm_10 {C : gC} {G : gG} {Q : gK} {σ : gM} {a0 : Nat} (h0 : isX10 G a0) : gw C G mX10_isForm Q 10 [.ref a0] [] σ = (g_inv C mX10_line [.ref a0] σ fun r σ' => gw C G mX10_isForm Q 14 [.ref a0] (r.toList ++ []) σ') := by
  refine Eq.trans (e_aload_n dX10_isForm_10 rfl) ?_
  exact e_invv dX10_isForm_11 cl_10_174 (kX10 h0) (by simp) rfl rfl (by simp)
theorem BX10_isForm_14 {C : gC} {G : gG} {Q : gK} {σ : gM} {a0 : Nat} {s0 : Int32} (h0 : isX10 G a0) : gw C G mX10_isForm Q 14 [.ref a0] [.int s0] σ = gw C G mX10_isForm Q 15 [.ref a0] [] σ := by
  refine Eq.trans (e_pop dX10_isForm_14) ?_
  rfl
theorem BX10_isForm_15 {C : gC} {G : gG} {Q : gK} {σ : gM} {a0 : Nat} (h0 : isX10 G a0) : gw C G mX10_isForm Q 15 [.ref a0] [] σ = (if (σ a0 17) < 0 then (if (σ a0 16) < (σ a0 11) then (g_inv C mX10_must [.ref a0, .int 59, .int 59] σ fun r σ' => gw C G mX10_isForm Q 41 [.ref a0] (r.toList ++ []) σ') else gw C G mX10_isForm Q 50 [.ref a0] [] σ) else gw C G mX10_isForm Q 50 [.ref a0] [] σ) := by
  refine Eq.trans (e_aload_n dX10_isForm_15 rfl) ?_
  refine Eq.trans (e_geti dX10_isForm_16 fl_10_156 (kX10 h0)) ?_
  refine Eq.trans (e_if_ge (t := 50) dX10_isForm_19 (by decide)) (g_ite ?_ ?_)
  · refine Eq.trans (e_aload_n dX10_isForm_22 rfl) ?_
    refine Eq.trans (e_geti dX10_isForm_23 fl_10_159 (kX10 h0)) ?_
    refine Eq.trans (e_aload_n dX10_isForm_26 rfl) ?_
    refine Eq.trans (e_geti dX10_isForm_27 fl_10_152 (kX10 h0)) ?_
    refine Eq.trans (e_ic_ge (t := 50) dX10_isForm_30 (by decide)) (g_ite ?_ ?_)
    · refine Eq.trans (e_aload_n dX10_isForm_33 rfl) ?_
      refine Eq.trans (e_bipush (x := 59) dX10_isForm_34 (by decide)) ?_
      refine Eq.trans (e_bipush (x := 59) dX10_isForm_36 (by decide)) ?_
      exact e_invv dX10_isForm_38 cl_10_165 (kX10 h0) (by simp) rfl rfl (by simp)
    · rfl
  · rfl
theorem BX10_isForm_41 {C : gC} {G : gG} {Q : gK} {σ : gM} {a0 : Nat} {s0 : Int32} (h0 : isX10 G a0) : gw C G mX10_isForm Q 41 [.ref a0] [.int s0] σ = (g_inv C mX10_line [.ref a0] σ fun r σ' => gw C G mX10_isForm Q 46 [.ref a0] (r.toList ++ []) σ') := by
  refine Eq.trans (e_pop dX10_isForm_41) ?_
  refine Eq.trans (e_aload_n dX10_isForm_42 rfl) ?_
  exact e_invv dX10_isForm_43 cl_10_174 (kX10 h0) (by simp) rfl rfl (by simp)
theorem BX10_isForm_46 {C : gC} {G : gG} {Q : gK} {σ : gM} {a0 : Nat} {s0 : Int32} (h0 : isX10 G a0) : gw C G mX10_isForm Q 46 [.ref a0] [.int s0] σ = gw C G mX10_isForm Q 15 [.ref a0] [] σ := by
  refine Eq.trans (e_pop dX10_isForm_46) ?_
  refine Eq.trans (e_goto (t := 15) dX10_isForm_47 (by decide)) ?_
  rfl
theorem BX10_isForm_50 {C : gC} {G : gG} {Q : gK} {σ : gM} {a0 : Nat} (h0 : isX10 G a0) : gw C G mX10_isForm Q 50 [.ref a0] [] σ = (if (σ a0 17) < 0 then Q (some (.int 1)) σ else Q (some (.int 0)) σ) := by
  refine Eq.trans (e_aload_n dX10_isForm_50 rfl) ?_
  refine Eq.trans (e_geti dX10_isForm_51 fl_10_156 (kX10 h0)) ?_
  refine Eq.trans (e_if_ge (t := 61) dX10_isForm_54 (by decide)) (g_ite ?_ ?_)
  · refine Eq.trans (e_iconst (x := 1) dX10_isForm_57 (by decide)) ?_
    refine Eq.trans (e_goto (t := 62) dX10_isForm_58 (by decide)) ?_
    exact Eq.trans (e_iretz dX10_isForm_62 rfl) (g_and (by decide))
  · refine Eq.trans (e_iconst (x := 0) dX10_isForm_61 (by decide)) ?_
    exact Eq.trans (e_iretz dX10_isForm_62 rfl) (g_and (by decide))
theorem BX10_line_0 {C : gC} {G : gG} {Q : gK} {σ : gM} {a0 : Nat} (h0 : isX10 G a0) : gw C G mX10_line Q 0 [.ref a0, .long 0, .long 0, .long 0] [] σ = (if (σ a0 17) < 0 then (if (σ a0 16) < (σ a0 11) then (vp_in (σ a0 16) 120 ∧ gw C G mX10_line Q 31 [.ref a0, .long 0, .long 0, .long 0] [.int (σ (a0 + 10) (σ a0 16).toNatClampNeg)] σ) else gw C G mX10_line Q 30 [.ref a0, .long 0, .long 0, .long 0] [] σ) else gw C G mX10_line Q 30 [.ref a0, .long 0, .long 0, .long 0] [] σ) := by
  refine Eq.trans (e_aload_n dX10_line_0 rfl) ?_
  refine Eq.trans (e_geti dX10_line_1 fl_10_156 (kX10 h0)) ?_
  refine Eq.trans (e_if_ge (t := 30) dX10_line_4 (by decide)) (g_ite ?_ ?_)
  · refine Eq.trans (e_aload_n dX10_line_7 rfl) ?_
    refine Eq.trans (e_geti dX10_line_8 fl_10_159 (kX10 h0)) ?_
    refine Eq.trans (e_aload_n dX10_line_11 rfl) ?_
    refine Eq.trans (e_geti dX10_line_12 fl_10_152 (kX10 h0)) ?_
    refine Eq.trans (e_ic_ge (t := 30) dX10_line_15 (by decide)) (g_ite ?_ ?_)
    · refine Eq.trans (e_aload_n dX10_line_18 rfl) ?_
      refine Eq.trans (e_getr (b := a0 + 10) dX10_line_19 fl_10_37 (kX10 h0) (sX10_10 h0)) ?_
      refine Eq.trans (e_aload_n dX10_line_22 rfl) ?_
      refine Eq.trans (e_geti dX10_line_23 fl_10_159 (kX10 h0)) ?_
      refine Eq.trans (e_iald dX10_line_26 (aX10_10 h0) (nX10_10 h0)) (g_cj ?_)
      refine Eq.trans (e_goto (t := 31) dX10_line_27 (by decide)) ?_
      rfl
    · rfl
  · rfl
theorem BX10_line_30 {C : gC} {G : gG} {Q : gK} {σ : gM} {a0 : Nat} {wv1 : Value} {wv2 : Value} {wv3 : Value} (h0 : isX10 G a0) : gw C G mX10_line Q 30 [.ref a0, wv1, wv2, wv3] [] σ = gw C G mX10_line Q 31 [.ref a0, wv1, wv2, wv3] [.int 0] σ := by
  refine Eq.trans (e_iconst (x := 0) dX10_line_30 (by decide)) ?_
  rfl
theorem BX10_line_31 {C : gC} {G : gG} {Q : gK} {σ : gM} {a0 : Nat} {wv1 : Value} {wv2 : Value} {wv3 : Value} {s0 : Int32} (h0 : isX10 G a0) : gw C G mX10_line Q 31 [.ref a0, wv1, wv2, wv3] [.int s0] σ = (g_inv C mX10_manyOf [.int s0] σ fun r σ' => gw C G mX10_line Q 36 [.ref a0, .int s0, wv2, wv3] (r.toList ++ []) σ') := by
  refine Eq.trans (e_istore_n dX10_line_31 (Nat.le_of_ble_eq_true rfl)) ?_
  refine Eq.trans (e_iload_n dX10_line_32 rfl) ?_
  exact e_invs dX10_line_33 cl_10_168 (by decide) (by simp) rfl rfl (by simp)
theorem BX10_line_36 {C : gC} {G : gG} {Q : gK} {σ : gM} {a0 : Nat} {v1 : Int32} {wv2 : Value} {wv3 : Value} {s0 : Int32} (h0 : isX10 G a0) : gw C G mX10_line Q 36 [.ref a0, .int v1, wv2, wv3] [.int s0] σ = (if s0 < 0 then (if (σ a0 17) < 0 then Q (some (.int 0)) (g_up σ a0 17 (σ a0 16)) else Q (some (.int 0)) (g_up σ a0 17 (σ a0 17))) else gw C G mX10_line Q 77 [.ref a0, .int v1, .int s0, .int 0] [] (g_up σ a0 16 ((σ a0 16) + 1))) := by
  refine Eq.trans (e_istore_n dX10_line_36 (Nat.le_of_ble_eq_true rfl)) ?_
  refine Eq.trans (e_iload_n dX10_line_37 rfl) ?_
  refine Eq.trans (e_if_ge (t := 65) dX10_line_38 (by decide)) (g_ite ?_ ?_)
  · refine Eq.trans (e_aload_n dX10_line_41 rfl) ?_
    refine Eq.trans (e_aload_n dX10_line_42 rfl) ?_
    refine Eq.trans (e_geti dX10_line_43 fl_10_156 (kX10 h0)) ?_
    refine Eq.trans (e_if_ge (t := 56) dX10_line_46 (by decide)) (g_ite ?_ ?_)
    · refine Eq.trans (e_aload_n dX10_line_49 rfl) ?_
      refine Eq.trans (e_geti dX10_line_50 fl_10_159 (kX10 h0)) ?_
      refine Eq.trans (e_goto (t := 60) dX10_line_53 (by decide)) ?_
      refine Eq.trans (e_puti dX10_line_60 fl_10_156 (kX10 h0)) ?_
      refine Eq.trans (e_iconst (x := 0) dX10_line_63 (by decide)) ?_
      exact e_ireti dX10_line_64 rfl
    · refine Eq.trans (e_aload_n dX10_line_56 rfl) ?_
      refine Eq.trans (e_geti dX10_line_57 fl_10_156 (kX10 h0)) ?_
      refine Eq.trans (e_puti dX10_line_60 fl_10_156 (kX10 h0)) ?_
      refine Eq.trans (e_iconst (x := 0) dX10_line_63 (by decide)) ?_
      exact e_ireti dX10_line_64 rfl
  · refine Eq.trans (e_aload_n dX10_line_65 rfl) ?_
    refine Eq.trans (e_dup dX10_line_66) ?_
    refine Eq.trans (e_geti dX10_line_67 fl_10_159 (kX10 h0)) ?_
    refine Eq.trans (e_iconst (x := 1) dX10_line_70 (by decide)) ?_
    refine Eq.trans (e_iadd dX10_line_71) ?_
    refine Eq.trans (e_puti dX10_line_72 fl_10_159 (kX10 h0)) ?_
    refine Eq.trans (e_iconst (x := 0) dX10_line_75 (by decide)) ?_
    refine Eq.trans (e_istore_n dX10_line_76 (Nat.le_of_ble_eq_true rfl)) ?_
    rfl
theorem BX10_line_77 {C : gC} {G : gG} {Q : gK} {σ : gM} {a0 : Nat} {v1 : Int32} {v2 : Int32} {v3 : Int32} (h0 : isX10 G a0) : gw C G mX10_line Q 77 [.ref a0, .int v1, .int v2, .int v3] [] σ = (if v3 < v2 then (g_inv C mX10_number [.ref a0] σ fun r σ' => gw C G mX10_line Q 91 [.ref a0, .int v1, .int v2, .int v3] (r.toList ++ [.int v3, .ref (a0 + 21)]) σ') else Q (some (.int v1)) σ) := by
  refine Eq.trans (e_iload_n dX10_line_77 rfl) ?_
  refine Eq.trans (e_iload_n dX10_line_78 rfl) ?_
  refine Eq.trans (e_ic_ge (t := 98) dX10_line_79 (by decide)) (g_ite ?_ ?_)
  · refine Eq.trans (e_aload_n dX10_line_82 rfl) ?_
    refine Eq.trans (e_getr (b := a0 + 21) dX10_line_83 fl_10_54 (kX10 h0) (sX10_18 h0)) ?_
    refine Eq.trans (e_iload_n dX10_line_86 rfl) ?_
    refine Eq.trans (e_aload_n dX10_line_87 rfl) ?_
    exact e_invv dX10_line_88 cl_10_171 (kX10 h0) (by simp) rfl rfl (by simp)
  · refine Eq.trans (e_iload_n dX10_line_98 rfl) ?_
    exact e_ireti dX10_line_99 rfl
theorem BX10_line_91 {C : gC} {G : gG} {Q : gK} {σ : gM} {a0 : Nat} {v1 : Int32} {v2 : Int32} {v3 : Int32} {s1 : Int32} {s2 : Int32} (h0 : isX10 G a0) : gw C G mX10_line Q 91 [.ref a0, .int v1, .int v2, .int v3] [.int s2, .int s1, .ref (a0 + 21)] σ = (vp_in s1 3 ∧ gw C G mX10_line Q 77 [.ref a0, .int v1, .int v2, .int (v3 + 1)] [] (g_up σ (a0 + 21) s1.toNatClampNeg s2)) := by
  refine Eq.trans (e_iast dX10_line_91 (aX10_18 h0) (nX10_18 h0)) (g_cj ?_)
  refine Eq.trans (e_iinc (y := 1) dX10_line_92 rfl (by decide)) ?_
  refine Eq.trans (e_goto (t := 77) dX10_line_95 (by decide)) ?_
  rfl
theorem BX10_manyOf_0 {C : gC} {G : gG} {Q : gK} {σ : gM} {v0 : Int32}  : gw C G mX10_manyOf Q 0 [.int v0] [] σ = (if v0 = 98 then Q (some (.int 3)) σ else (if v0 = 99 then Q (some (.int (-2))) σ else (if v0 = 100 then Q (some (.int (-2))) σ else (if v0 = 101 then Q (some (.int 0)) σ else (if v0 = 102 then Q (some (.int 1)) σ else (if v0 = 103 then Q (some (.int (-2))) σ else (if v0 = 104 then Q (some (.int (-2))) σ else (if v0 = 105 then Q (some (.int 1)) σ else (if v0 = 106 then Q (some (.int (-2))) σ else (if v0 = 107 then Q (some (.int (-2))) σ else (if v0 = 108 then Q (some (.int (-2))) σ else (if v0 = 109 then Q (some (.int 2)) σ else (if v0 = 110 then Q (some (.int (-2))) σ else (if v0 = 111 then Q (some (.int 1)) σ else (if v0 = 112 then Q (some (.int 1)) σ else (if v0 = 113 then Q (some (.int (-2))) σ else (if v0 = 114 then Q (some (.int 2)) σ else (if v0 = 115 then Q (some (.int (-2))) σ else (if v0 = 116 then Q (some (.int 3)) σ else (if v0 = 117 then Q (some (.int 1)) σ else Q (some (.int (-2))) σ)))))))))))))))))))) := by
  refine Eq.trans (e_iload_n dX10_manyOf_0 rfl) ?_
  refine Eq.trans (e_switch dX10_manyOf_1 (by decide)) ?_
  refine Eq.trans (g_sw1 (y := 98) (t := 96) (by decide) (by decide) (g_sw1 (y := 99) (t := 104) (by decide) (by decide) (g_sw1 (y := 100) (t := 104) (by decide) (by decide) (g_sw1 (y := 101) (t := 102) (by decide) (by decide) (g_sw1 (y := 102) (t := 100) (by decide) (by decide) (g_sw1 (y := 103) (t := 104) (by decide) (by decide) (g_sw1 (y := 104) (t := 104) (by decide) (by decide) (g_sw1 (y := 105) (t := 100) (by decide) (by decide) (g_sw1 (y := 106) (t := 104) (by decide) (by decide) (g_sw1 (y := 107) (t := 104) (by decide) (by decide) (g_sw1 (y := 108) (t := 104) (by decide) (by decide) (g_sw1 (y := 109) (t := 98) (by decide) (by decide) (g_sw1 (y := 110) (t := 104) (by decide) (by decide) (g_sw1 (y := 111) (t := 100) (by decide) (by decide) (g_sw1 (y := 112) (t := 100) (by decide) (by decide) (g_sw1 (y := 113) (t := 104) (by decide) (by decide) (g_sw1 (y := 114) (t := 98) (by decide) (by decide) (g_sw1 (y := 115) (t := 104) (by decide) (by decide) (g_sw1 (y := 116) (t := 96) (by decide) (by decide) (g_sw1 (y := 117) (t := 100) (by decide) (by decide) (g_sw0 (t := 104) (by decide)))))))))))))))))))))) ?_
  refine g_ite ?_ (g_ite ?_ (g_ite ?_ (g_ite ?_ (g_ite ?_ (g_ite ?_ (g_ite ?_ (g_ite ?_ (g_ite ?_ (g_ite ?_ (g_ite ?_ (g_ite ?_ (g_ite ?_ (g_ite ?_ (g_ite ?_ (g_ite ?_ (g_ite ?_ (g_ite ?_ (g_ite ?_ (g_ite ?_ (?_))))))))))))))))))))
  · refine Eq.trans (e_iconst (x := 3) dX10_manyOf_96 (by decide)) ?_
    exact e_ireti dX10_manyOf_97 rfl
  · refine Eq.trans (e_bipush (x := (-2)) dX10_manyOf_104 (by decide)) ?_
    exact e_ireti dX10_manyOf_106 rfl
  · refine Eq.trans (e_bipush (x := (-2)) dX10_manyOf_104 (by decide)) ?_
    exact e_ireti dX10_manyOf_106 rfl
  · refine Eq.trans (e_iconst (x := 0) dX10_manyOf_102 (by decide)) ?_
    exact e_ireti dX10_manyOf_103 rfl
  · refine Eq.trans (e_iconst (x := 1) dX10_manyOf_100 (by decide)) ?_
    exact e_ireti dX10_manyOf_101 rfl
  · refine Eq.trans (e_bipush (x := (-2)) dX10_manyOf_104 (by decide)) ?_
    exact e_ireti dX10_manyOf_106 rfl
  · refine Eq.trans (e_bipush (x := (-2)) dX10_manyOf_104 (by decide)) ?_
    exact e_ireti dX10_manyOf_106 rfl
  · refine Eq.trans (e_iconst (x := 1) dX10_manyOf_100 (by decide)) ?_
    exact e_ireti dX10_manyOf_101 rfl
  · refine Eq.trans (e_bipush (x := (-2)) dX10_manyOf_104 (by decide)) ?_
    exact e_ireti dX10_manyOf_106 rfl
  · refine Eq.trans (e_bipush (x := (-2)) dX10_manyOf_104 (by decide)) ?_
    exact e_ireti dX10_manyOf_106 rfl
  · refine Eq.trans (e_bipush (x := (-2)) dX10_manyOf_104 (by decide)) ?_
    exact e_ireti dX10_manyOf_106 rfl
  · refine Eq.trans (e_iconst (x := 2) dX10_manyOf_98 (by decide)) ?_
    exact e_ireti dX10_manyOf_99 rfl
  · refine Eq.trans (e_bipush (x := (-2)) dX10_manyOf_104 (by decide)) ?_
    exact e_ireti dX10_manyOf_106 rfl
  · refine Eq.trans (e_iconst (x := 1) dX10_manyOf_100 (by decide)) ?_
    exact e_ireti dX10_manyOf_101 rfl
  · refine Eq.trans (e_iconst (x := 1) dX10_manyOf_100 (by decide)) ?_
    exact e_ireti dX10_manyOf_101 rfl
  · refine Eq.trans (e_bipush (x := (-2)) dX10_manyOf_104 (by decide)) ?_
    exact e_ireti dX10_manyOf_106 rfl
  · refine Eq.trans (e_iconst (x := 2) dX10_manyOf_98 (by decide)) ?_
    exact e_ireti dX10_manyOf_99 rfl
  · refine Eq.trans (e_bipush (x := (-2)) dX10_manyOf_104 (by decide)) ?_
    exact e_ireti dX10_manyOf_106 rfl
  · refine Eq.trans (e_iconst (x := 3) dX10_manyOf_96 (by decide)) ?_
    exact e_ireti dX10_manyOf_97 rfl
  · refine Eq.trans (e_iconst (x := 1) dX10_manyOf_100 (by decide)) ?_
    exact e_ireti dX10_manyOf_101 rfl
  · refine Eq.trans (e_bipush (x := (-2)) dX10_manyOf_104 (by decide)) ?_
    exact e_ireti dX10_manyOf_106 rfl
theorem BX10_number_0 {C : gC} {G : gG} {Q : gK} {σ : gM} {a0 : Nat} (h0 : isX10 G a0) : gw C G mX10_number Q 0 [.ref a0, .long 0, .long 0] [] σ = (g_inv C mX10_must [.ref a0, .int 32, .int 32] σ fun r σ' => gw C G mX10_number Q 8 [.ref a0, .long 0, .long 0] (r.toList ++ []) σ') := by
  refine Eq.trans (e_aload_n dX10_number_0 rfl) ?_
  refine Eq.trans (e_bipush (x := 32) dX10_number_1 (by decide)) ?_
  refine Eq.trans (e_bipush (x := 32) dX10_number_3 (by decide)) ?_
  exact e_invv dX10_number_5 cl_10_165 (kX10 h0) (by simp) rfl rfl (by simp)
theorem BX10_number_8 {C : gC} {G : gG} {Q : gK} {σ : gM} {a0 : Nat} {wv1 : Value} {wv2 : Value} {s0 : Int32} (h0 : isX10 G a0) : gw C G mX10_number Q 8 [.ref a0, wv1, wv2] [.int s0] σ = (g_inv C mX10_must [.ref a0, .int 48, .int 57] σ fun r σ' => gw C G mX10_number Q 17 [.ref a0, wv1, wv2] (r.toList ++ []) σ') := by
  refine Eq.trans (e_pop dX10_number_8) ?_
  refine Eq.trans (e_aload_n dX10_number_9 rfl) ?_
  refine Eq.trans (e_bipush (x := 48) dX10_number_10 (by decide)) ?_
  refine Eq.trans (e_bipush (x := 57) dX10_number_12 (by decide)) ?_
  exact e_invv dX10_number_14 cl_10_165 (kX10 h0) (by simp) rfl rfl (by simp)
theorem BX10_number_17 {C : gC} {G : gG} {Q : gK} {σ : gM} {a0 : Nat} {wv1 : Value} {wv2 : Value} {s0 : Int32} (h0 : isX10 G a0) : gw C G mX10_number Q 17 [.ref a0, wv1, wv2] [.int s0] σ = gw C G mX10_number Q 23 [.ref a0, .int (s0 - 48), .int 0] [] σ := by
  refine Eq.trans (e_bipush (x := 48) dX10_number_17 (by decide)) ?_
  refine Eq.trans (e_isub dX10_number_19) ?_
  refine Eq.trans (e_istore_n dX10_number_20 (Nat.le_of_ble_eq_true rfl)) ?_
  refine Eq.trans (e_iconst (x := 0) dX10_number_21 (by decide)) ?_
  refine Eq.trans (e_istore_n dX10_number_22 (Nat.le_of_ble_eq_true rfl)) ?_
  rfl
theorem BX10_number_23 {C : gC} {G : gG} {Q : gK} {σ : gM} {a0 : Nat} {v1 : Int32} {v2 : Int32} (h0 : isX10 G a0) : gw C G mX10_number Q 23 [.ref a0, .int v1, .int v2] [] σ = (if v2 < 2 then (g_inv C mX10_sees [.ref a0, .int 48, .int 57] σ fun r σ' => gw C G mX10_number Q 36 [.ref a0, .int v1, .int v2] (r.toList ++ []) σ') else Q (some (.int v1)) σ) := by
  refine Eq.trans (e_iload_n dX10_number_23 rfl) ?_
  refine Eq.trans (e_iconst (x := 2) dX10_number_24 (by decide)) ?_
  refine Eq.trans (e_ic_ge (t := 70) dX10_number_25 (by decide)) (g_ite ?_ ?_)
  · refine Eq.trans (e_aload_n dX10_number_28 rfl) ?_
    refine Eq.trans (e_bipush (x := 48) dX10_number_29 (by decide)) ?_
    refine Eq.trans (e_bipush (x := 57) dX10_number_31 (by decide)) ?_
    exact e_invv dX10_number_33 cl_10_162 (kX10 h0) (by simp) rfl rfl (by simp)
  · refine Eq.trans (e_iload_n dX10_number_70 rfl) ?_
    exact e_ireti dX10_number_71 rfl
theorem BX10_number_36 {C : gC} {G : gG} {Q : gK} {σ : gM} {a0 : Nat} {v1 : Int32} {v2 : Int32} {s0 : Int32} (h0 : isX10 G a0) : gw C G mX10_number Q 36 [.ref a0, .int v1, .int v2] [.int s0] σ = (if s0 = 0 then Q (some (.int v1)) σ else gw C G mX10_number Q 58 [.ref a0, .int v1, .int v2] [.int (σ a0 16), .ref (a0 + 10), .int (10 * v1)] (g_up σ a0 16 ((σ a0 16) + 1))) := by
  refine Eq.trans (e_if_eq (t := 70) dX10_number_36 (by decide)) (g_ite ?_ ?_)
  · refine Eq.trans (e_iload_n dX10_number_70 rfl) ?_
    exact e_ireti dX10_number_71 rfl
  · refine Eq.trans (e_bipush (x := 10) dX10_number_39 (by decide)) ?_
    refine Eq.trans (e_iload_n dX10_number_41 rfl) ?_
    refine Eq.trans (e_imul dX10_number_42) ?_
    refine Eq.trans (e_aload_n dX10_number_43 rfl) ?_
    refine Eq.trans (e_getr (b := a0 + 10) dX10_number_44 fl_10_37 (kX10 h0) (sX10_10 h0)) ?_
    refine Eq.trans (e_aload_n dX10_number_47 rfl) ?_
    refine Eq.trans (e_dup dX10_number_48) ?_
    refine Eq.trans (e_geti dX10_number_49 fl_10_159 (kX10 h0)) ?_
    refine Eq.trans (e_dup_x1 dX10_number_52) ?_
    refine Eq.trans (e_iconst (x := 1) dX10_number_53 (by decide)) ?_
    refine Eq.trans (e_iadd dX10_number_54) ?_
    refine Eq.trans (e_puti dX10_number_55 fl_10_159 (kX10 h0)) ?_
    rfl
theorem BX10_number_58 {C : gC} {G : gG} {Q : gK} {σ : gM} {a0 : Nat} {v1 : Int32} {v2 : Int32} {s0 : Int32} {s2 : Int32} (h0 : isX10 G a0) : gw C G mX10_number Q 58 [.ref a0, .int v1, .int v2] [.int s2, .ref (a0 + 10), .int s0] σ = (vp_in s2 120 ∧ gw C G mX10_number Q 23 [.ref a0, .int ((s0 + (σ (a0 + 10) s2.toNatClampNeg)) - 48), .int (v2 + 1)] [] σ) := by
  refine Eq.trans (e_iald dX10_number_58 (aX10_10 h0) (nX10_10 h0)) (g_cj ?_)
  refine Eq.trans (e_iadd dX10_number_59) ?_
  refine Eq.trans (e_bipush (x := 48) dX10_number_60 (by decide)) ?_
  refine Eq.trans (e_isub dX10_number_62) ?_
  refine Eq.trans (e_istore_n dX10_number_63 (Nat.le_of_ble_eq_true rfl)) ?_
  refine Eq.trans (e_iinc (y := 1) dX10_number_64 rfl (by decide)) ?_
  refine Eq.trans (e_goto (t := 23) dX10_number_67 (by decide)) ?_
  rfl
theorem BX10_must_0 {C : gC} {G : gG} {Q : gK} {σ : gM} {a0 : Nat} {v1 : Int32} {v2 : Int32} (h0 : isX10 G a0) : gw C G mX10_must Q 0 [.ref a0, .int v1, .int v2] [] σ = (g_inv C mX10_sees [.ref a0, .int v1, .int v2] σ fun r σ' => gw C G mX10_must Q 6 [.ref a0, .int v1, .int v2] (r.toList ++ []) σ') := by
  refine Eq.trans (e_aload_n dX10_must_0 rfl) ?_
  refine Eq.trans (e_iload_n dX10_must_1 rfl) ?_
  refine Eq.trans (e_iload_n dX10_must_2 rfl) ?_
  exact e_invv dX10_must_3 cl_10_162 (kX10 h0) (by simp) rfl rfl (by simp)
theorem BX10_must_6 {C : gC} {G : gG} {Q : gK} {σ : gM} {a0 : Nat} {v1 : Int32} {v2 : Int32} {s0 : Int32} (h0 : isX10 G a0) : gw C G mX10_must Q 6 [.ref a0, .int v1, .int v2] [.int s0] σ = (if s0 = 0 then (if (σ a0 17) < 0 then Q (some (.int v1)) (g_up σ a0 17 (σ a0 16)) else Q (some (.int v1)) (g_up σ a0 17 (σ a0 17))) else gw C G mX10_must Q 48 [.ref a0, .int v1, .int v2] [.int (σ a0 16), .ref (a0 + 10)] (g_up σ a0 16 ((σ a0 16) + 1))) := by
  refine Eq.trans (e_if_ne (t := 33) dX10_must_6 (by decide)) (g_ite ?_ ?_)
  · refine Eq.trans (e_aload_n dX10_must_9 rfl) ?_
    refine Eq.trans (e_aload_n dX10_must_10 rfl) ?_
    refine Eq.trans (e_geti dX10_must_11 fl_10_156 (kX10 h0)) ?_
    refine Eq.trans (e_if_ge (t := 24) dX10_must_14 (by decide)) (g_ite ?_ ?_)
    · refine Eq.trans (e_aload_n dX10_must_17 rfl) ?_
      refine Eq.trans (e_geti dX10_must_18 fl_10_159 (kX10 h0)) ?_
      refine Eq.trans (e_goto (t := 28) dX10_must_21 (by decide)) ?_
      refine Eq.trans (e_puti dX10_must_28 fl_10_156 (kX10 h0)) ?_
      refine Eq.trans (e_iload_n dX10_must_31 rfl) ?_
      exact e_ireti dX10_must_32 rfl
    · refine Eq.trans (e_aload_n dX10_must_24 rfl) ?_
      refine Eq.trans (e_geti dX10_must_25 fl_10_156 (kX10 h0)) ?_
      refine Eq.trans (e_puti dX10_must_28 fl_10_156 (kX10 h0)) ?_
      refine Eq.trans (e_iload_n dX10_must_31 rfl) ?_
      exact e_ireti dX10_must_32 rfl
  · refine Eq.trans (e_aload_n dX10_must_33 rfl) ?_
    refine Eq.trans (e_getr (b := a0 + 10) dX10_must_34 fl_10_37 (kX10 h0) (sX10_10 h0)) ?_
    refine Eq.trans (e_aload_n dX10_must_37 rfl) ?_
    refine Eq.trans (e_dup dX10_must_38) ?_
    refine Eq.trans (e_geti dX10_must_39 fl_10_159 (kX10 h0)) ?_
    refine Eq.trans (e_dup_x1 dX10_must_42) ?_
    refine Eq.trans (e_iconst (x := 1) dX10_must_43 (by decide)) ?_
    refine Eq.trans (e_iadd dX10_must_44) ?_
    refine Eq.trans (e_puti dX10_must_45 fl_10_159 (kX10 h0)) ?_
    rfl
theorem BX10_must_48 {C : gC} {G : gG} {Q : gK} {σ : gM} {a0 : Nat} {v1 : Int32} {v2 : Int32} {s1 : Int32} (h0 : isX10 G a0) : gw C G mX10_must Q 48 [.ref a0, .int v1, .int v2] [.int s1, .ref (a0 + 10)] σ = (vp_in s1 120 ∧ Q (some (.int (σ (a0 + 10) s1.toNatClampNeg))) σ) := by
  refine Eq.trans (e_iald dX10_must_48 (aX10_10 h0) (nX10_10 h0)) (g_cj ?_)
  exact e_ireti dX10_must_49 rfl
theorem BX10_sees_0 {C : gC} {G : gG} {Q : gK} {σ : gM} {a0 : Nat} {v1 : Int32} {v2 : Int32} (h0 : isX10 G a0) : gw C G mX10_sees Q 0 [.ref a0, .int v1, .int v2] [] σ = (if (σ a0 17) < 0 then (if (σ a0 16) < (σ a0 11) then (vp_in (σ a0 16) 120 ∧ (g_inv C mX10_in [.int (σ (a0 + 10) (σ a0 16).toNatClampNeg), .int v1, .int v2] σ fun r σ' => gw C G mX10_sees Q 32 [.ref a0, .int v1, .int v2] (r.toList ++ []) σ')) else Q (some (.int 0)) σ) else Q (some (.int 0)) σ) := by
  refine Eq.trans (e_aload_n dX10_sees_0 rfl) ?_
  refine Eq.trans (e_geti dX10_sees_1 fl_10_156 (kX10 h0)) ?_
  refine Eq.trans (e_if_ge (t := 39) dX10_sees_4 (by decide)) (g_ite ?_ ?_)
  · refine Eq.trans (e_aload_n dX10_sees_7 rfl) ?_
    refine Eq.trans (e_geti dX10_sees_8 fl_10_159 (kX10 h0)) ?_
    refine Eq.trans (e_aload_n dX10_sees_11 rfl) ?_
    refine Eq.trans (e_geti dX10_sees_12 fl_10_152 (kX10 h0)) ?_
    refine Eq.trans (e_ic_ge (t := 39) dX10_sees_15 (by decide)) (g_ite ?_ ?_)
    · refine Eq.trans (e_aload_n dX10_sees_18 rfl) ?_
      refine Eq.trans (e_getr (b := a0 + 10) dX10_sees_19 fl_10_37 (kX10 h0) (sX10_10 h0)) ?_
      refine Eq.trans (e_aload_n dX10_sees_22 rfl) ?_
      refine Eq.trans (e_geti dX10_sees_23 fl_10_159 (kX10 h0)) ?_
      refine Eq.trans (e_iald dX10_sees_26 (aX10_10 h0) (nX10_10 h0)) (g_cj ?_)
      refine Eq.trans (e_iload_n dX10_sees_27 rfl) ?_
      refine Eq.trans (e_iload_n dX10_sees_28 rfl) ?_
      exact e_invs dX10_sees_29 cl_10_65 (by decide) (by simp) rfl rfl (by simp)
    · refine Eq.trans (e_iconst (x := 0) dX10_sees_39 (by decide)) ?_
      exact Eq.trans (e_iretz dX10_sees_40 rfl) (g_and (by decide))
  · refine Eq.trans (e_iconst (x := 0) dX10_sees_39 (by decide)) ?_
    exact Eq.trans (e_iretz dX10_sees_40 rfl) (g_and (by decide))
theorem BX10_sees_32 {C : gC} {G : gG} {Q : gK} {σ : gM} {a0 : Nat} {v1 : Int32} {v2 : Int32} {s0 : Int32} (h0 : isX10 G a0) : gw C G mX10_sees Q 32 [.ref a0, .int v1, .int v2] [.int s0] σ = (if s0 = 0 then Q (some (.int 0)) σ else Q (some (.int 1)) σ) := by
  refine Eq.trans (e_if_eq (t := 39) dX10_sees_32 (by decide)) (g_ite ?_ ?_)
  · refine Eq.trans (e_iconst (x := 0) dX10_sees_39 (by decide)) ?_
    exact Eq.trans (e_iretz dX10_sees_40 rfl) (g_and (by decide))
  · refine Eq.trans (e_iconst (x := 1) dX10_sees_35 (by decide)) ?_
    refine Eq.trans (e_goto (t := 40) dX10_sees_36 (by decide)) ?_
    exact Eq.trans (e_iretz dX10_sees_40 rfl) (g_and (by decide))
theorem BX10_does_0 {C : gC} {G : gG} {Q : gK} {σ : gM} {a0 : Nat} {v1 : Int32} (h0 : isX10 G a0) : gw C G mX10_does Q 0 [.ref a0, .int v1, .long 0, .long 0] [] σ = (vp_in 0 3 ∧ (vp_in 1 3 ∧ (if v1 = 98 then (vp_in 2 3 ∧ (g_inv C mX10_block [.ref a0, .int (σ (a0 + 21) (0 : Int32).toNatClampNeg), .int (σ (a0 + 21) (1 : Int32).toNatClampNeg), .int (σ (a0 + 21) (2 : Int32).toNatClampNeg)] σ fun r σ' => gw C G mX10_does Q 127 [.ref a0, .int v1, .int (σ (a0 + 21) (0 : Int32).toNatClampNeg), .int (σ (a0 + 21) (1 : Int32).toNatClampNeg)] (r.toList ++ []) σ')) else (if v1 = 99 then (g_inv C mX10_advance [.ref a0] σ fun r σ' => gw C G mX10_does Q 232 [.ref a0, .int v1, .int (σ (a0 + 21) (0 : Int32).toNatClampNeg), .int (σ (a0 + 21) (1 : Int32).toNatClampNeg)] (r.toList ++ []) σ') else (if v1 = 100 then (g_inv C mX10_advance [.ref a0] σ fun r σ' => gw C G mX10_does Q 232 [.ref a0, .int v1, .int (σ (a0 + 21) (0 : Int32).toNatClampNeg), .int (σ (a0 + 21) (1 : Int32).toNatClampNeg)] (r.toList ++ []) σ') else (if v1 = 101 then (g_inv C mX10_advance [.ref a0] σ fun r σ' => gw C G mX10_does Q 232 [.ref a0, .int v1, .int (σ (a0 + 21) (0 : Int32).toNatClampNeg), .int (σ (a0 + 21) (1 : Int32).toNatClampNeg)] (r.toList ++ []) σ') else (if v1 = 102 then (g_inv C mX10_goodOf [.ref a0, .int (σ (a0 + 21) (0 : Int32).toNatClampNeg)] σ fun r σ' => gw C G mX10_does Q 134 [.ref a0, .int v1, .int (σ (a0 + 21) (0 : Int32).toNatClampNeg), .int (σ (a0 + 21) (1 : Int32).toNatClampNeg)] (r.toList ++ [.ref a0]) σ') else (if v1 = 103 then (g_inv C mX10_advance [.ref a0] σ fun r σ' => gw C G mX10_does Q 232 [.ref a0, .int v1, .int (σ (a0 + 21) (0 : Int32).toNatClampNeg), .int (σ (a0 + 21) (1 : Int32).toNatClampNeg)] (r.toList ++ []) σ') else (if v1 = 104 then (g_inv C mX10_advance [.ref a0] σ fun r σ' => gw C G mX10_does Q 232 [.ref a0, .int v1, .int (σ (a0 + 21) (0 : Int32).toNatClampNeg), .int (σ (a0 + 21) (1 : Int32).toNatClampNeg)] (r.toList ++ []) σ') else (if v1 = 105 then (g_inv C mX10_enter [.ref a0, .int (σ (a0 + 21) (0 : Int32).toNatClampNeg)] σ fun r σ' => gw C G mX10_does Q 221 [.ref a0, .int v1, .int (σ (a0 + 21) (0 : Int32).toNatClampNeg), .int (σ (a0 + 21) (1 : Int32).toNatClampNeg)] (r.toList ++ []) σ') else (if v1 = 106 then (g_inv C mX10_advance [.ref a0] σ fun r σ' => gw C G mX10_does Q 232 [.ref a0, .int v1, .int (σ (a0 + 21) (0 : Int32).toNatClampNeg), .int (σ (a0 + 21) (1 : Int32).toNatClampNeg)] (r.toList ++ []) σ') else (if v1 = 107 then (g_inv C mX10_advance [.ref a0] σ fun r σ' => gw C G mX10_does Q 232 [.ref a0, .int v1, .int (σ (a0 + 21) (0 : Int32).toNatClampNeg), .int (σ (a0 + 21) (1 : Int32).toNatClampNeg)] (r.toList ++ []) σ') else (if v1 = 108 then (g_inv C mX10_advance [.ref a0] σ fun r σ' => gw C G mX10_does Q 232 [.ref a0, .int v1, .int (σ (a0 + 21) (0 : Int32).toNatClampNeg), .int (σ (a0 + 21) (1 : Int32).toNatClampNeg)] (r.toList ++ []) σ') else (if v1 = 109 then (g_inv C mX10_moves [.ref a0, .int (σ (a0 + 21) (0 : Int32).toNatClampNeg), .int (σ (a0 + 21) (1 : Int32).toNatClampNeg)] σ fun r σ' => gw C G mX10_does Q 215 [.ref a0, .int v1, .int (σ (a0 + 21) (0 : Int32).toNatClampNeg), .int (σ (a0 + 21) (1 : Int32).toNatClampNeg)] (r.toList ++ []) σ') else (if v1 = 110 then (g_inv C mX10_advance [.ref a0] σ fun r σ' => gw C G mX10_does Q 232 [.ref a0, .int v1, .int (σ (a0 + 21) (0 : Int32).toNatClampNeg), .int (σ (a0 + 21) (1 : Int32).toNatClampNeg)] (r.toList ++ []) σ') else (if v1 = 111 then (g_inv C mX10_leave [.ref a0, .int (σ (a0 + 21) (0 : Int32).toNatClampNeg)] σ fun r σ' => gw C G mX10_does Q 227 [.ref a0, .int v1, .int (σ (a0 + 21) (0 : Int32).toNatClampNeg), .int (σ (a0 + 21) (1 : Int32).toNatClampNeg)] (r.toList ++ []) σ') else (if v1 = 112 then (g_inv C mX10_goodOf [.ref a0, .int (σ (a0 + 21) (0 : Int32).toNatClampNeg)] σ fun r σ' => gw C G mX10_does Q 144 [.ref a0, .int v1, .int (σ (a0 + 21) (0 : Int32).toNatClampNeg), .int (σ (a0 + 21) (1 : Int32).toNatClampNeg)] (r.toList ++ [.ref a0]) σ') else (if v1 = 113 then (g_inv C mX10_advance [.ref a0] σ fun r σ' => gw C G mX10_does Q 232 [.ref a0, .int v1, .int (σ (a0 + 21) (0 : Int32).toNatClampNeg), .int (σ (a0 + 21) (1 : Int32).toNatClampNeg)] (r.toList ++ []) σ') else (if v1 = 114 then (g_inv C mX10_region [.ref a0, .int (σ (a0 + 21) (0 : Int32).toNatClampNeg), .int (σ (a0 + 21) (1 : Int32).toNatClampNeg)] σ fun r σ' => gw C G mX10_does Q 114 [.ref a0, .int v1, .int (σ (a0 + 21) (0 : Int32).toNatClampNeg), .int (σ (a0 + 21) (1 : Int32).toNatClampNeg)] (r.toList ++ []) σ') else (if v1 = 115 then (g_inv C mX10_advance [.ref a0] σ fun r σ' => gw C G mX10_does Q 232 [.ref a0, .int v1, .int (σ (a0 + 21) (0 : Int32).toNatClampNeg), .int (σ (a0 + 21) (1 : Int32).toNatClampNeg)] (r.toList ++ []) σ') else (if v1 = 116 then (g_inv C mX10_in [.int (σ (a0 + 21) (1 : Int32).toNatClampNeg), .int 0, .int 4] σ fun r σ' => gw C G mX10_does Q 166 [.ref a0, .int v1, .int (σ (a0 + 21) (0 : Int32).toNatClampNeg), .int (σ (a0 + 21) (1 : Int32).toNatClampNeg)] (r.toList ++ []) σ') else (if v1 = 117 then (g_inv C mX10_goodOf [.ref a0, .int (σ (a0 + 21) (0 : Int32).toNatClampNeg)] σ fun r σ' => gw C G mX10_does Q 155 [.ref a0, .int v1, .int (σ (a0 + 21) (0 : Int32).toNatClampNeg), .int (σ (a0 + 21) (1 : Int32).toNatClampNeg)] (r.toList ++ [.ref a0]) σ') else (g_inv C mX10_advance [.ref a0] σ fun r σ' => gw C G mX10_does Q 232 [.ref a0, .int v1, .int (σ (a0 + 21) (0 : Int32).toNatClampNeg), .int (σ (a0 + 21) (1 : Int32).toNatClampNeg)] (r.toList ++ []) σ'))))))))))))))))))))))) := by
  refine Eq.trans (e_aload_n dX10_does_0 rfl) ?_
  refine Eq.trans (e_getr (b := a0 + 21) dX10_does_1 fl_10_54 (kX10 h0) (sX10_18 h0)) ?_
  refine Eq.trans (e_iconst (x := 0) dX10_does_4 (by decide)) ?_
  refine Eq.trans (e_iald dX10_does_5 (aX10_18 h0) (nX10_18 h0)) (g_cj ?_)
  refine Eq.trans (e_istore_n dX10_does_6 (Nat.le_of_ble_eq_true rfl)) ?_
  refine Eq.trans (e_aload_n dX10_does_7 rfl) ?_
  refine Eq.trans (e_getr (b := a0 + 21) dX10_does_8 fl_10_54 (kX10 h0) (sX10_18 h0)) ?_
  refine Eq.trans (e_iconst (x := 1) dX10_does_11 (by decide)) ?_
  refine Eq.trans (e_iald dX10_does_12 (aX10_18 h0) (nX10_18 h0)) (g_cj ?_)
  refine Eq.trans (e_istore_n dX10_does_13 (Nat.le_of_ble_eq_true rfl)) ?_
  refine Eq.trans (e_iload_n dX10_does_14 rfl) ?_
  refine Eq.trans (e_switch dX10_does_15 (by decide)) ?_
  refine Eq.trans (g_sw1 (y := 98) (t := 115) (by decide) (by decide) (g_sw1 (y := 99) (t := 228) (by decide) (by decide) (g_sw1 (y := 100) (t := 228) (by decide) (by decide) (g_sw1 (y := 101) (t := 228) (by decide) (by decide) (g_sw1 (y := 102) (t := 128) (by decide) (by decide) (g_sw1 (y := 103) (t := 228) (by decide) (by decide) (g_sw1 (y := 104) (t := 228) (by decide) (by decide) (g_sw1 (y := 105) (t := 216) (by decide) (by decide) (g_sw1 (y := 106) (t := 228) (by decide) (by decide) (g_sw1 (y := 107) (t := 228) (by decide) (by decide) (g_sw1 (y := 108) (t := 228) (by decide) (by decide) (g_sw1 (y := 109) (t := 209) (by decide) (by decide) (g_sw1 (y := 110) (t := 228) (by decide) (by decide) (g_sw1 (y := 111) (t := 222) (by decide) (by decide) (g_sw1 (y := 112) (t := 138) (by decide) (by decide) (g_sw1 (y := 113) (t := 228) (by decide) (by decide) (g_sw1 (y := 114) (t := 108) (by decide) (by decide) (g_sw1 (y := 115) (t := 228) (by decide) (by decide) (g_sw1 (y := 116) (t := 160) (by decide) (by decide) (g_sw1 (y := 117) (t := 149) (by decide) (by decide) (g_sw0 (t := 228) (by decide)))))))))))))))))))))) ?_
  refine g_ite ?_ (g_ite ?_ (g_ite ?_ (g_ite ?_ (g_ite ?_ (g_ite ?_ (g_ite ?_ (g_ite ?_ (g_ite ?_ (g_ite ?_ (g_ite ?_ (g_ite ?_ (g_ite ?_ (g_ite ?_ (g_ite ?_ (g_ite ?_ (g_ite ?_ (g_ite ?_ (g_ite ?_ (g_ite ?_ (?_))))))))))))))))))))
  · refine Eq.trans (e_aload_n dX10_does_115 rfl) ?_
    refine Eq.trans (e_iload_n dX10_does_116 rfl) ?_
    refine Eq.trans (e_iload_n dX10_does_117 rfl) ?_
    refine Eq.trans (e_aload_n dX10_does_118 rfl) ?_
    refine Eq.trans (e_getr (b := a0 + 21) dX10_does_119 fl_10_54 (kX10 h0) (sX10_18 h0)) ?_
    refine Eq.trans (e_iconst (x := 2) dX10_does_122 (by decide)) ?_
    refine Eq.trans (e_iald dX10_does_123 (aX10_18 h0) (nX10_18 h0)) (g_cj ?_)
    exact e_invv dX10_does_124 cl_10_180 (kX10 h0) (by simp) rfl rfl (by simp)
  · refine Eq.trans (e_aload_n dX10_does_228 rfl) ?_
    exact e_invv dX10_does_229 cl_10_205 (kX10 h0) (by simp) rfl rfl (by simp)
  · refine Eq.trans (e_aload_n dX10_does_228 rfl) ?_
    exact e_invv dX10_does_229 cl_10_205 (kX10 h0) (by simp) rfl rfl (by simp)
  · refine Eq.trans (e_aload_n dX10_does_228 rfl) ?_
    exact e_invv dX10_does_229 cl_10_205 (kX10 h0) (by simp) rfl rfl (by simp)
  · refine Eq.trans (e_aload_n dX10_does_128 rfl) ?_
    refine Eq.trans (e_aload_n dX10_does_129 rfl) ?_
    refine Eq.trans (e_iload_n dX10_does_130 rfl) ?_
    exact e_invv dX10_does_131 cl_10_184 (kX10 h0) (by simp) rfl rfl (by simp)
  · refine Eq.trans (e_aload_n dX10_does_228 rfl) ?_
    exact e_invv dX10_does_229 cl_10_205 (kX10 h0) (by simp) rfl rfl (by simp)
  · refine Eq.trans (e_aload_n dX10_does_228 rfl) ?_
    exact e_invv dX10_does_229 cl_10_205 (kX10 h0) (by simp) rfl rfl (by simp)
  · refine Eq.trans (e_aload_n dX10_does_216 rfl) ?_
    refine Eq.trans (e_iload_n dX10_does_217 rfl) ?_
    exact e_invv dX10_does_218 cl_10_199 (kX10 h0) (by simp) rfl rfl (by simp)
  · refine Eq.trans (e_aload_n dX10_does_228 rfl) ?_
    exact e_invv dX10_does_229 cl_10_205 (kX10 h0) (by simp) rfl rfl (by simp)
  · refine Eq.trans (e_aload_n dX10_does_228 rfl) ?_
    exact e_invv dX10_does_229 cl_10_205 (kX10 h0) (by simp) rfl rfl (by simp)
  · refine Eq.trans (e_aload_n dX10_does_228 rfl) ?_
    exact e_invv dX10_does_229 cl_10_205 (kX10 h0) (by simp) rfl rfl (by simp)
  · refine Eq.trans (e_aload_n dX10_does_209 rfl) ?_
    refine Eq.trans (e_iload_n dX10_does_210 rfl) ?_
    refine Eq.trans (e_iload_n dX10_does_211 rfl) ?_
    exact e_invv dX10_does_212 cl_10_196 (kX10 h0) (by simp) rfl rfl (by simp)
  · refine Eq.trans (e_aload_n dX10_does_228 rfl) ?_
    exact e_invv dX10_does_229 cl_10_205 (kX10 h0) (by simp) rfl rfl (by simp)
  · refine Eq.trans (e_aload_n dX10_does_222 rfl) ?_
    refine Eq.trans (e_iload_n dX10_does_223 rfl) ?_
    exact e_invv dX10_does_224 cl_10_202 (kX10 h0) (by simp) rfl rfl (by simp)
  · refine Eq.trans (e_aload_n dX10_does_138 rfl) ?_
    refine Eq.trans (e_aload_n dX10_does_139 rfl) ?_
    refine Eq.trans (e_iload_n dX10_does_140 rfl) ?_
    exact e_invv dX10_does_141 cl_10_184 (kX10 h0) (by simp) rfl rfl (by simp)
  · refine Eq.trans (e_aload_n dX10_does_228 rfl) ?_
    exact e_invv dX10_does_229 cl_10_205 (kX10 h0) (by simp) rfl rfl (by simp)
  · refine Eq.trans (e_aload_n dX10_does_108 rfl) ?_
    refine Eq.trans (e_iload_n dX10_does_109 rfl) ?_
    refine Eq.trans (e_iload_n dX10_does_110 rfl) ?_
    exact e_invv dX10_does_111 cl_10_177 (kX10 h0) (by simp) rfl rfl (by simp)
  · refine Eq.trans (e_aload_n dX10_does_228 rfl) ?_
    exact e_invv dX10_does_229 cl_10_205 (kX10 h0) (by simp) rfl rfl (by simp)
  · refine Eq.trans (e_iload_n dX10_does_160 rfl) ?_
    refine Eq.trans (e_iconst (x := 0) dX10_does_161 (by decide)) ?_
    refine Eq.trans (e_iconst (x := 4) dX10_does_162 (by decide)) ?_
    exact e_invs dX10_does_163 cl_10_65 (by decide) (by simp) rfl rfl (by simp)
  · refine Eq.trans (e_aload_n dX10_does_149 rfl) ?_
    refine Eq.trans (e_aload_n dX10_does_150 rfl) ?_
    refine Eq.trans (e_iload_n dX10_does_151 rfl) ?_
    exact e_invv dX10_does_152 cl_10_184 (kX10 h0) (by simp) rfl rfl (by simp)
  · refine Eq.trans (e_aload_n dX10_does_228 rfl) ?_
    exact e_invv dX10_does_229 cl_10_205 (kX10 h0) (by simp) rfl rfl (by simp)
theorem BX10_does_114 {C : gC} {G : gG} {Q : gK} {σ : gM} {a0 : Nat} {v1 : Int32} {v2 : Int32} {v3 : Int32} {s0 : Int32} (h0 : isX10 G a0) : gw C G mX10_does Q 114 [.ref a0, .int v1, .int v2, .int v3] [.int s0] σ = Q (some (.int s0)) σ := by
  exact e_ireti dX10_does_114 rfl
theorem BX10_does_127 {C : gC} {G : gG} {Q : gK} {σ : gM} {a0 : Nat} {v1 : Int32} {v2 : Int32} {v3 : Int32} {s0 : Int32} (h0 : isX10 G a0) : gw C G mX10_does Q 127 [.ref a0, .int v1, .int v2, .int v3] [.int s0] σ = Q (some (.int s0)) σ := by
  exact e_ireti dX10_does_127 rfl
theorem BX10_does_134 {C : gC} {G : gG} {Q : gK} {σ : gM} {a0 : Nat} {v1 : Int32} {v2 : Int32} {v3 : Int32} {s1 : Int32} (h0 : isX10 G a0) : gw C G mX10_does Q 134 [.ref a0, .int v1, .int v2, .int v3] [.int s1, .ref a0] σ = (g_inv C mX10_free [.ref a0, .int s1] σ fun r σ' => gw C G mX10_does Q 137 [.ref a0, .int v1, .int v2, .int v3] (r.toList ++ []) σ') := by
  exact e_invv dX10_does_134 cl_10_187 (kX10 h0) (by simp) rfl rfl (by simp)
theorem BX10_does_137 {C : gC} {G : gG} {Q : gK} {σ : gM} {a0 : Nat} {v1 : Int32} {v2 : Int32} {v3 : Int32} {s0 : Int32} (h0 : isX10 G a0) : gw C G mX10_does Q 137 [.ref a0, .int v1, .int v2, .int v3] [.int s0] σ = Q (some (.int s0)) σ := by
  exact e_ireti dX10_does_137 rfl
theorem BX10_does_144 {C : gC} {G : gG} {Q : gK} {σ : gM} {a0 : Nat} {v1 : Int32} {v2 : Int32} {v3 : Int32} {s1 : Int32} (h0 : isX10 G a0) : gw C G mX10_does Q 144 [.ref a0, .int v1, .int v2, .int v3] [.int s1, .ref a0] σ = (g_inv C mX10_pin [.ref a0, .int s1, .int 1] σ fun r σ' => gw C G mX10_does Q 148 [.ref a0, .int v1, .int v2, .int v3] (r.toList ++ []) σ') := by
  refine Eq.trans (e_iconst (x := 1) dX10_does_144 (by decide)) ?_
  exact e_invv dX10_does_145 cl_10_190 (kX10 h0) (by simp) rfl rfl (by simp)
theorem BX10_does_148 {C : gC} {G : gG} {Q : gK} {σ : gM} {a0 : Nat} {v1 : Int32} {v2 : Int32} {v3 : Int32} {s0 : Int32} (h0 : isX10 G a0) : gw C G mX10_does Q 148 [.ref a0, .int v1, .int v2, .int v3] [.int s0] σ = Q (some (.int s0)) σ := by
  exact e_ireti dX10_does_148 rfl
theorem BX10_does_155 {C : gC} {G : gG} {Q : gK} {σ : gM} {a0 : Nat} {v1 : Int32} {v2 : Int32} {v3 : Int32} {s1 : Int32} (h0 : isX10 G a0) : gw C G mX10_does Q 155 [.ref a0, .int v1, .int v2, .int v3] [.int s1, .ref a0] σ = (g_inv C mX10_pin [.ref a0, .int s1, .int (-1)] σ fun r σ' => gw C G mX10_does Q 159 [.ref a0, .int v1, .int v2, .int v3] (r.toList ++ []) σ') := by
  refine Eq.trans (e_iconst (x := (-1)) dX10_does_155 (by decide)) ?_
  exact e_invv dX10_does_156 cl_10_190 (kX10 h0) (by simp) rfl rfl (by simp)
theorem BX10_does_159 {C : gC} {G : gG} {Q : gK} {σ : gM} {a0 : Nat} {v1 : Int32} {v2 : Int32} {v3 : Int32} {s0 : Int32} (h0 : isX10 G a0) : gw C G mX10_does Q 159 [.ref a0, .int v1, .int v2, .int v3] [.int s0] σ = Q (some (.int s0)) σ := by
  exact e_ireti dX10_does_159 rfl
theorem BX10_does_166 {C : gC} {G : gG} {Q : gK} {σ : gM} {a0 : Nat} {v1 : Int32} {v2 : Int32} {v3 : Int32} {s0 : Int32} (h0 : isX10 G a0) : gw C G mX10_does Q 166 [.ref a0, .int v1, .int v2, .int v3] [.int s0] σ = (if s0 = 0 then gw C G mX10_does Q 208 [.ref a0, .int v1, .int v2, .int v3] [.int (-1)] σ else (vp_in 2 3 ∧ (g_inv C mX10_in [.int (σ (a0 + 21) (2 : Int32).toNatClampNeg), .int 0, .int 99] σ fun r σ' => gw C G mX10_does Q 181 [.ref a0, .int v1, .int v2, .int v3] (r.toList ++ []) σ'))) := by
  refine Eq.trans (e_if_eq (t := 184) dX10_does_166 (by decide)) (g_ite ?_ ?_)
  · refine Eq.trans (e_iconst (x := (-1)) dX10_does_184 (by decide)) ?_
    refine Eq.trans (e_goto (t := 208) dX10_does_185 (by decide)) ?_
    rfl
  · refine Eq.trans (e_aload_n dX10_does_169 rfl) ?_
    refine Eq.trans (e_getr (b := a0 + 21) dX10_does_170 fl_10_54 (kX10 h0) (sX10_18 h0)) ?_
    refine Eq.trans (e_iconst (x := 2) dX10_does_173 (by decide)) ?_
    refine Eq.trans (e_iald dX10_does_174 (aX10_18 h0) (nX10_18 h0)) (g_cj ?_)
    refine Eq.trans (e_iconst (x := 0) dX10_does_175 (by decide)) ?_
    refine Eq.trans (e_bipush (x := 99) dX10_does_176 (by decide)) ?_
    exact e_invs dX10_does_178 cl_10_65 (by decide) (by simp) rfl rfl (by simp)
theorem BX10_does_181 {C : gC} {G : gG} {Q : gK} {σ : gM} {a0 : Nat} {v1 : Int32} {v2 : Int32} {v3 : Int32} {s0 : Int32} (h0 : isX10 G a0) : gw C G mX10_does Q 181 [.ref a0, .int v1, .int v2, .int v3] [.int s0] σ = (if s0 = 0 then gw C G mX10_does Q 208 [.ref a0, .int v1, .int v2, .int v3] [.int (-1)] σ else (g_inv C mX10_goodOf [.ref a0, .int v2] σ fun r σ' => gw C G mX10_does Q 194 [.ref a0, .int v1, .int v2, .int v3] (r.toList ++ [.ref a0]) σ')) := by
  refine Eq.trans (e_if_ne (t := 188) dX10_does_181 (by decide)) (g_ite ?_ ?_)
  · refine Eq.trans (e_iconst (x := (-1)) dX10_does_184 (by decide)) ?_
    refine Eq.trans (e_goto (t := 208) dX10_does_185 (by decide)) ?_
    rfl
  · refine Eq.trans (e_aload_n dX10_does_188 rfl) ?_
    refine Eq.trans (e_aload_n dX10_does_189 rfl) ?_
    refine Eq.trans (e_iload_n dX10_does_190 rfl) ?_
    exact e_invv dX10_does_191 cl_10_184 (kX10 h0) (by simp) rfl rfl (by simp)
theorem BX10_does_194 {C : gC} {G : gG} {Q : gK} {σ : gM} {a0 : Nat} {v1 : Int32} {v2 : Int32} {v3 : Int32} {s1 : Int32} (h0 : isX10 G a0) : gw C G mX10_does Q 194 [.ref a0, .int v1, .int v2, .int v3] [.int s1, .ref a0] σ = (vp_in 2 3 ∧ (g_inv C mX10_tag [.ref a0, .int s1, .int ((100 * v3) + (σ (a0 + 21) (2 : Int32).toNatClampNeg))] σ fun r σ' => gw C G mX10_does Q 208 [.ref a0, .int v1, .int v2, .int v3] (r.toList ++ []) σ')) := by
  refine Eq.trans (e_bipush (x := 100) dX10_does_194 (by decide)) ?_
  refine Eq.trans (e_iload_n dX10_does_196 rfl) ?_
  refine Eq.trans (e_imul dX10_does_197) ?_
  refine Eq.trans (e_aload_n dX10_does_198 rfl) ?_
  refine Eq.trans (e_getr (b := a0 + 21) dX10_does_199 fl_10_54 (kX10 h0) (sX10_18 h0)) ?_
  refine Eq.trans (e_iconst (x := 2) dX10_does_202 (by decide)) ?_
  refine Eq.trans (e_iald dX10_does_203 (aX10_18 h0) (nX10_18 h0)) (g_cj ?_)
  refine Eq.trans (e_iadd dX10_does_204) ?_
  exact e_invv dX10_does_205 cl_10_193 (kX10 h0) (by simp) rfl rfl (by simp)
theorem BX10_does_208 {C : gC} {G : gG} {Q : gK} {σ : gM} {a0 : Nat} {v1 : Int32} {v2 : Int32} {v3 : Int32} {s0 : Int32} (h0 : isX10 G a0) : gw C G mX10_does Q 208 [.ref a0, .int v1, .int v2, .int v3] [.int s0] σ = Q (some (.int s0)) σ := by
  exact e_ireti dX10_does_208 rfl
theorem BX10_does_215 {C : gC} {G : gG} {Q : gK} {σ : gM} {a0 : Nat} {v1 : Int32} {v2 : Int32} {v3 : Int32} {s0 : Int32} (h0 : isX10 G a0) : gw C G mX10_does Q 215 [.ref a0, .int v1, .int v2, .int v3] [.int s0] σ = Q (some (.int s0)) σ := by
  exact e_ireti dX10_does_215 rfl
theorem BX10_does_221 {C : gC} {G : gG} {Q : gK} {σ : gM} {a0 : Nat} {v1 : Int32} {v2 : Int32} {v3 : Int32} {s0 : Int32} (h0 : isX10 G a0) : gw C G mX10_does Q 221 [.ref a0, .int v1, .int v2, .int v3] [.int s0] σ = Q (some (.int s0)) σ := by
  exact e_ireti dX10_does_221 rfl
theorem BX10_does_227 {C : gC} {G : gG} {Q : gK} {σ : gM} {a0 : Nat} {v1 : Int32} {v2 : Int32} {v3 : Int32} {s0 : Int32} (h0 : isX10 G a0) : gw C G mX10_does Q 227 [.ref a0, .int v1, .int v2, .int v3] [.int s0] σ = Q (some (.int s0)) σ := by
  exact e_ireti dX10_does_227 rfl
theorem BX10_does_232 {C : gC} {G : gG} {Q : gK} {σ : gM} {a0 : Nat} {v1 : Int32} {v2 : Int32} {v3 : Int32} {s0 : Int32} (h0 : isX10 G a0) : gw C G mX10_does Q 232 [.ref a0, .int v1, .int v2, .int v3] [.int s0] σ = Q (some (.int s0)) σ := by
  exact e_ireti dX10_does_232 rfl
theorem BX10_goodOf_0 {C : gC} {G : gG} {Q : gK} {σ : gM} {a0 : Nat} {v1 : Int32} (h0 : isX10 G a0) : gw C G mX10_goodOf Q 0 [.ref a0, .int v1] [] σ = (g_inv C mX10_in [.int v1, .int 0, .int 29] σ fun r σ' => gw C G mX10_goodOf Q 7 [.ref a0, .int v1] (r.toList ++ []) σ') := by
  refine Eq.trans (e_iload_n dX10_goodOf_0 rfl) ?_
  refine Eq.trans (e_iconst (x := 0) dX10_goodOf_1 (by decide)) ?_
  refine Eq.trans (e_bipush (x := 29) dX10_goodOf_2 (by decide)) ?_
  exact e_invs dX10_goodOf_4 cl_10_65 (by decide) (by simp) rfl rfl (by simp)
theorem BX10_goodOf_7 {C : gC} {G : gG} {Q : gK} {σ : gM} {a0 : Nat} {v1 : Int32} {s0 : Int32} (h0 : isX10 G a0) : gw C G mX10_goodOf Q 7 [.ref a0, .int v1] [.int s0] σ = (if s0 = 0 then Q (some (.int (-1))) σ else (g_inv C mX10_isLive [.ref a0, .int v1] σ fun r σ' => gw C G mX10_goodOf Q 15 [.ref a0, .int v1] (r.toList ++ []) σ')) := by
  refine Eq.trans (e_if_eq (t := 26) dX10_goodOf_7 (by decide)) (g_ite ?_ ?_)
  · refine Eq.trans (e_iconst (x := (-1)) dX10_goodOf_26 (by decide)) ?_
    exact e_ireti dX10_goodOf_27 rfl
  · refine Eq.trans (e_aload_n dX10_goodOf_10 rfl) ?_
    refine Eq.trans (e_iload_n dX10_goodOf_11 rfl) ?_
    exact e_invv dX10_goodOf_12 cl_10_61 (kX10 h0) (by simp) rfl rfl (by simp)
theorem BX10_goodOf_15 {C : gC} {G : gG} {Q : gK} {σ : gM} {a0 : Nat} {v1 : Int32} {s0 : Int32} (h0 : isX10 G a0) : gw C G mX10_goodOf Q 15 [.ref a0, .int v1] [.int s0] σ = (if s0 = 0 then Q (some (.int (-1))) σ else (g_inv C mX10_handleOf [.ref a0, .int v1] σ fun r σ' => gw C G mX10_goodOf Q 23 [.ref a0, .int v1] (r.toList ++ []) σ')) := by
  refine Eq.trans (e_if_eq (t := 26) dX10_goodOf_15 (by decide)) (g_ite ?_ ?_)
  · refine Eq.trans (e_iconst (x := (-1)) dX10_goodOf_26 (by decide)) ?_
    exact e_ireti dX10_goodOf_27 rfl
  · refine Eq.trans (e_aload_n dX10_goodOf_18 rfl) ?_
    refine Eq.trans (e_iload_n dX10_goodOf_19 rfl) ?_
    exact e_invv dX10_goodOf_20 cl_10_93 (kX10 h0) (by simp) rfl rfl (by simp)
theorem BX10_goodOf_23 {C : gC} {G : gG} {Q : gK} {σ : gM} {a0 : Nat} {v1 : Int32} {s0 : Int32} (h0 : isX10 G a0) : gw C G mX10_goodOf Q 23 [.ref a0, .int v1] [.int s0] σ = Q (some (.int s0)) σ := by
  refine Eq.trans (e_goto (t := 27) dX10_goodOf_23 (by decide)) ?_
  exact e_ireti dX10_goodOf_27 rfl
theorem BX10_image_0 {C : gC} {G : gG} {Q : gK} {σ : gM} {a0 : Nat} (h0 : isX10 G a0) : gw C G mX10_image Q 0 [.ref a0] [] σ = (g_inv C mX10_take [.ref (a0 + 1), .ref (a0 + 4)] σ fun r σ' => gw C G mX10_image Q 11 [.ref a0] (r.toList ++ []) σ') := by
  refine Eq.trans (e_aload_n dX10_image_0 rfl) ?_
  refine Eq.trans (e_getr (b := a0 + 1) dX10_image_1 fl_10_9 (kX10 h0) (sX10_0 h0)) ?_
  refine Eq.trans (e_aload_n dX10_image_4 rfl) ?_
  refine Eq.trans (e_getr (b := a0 + 4) dX10_image_5 fl_10_19 (kX10 h0) (sX10_3 h0)) ?_
  exact e_invs dX10_image_8 cl_10_139 (by decide) (by simp) rfl rfl (by simp)
theorem BX10_image_11 {C : gC} {G : gG} {Q : gK} {σ : gM} {a0 : Nat} (h0 : isX10 G a0) : gw C G mX10_image Q 11 [.ref a0] [] σ = gw C G mX10_image Q 16 [.ref a0] [] (g_up σ a0 4 1) := by
  refine Eq.trans (e_aload_n dX10_image_11 rfl) ?_
  refine Eq.trans (e_iconst (x := 1) dX10_image_12 (by decide)) ?_
  refine Eq.trans (e_putz dX10_image_13 fl_10_215 (kX10 h0)) ?_
  refine Eq.trans (g_and (by decide)) ?_
  rfl
theorem BX10_image_16 {C : gC} {G : gG} {Q : gK} {σ : gM} {a0 : Nat} (h0 : isX10 G a0) : gw C G mX10_image Q 16 [.ref a0] [] σ = (g_inv C mX10_liveMany [.ref a0, .int (-1)] σ fun r σ' => gw C G mX10_image Q 21 [.ref a0] (r.toList ++ []) σ') := by
  refine Eq.trans (e_aload_n dX10_image_16 rfl) ?_
  refine Eq.trans (e_iconst (x := (-1)) dX10_image_17 (by decide)) ?_
  exact e_invv dX10_image_18 cl_10_127 (kX10 h0) (by simp) rfl rfl (by simp)
theorem BX10_image_21 {C : gC} {G : gG} {Q : gK} {σ : gM} {a0 : Nat} {s0 : Int32} (h0 : isX10 G a0) : gw C G mX10_image Q 21 [.ref a0] [.int s0] σ = Q (some (.int s0)) σ := by
  exact e_ireti dX10_image_21 rfl
theorem BX10_back_0 {C : gC} {G : gG} {Q : gK} {σ : gM} {a0 : Nat} (h0 : isX10 G a0) : gw C G mX10_back Q 0 [.ref a0] [] σ = (if (σ a0 4) = 0 then Q (some (.int (-5))) σ else (g_inv C mX10_take [.ref (a0 + 4), .ref (a0 + 1)] σ fun r σ' => gw C G mX10_back Q 21 [.ref a0] (r.toList ++ []) σ')) := by
  refine Eq.trans (e_aload_n dX10_back_0 rfl) ?_
  refine Eq.trans (e_getz dX10_back_1 fl_10_215 (kX10 h0)) ?_
  refine Eq.trans (e_if_ne (t := 10) dX10_back_4 (by decide)) (g_ite ?_ ?_)
  · refine Eq.trans (e_bipush (x := (-5)) dX10_back_7 (by decide)) ?_
    exact e_ireti dX10_back_9 rfl
  · refine Eq.trans (e_aload_n dX10_back_10 rfl) ?_
    refine Eq.trans (e_getr (b := a0 + 4) dX10_back_11 fl_10_19 (kX10 h0) (sX10_3 h0)) ?_
    refine Eq.trans (e_aload_n dX10_back_14 rfl) ?_
    refine Eq.trans (e_getr (b := a0 + 1) dX10_back_15 fl_10_9 (kX10 h0) (sX10_0 h0)) ?_
    exact e_invs dX10_back_18 cl_10_139 (by decide) (by simp) rfl rfl (by simp)
theorem BX10_back_21 {C : gC} {G : gG} {Q : gK} {σ : gM} {a0 : Nat} (h0 : isX10 G a0) : gw C G mX10_back Q 21 [.ref a0] [] σ = (g_inv C mX10_liveMany [.ref a0, .int (-1)] σ fun r σ' => gw C G mX10_back Q 26 [.ref a0] (r.toList ++ []) σ') := by
  refine Eq.trans (e_aload_n dX10_back_21 rfl) ?_
  refine Eq.trans (e_iconst (x := (-1)) dX10_back_22 (by decide)) ?_
  exact e_invv dX10_back_23 cl_10_127 (kX10 h0) (by simp) rfl rfl (by simp)
theorem BX10_back_26 {C : gC} {G : gG} {Q : gK} {σ : gM} {a0 : Nat} {s0 : Int32} (h0 : isX10 G a0) : gw C G mX10_back Q 26 [.ref a0] [.int s0] σ = Q (some (.int s0)) σ := by
  exact e_ireti dX10_back_26 rfl
theorem BX10_hold_0 {C : gC} {G : gG} {Q : gK} {σ : gM} {a0 : Nat} {v1 : Int32} {v2 : Int32} (h0 : isX10 G a0) : gw C G mX10_hold Q 0 [.ref a0, .int v1, .int v2] [] σ = (g_inv C mX10_isHolder [.ref a0, .int v1] σ fun r σ' => gw C G mX10_hold Q 5 [.ref a0, .int v1, .int v2] (r.toList ++ []) σ') := by
  refine Eq.trans (e_aload_n dX10_hold_0 rfl) ?_
  refine Eq.trans (e_iload_n dX10_hold_1 rfl) ?_
  exact e_invv dX10_hold_2 cl_10_146 (kX10 h0) (by simp) rfl rfl (by simp)
theorem BX10_hold_5 {C : gC} {G : gG} {Q : gK} {σ : gM} {a0 : Nat} {v1 : Int32} {v2 : Int32} {s0 : Int32} (h0 : isX10 G a0) : gw C G mX10_hold Q 5 [.ref a0, .int v1, .int v2] [.int s0] σ = (if s0 = 0 then Q (some (.int (-1))) σ else (if v2 = (-1) then gw C G mX10_hold Q 26 [.ref a0, .int v1, .int v2] [] σ else (g_inv C mX10_good [.ref a0, .int v2] σ fun r σ' => gw C G mX10_hold Q 20 [.ref a0, .int v1, .int v2] (r.toList ++ []) σ'))) := by
  refine Eq.trans (e_if_ne (t := 10) dX10_hold_5 (by decide)) (g_ite ?_ ?_)
  · refine Eq.trans (e_iconst (x := (-1)) dX10_hold_8 (by decide)) ?_
    exact e_ireti dX10_hold_9 rfl
  · refine Eq.trans (e_iload_n dX10_hold_10 rfl) ?_
    refine Eq.trans (e_iconst (x := (-1)) dX10_hold_11 (by decide)) ?_
    refine Eq.trans (e_ic_eq (t := 26) dX10_hold_12 (by decide)) (g_ite ?_ ?_)
    · rfl
    · refine Eq.trans (e_aload_n dX10_hold_15 rfl) ?_
      refine Eq.trans (e_iload_n dX10_hold_16 rfl) ?_
      exact e_invv dX10_hold_17 cl_10_96 (kX10 h0) (by simp) rfl rfl (by simp)
theorem BX10_hold_20 {C : gC} {G : gG} {Q : gK} {σ : gM} {a0 : Nat} {v1 : Int32} {v2 : Int32} {s0 : Int32} (h0 : isX10 G a0) : gw C G mX10_hold Q 20 [.ref a0, .int v1, .int v2] [.int s0] σ = (if s0 < 0 then Q (some (.int (-4))) σ else gw C G mX10_hold Q 26 [.ref a0, .int v1, .int v2] [] σ) := by
  refine Eq.trans (e_if_ge (t := 26) dX10_hold_20 (by decide)) (g_ite ?_ ?_)
  · refine Eq.trans (e_bipush (x := (-4)) dX10_hold_23 (by decide)) ?_
    exact e_ireti dX10_hold_25 rfl
  · rfl
theorem BX10_hold_26 {C : gC} {G : gG} {Q : gK} {σ : gM} {a0 : Nat} {v1 : Int32} {v2 : Int32} (h0 : isX10 G a0) : gw C G mX10_hold Q 26 [.ref a0, .int v1, .int v2] [] σ = (if v2 = (-1) then (vp_in v1 6 ∧ gw C G mX10_hold Q 42 [.ref a0, .int v1, .int v2] [] (g_up σ (a0 + 11) v1.toNatClampNeg 0)) else (vp_in v1 6 ∧ gw C G mX10_hold Q 42 [.ref a0, .int v1, .int v2] [] (g_up σ (a0 + 11) v1.toNatClampNeg 1))) := by
  refine Eq.trans (e_aload_n dX10_hold_26 rfl) ?_
  refine Eq.trans (e_getr (b := a0 + 11) dX10_hold_27 fl_10_40 (kX10 h0) (sX10_12 h0)) ?_
  refine Eq.trans (e_iload_n dX10_hold_30 rfl) ?_
  refine Eq.trans (e_iload_n dX10_hold_31 rfl) ?_
  refine Eq.trans (e_iconst (x := (-1)) dX10_hold_32 (by decide)) ?_
  refine Eq.trans (e_ic_ne (t := 40) dX10_hold_33 (by decide)) (g_ite ?_ ?_)
  · refine Eq.trans (e_iconst (x := 0) dX10_hold_36 (by decide)) ?_
    refine Eq.trans (e_goto (t := 41) dX10_hold_37 (by decide)) ?_
    refine Eq.trans (e_iast dX10_hold_41 (aX10_12 h0) (nX10_12 h0)) (g_cj ?_)
    rfl
  · refine Eq.trans (e_iconst (x := 1) dX10_hold_40 (by decide)) ?_
    refine Eq.trans (e_iast dX10_hold_41 (aX10_12 h0) (nX10_12 h0)) (g_cj ?_)
    rfl
theorem BX10_hold_42 {C : gC} {G : gG} {Q : gK} {σ : gM} {a0 : Nat} {v1 : Int32} {v2 : Int32} (h0 : isX10 G a0) : gw C G mX10_hold Q 42 [.ref a0, .int v1, .int v2] [] σ = (vp_in v1 6 ∧ Q (some (.int 1)) (g_up σ (a0 + 12) v1.toNatClampNeg v2)) := by
  refine Eq.trans (e_aload_n dX10_hold_42 rfl) ?_
  refine Eq.trans (e_getr (b := a0 + 12) dX10_hold_43 fl_10_43 (kX10 h0) (sX10_13 h0)) ?_
  refine Eq.trans (e_iload_n dX10_hold_46 rfl) ?_
  refine Eq.trans (e_iload_n dX10_hold_47 rfl) ?_
  refine Eq.trans (e_iast dX10_hold_48 (aX10_13 h0) (nX10_13 h0)) (g_cj ?_)
  refine Eq.trans (e_iconst (x := 1) dX10_hold_49 (by decide)) ?_
  exact e_ireti dX10_hold_50 rfl
theorem BX10_row_0 {C : gC} {G : gG} {Q : gK} {σ : gM} {a0 : Nat} {v1 : Int32} {v2 : Int32} (h0 : isX10 G a0) : gw C G mX10_row Q 0 [.ref a0, .int v1, .int v2, .long 0] [] σ = (g_inv C mX10_isHolder [.ref a0, .int v1] σ fun r σ' => gw C G mX10_row Q 5 [.ref a0, .int v1, .int v2, .long 0] (r.toList ++ []) σ') := by
  refine Eq.trans (e_aload_n dX10_row_0 rfl) ?_
  refine Eq.trans (e_iload_n dX10_row_1 rfl) ?_
  exact e_invv dX10_row_2 cl_10_146 (kX10 h0) (by simp) rfl rfl (by simp)
theorem BX10_row_5 {C : gC} {G : gG} {Q : gK} {σ : gM} {a0 : Nat} {v1 : Int32} {v2 : Int32} {wv3 : Value} {s0 : Int32} (h0 : isX10 G a0) : gw C G mX10_row Q 5 [.ref a0, .int v1, .int v2, wv3] [.int s0] σ = (if s0 = 0 then Q (some (.int (-1))) σ else (if 60 < v2 then Q (some (.int (-1))) σ else (if v2 < 0 then Q (some (.int (-14))) σ else (vp_in v1 6 ∧ gw C G mX10_row Q 30 [.ref a0, .int v1, .int v2, wv3] [] (g_up σ (a0 + 11) v1.toNatClampNeg 2))))) := by
  refine Eq.trans (e_if_eq (t := 14) dX10_row_5 (by decide)) (g_ite ?_ ?_)
  · refine Eq.trans (e_iconst (x := (-1)) dX10_row_14 (by decide)) ?_
    exact e_ireti dX10_row_15 rfl
  · refine Eq.trans (e_iload_n dX10_row_8 rfl) ?_
    refine Eq.trans (e_bipush (x := 60) dX10_row_9 (by decide)) ?_
    refine Eq.trans (e_ic_le (t := 16) dX10_row_11 (by decide)) (g_ite ?_ ?_)
    · refine Eq.trans (e_iconst (x := (-1)) dX10_row_14 (by decide)) ?_
      exact e_ireti dX10_row_15 rfl
    · refine Eq.trans (e_iload_n dX10_row_16 rfl) ?_
      refine Eq.trans (e_if_ge (t := 23) dX10_row_17 (by decide)) (g_ite ?_ ?_)
      · refine Eq.trans (e_bipush (x := (-14)) dX10_row_20 (by decide)) ?_
        exact e_ireti dX10_row_22 rfl
      · refine Eq.trans (e_aload_n dX10_row_23 rfl) ?_
        refine Eq.trans (e_getr (b := a0 + 11) dX10_row_24 fl_10_40 (kX10 h0) (sX10_12 h0)) ?_
        refine Eq.trans (e_iload_n dX10_row_27 rfl) ?_
        refine Eq.trans (e_iconst (x := 2) dX10_row_28 (by decide)) ?_
        refine Eq.trans (e_iast dX10_row_29 (aX10_12 h0) (nX10_12 h0)) (g_cj ?_)
        rfl
theorem BX10_row_30 {C : gC} {G : gG} {Q : gK} {σ : gM} {a0 : Nat} {v1 : Int32} {v2 : Int32} {wv3 : Value} (h0 : isX10 G a0) : gw C G mX10_row Q 30 [.ref a0, .int v1, .int v2, wv3] [] σ = (vp_in v1 6 ∧ gw C G mX10_row Q 39 [.ref a0, .int v1, .int v2, .int 0] [] (g_up σ (a0 + 13) v1.toNatClampNeg v2)) := by
  refine Eq.trans (e_aload_n dX10_row_30 rfl) ?_
  refine Eq.trans (e_getr (b := a0 + 13) dX10_row_31 fl_10_46 (kX10 h0) (sX10_14 h0)) ?_
  refine Eq.trans (e_iload_n dX10_row_34 rfl) ?_
  refine Eq.trans (e_iload_n dX10_row_35 rfl) ?_
  refine Eq.trans (e_iast dX10_row_36 (aX10_14 h0) (nX10_14 h0)) (g_cj ?_)
  refine Eq.trans (e_iconst (x := 0) dX10_row_37 (by decide)) ?_
  refine Eq.trans (e_istore_n dX10_row_38 (Nat.le_of_ble_eq_true rfl)) ?_
  rfl
theorem BX10_row_39 {C : gC} {G : gG} {Q : gK} {σ : gM} {a0 : Nat} {v1 : Int32} {v2 : Int32} {v3 : Int32} (h0 : isX10 G a0) : gw C G mX10_row Q 39 [.ref a0, .int v1, .int v2, .int v3] [] σ = (if v3 < 60 then (vp_in v1 6 ∧ (vp_in v3 60 ∧ gw C G mX10_row Q 39 [.ref a0, .int v1, .int v2, .int (v3 + 1)] [] (g_up σ (a0 + 15 + v1.toNatClampNeg) v3.toNatClampNeg 0))) else Q (some (.int 1)) σ) := by
  refine Eq.trans (e_iload_n dX10_row_39 rfl) ?_
  refine Eq.trans (e_bipush (x := 60) dX10_row_40 (by decide)) ?_
  refine Eq.trans (e_ic_ge (t := 60) dX10_row_42 (by decide)) (g_ite ?_ ?_)
  · refine Eq.trans (e_aload_n dX10_row_45 rfl) ?_
    refine Eq.trans (e_getr (b := a0 + 14) dX10_row_46 fl_10_51 (kX10 h0) (sX10_15 h0)) ?_
    refine Eq.trans (e_iload_n dX10_row_49 rfl) ?_
    refine Eq.trans (e_aald dX10_row_50 (aX10_15 h0) (nX10_15 h0)) (g_cjr ?_)
    intro hr
    have hr := rX10_15 h0 _ (vp_lt hr)
    rw [hr.1]
    refine Eq.trans (e_iload_n dX10_row_51 rfl) ?_
    refine Eq.trans (e_iconst (x := 0) dX10_row_52 (by decide)) ?_
    refine Eq.trans (e_iast dX10_row_53 hr.2.1 hr.2.2) (g_cj ?_)
    refine Eq.trans (e_iinc (y := 1) dX10_row_54 rfl (by decide)) ?_
    refine Eq.trans (e_goto (t := 39) dX10_row_57 (by decide)) ?_
    rfl
  · refine Eq.trans (e_iconst (x := 1) dX10_row_60 (by decide)) ?_
    exact e_ireti dX10_row_61 rfl
theorem BX10_put_0 {C : gC} {G : gG} {Q : gK} {σ : gM} {a0 : Nat} {v1 : Int32} {v2 : Int32} {v3 : Int32} (h0 : isX10 G a0) : gw C G mX10_put Q 0 [.ref a0, .int v1, .int v2, .int v3, .long 0] [] σ = (g_inv C mX10_isHolder [.ref a0, .int v1] σ fun r σ' => gw C G mX10_put Q 5 [.ref a0, .int v1, .int v2, .int v3, .long 0] (r.toList ++ []) σ') := by
  refine Eq.trans (e_aload_n dX10_put_0 rfl) ?_
  refine Eq.trans (e_iload_n dX10_put_1 rfl) ?_
  exact e_invv dX10_put_2 cl_10_146 (kX10 h0) (by simp) rfl rfl (by simp)
theorem BX10_put_5 {C : gC} {G : gG} {Q : gK} {σ : gM} {a0 : Nat} {v1 : Int32} {v2 : Int32} {v3 : Int32} {wv4 : Value} {s0 : Int32} (h0 : isX10 G a0) : gw C G mX10_put Q 5 [.ref a0, .int v1, .int v2, .int v3, wv4] [.int s0] σ = (if s0 = 0 then Q (some (.int (-2000000000))) σ else (vp_in v1 6 ∧ (if (σ (a0 + 11) v1.toNatClampNeg) = 2 then (vp_in v1 6 ∧ (g_inv C mX10_in [.int v2, .int 0, .int ((σ (a0 + 13) v1.toNatClampNeg) - 1)] σ fun r σ' => gw C G mX10_put Q 31 [.ref a0, .int v1, .int v2, .int v3, wv4] (r.toList ++ []) σ')) else Q (some (.int (-2000000000))) σ))) := by
  refine Eq.trans (e_if_eq (t := 34) dX10_put_5 (by decide)) (g_ite ?_ ?_)
  · refine Eq.trans (e_ldc dX10_put_34 cn_10_114) ?_
    exact e_ireti dX10_put_36 rfl
  · refine Eq.trans (e_aload_n dX10_put_8 rfl) ?_
    refine Eq.trans (e_getr (b := a0 + 11) dX10_put_9 fl_10_40 (kX10 h0) (sX10_12 h0)) ?_
    refine Eq.trans (e_iload_n dX10_put_12 rfl) ?_
    refine Eq.trans (e_iald dX10_put_13 (aX10_12 h0) (nX10_12 h0)) (g_cj ?_)
    refine Eq.trans (e_iconst (x := 2) dX10_put_14 (by decide)) ?_
    refine Eq.trans (e_ic_ne (t := 34) dX10_put_15 (by decide)) (g_ite ?_ ?_)
    · refine Eq.trans (e_iload_n dX10_put_18 rfl) ?_
      refine Eq.trans (e_iconst (x := 0) dX10_put_19 (by decide)) ?_
      refine Eq.trans (e_aload_n dX10_put_20 rfl) ?_
      refine Eq.trans (e_getr (b := a0 + 13) dX10_put_21 fl_10_46 (kX10 h0) (sX10_14 h0)) ?_
      refine Eq.trans (e_iload_n dX10_put_24 rfl) ?_
      refine Eq.trans (e_iald dX10_put_25 (aX10_14 h0) (nX10_14 h0)) (g_cj ?_)
      refine Eq.trans (e_iconst (x := 1) dX10_put_26 (by decide)) ?_
      refine Eq.trans (e_isub dX10_put_27) ?_
      exact e_invs dX10_put_28 cl_10_65 (by decide) (by simp) rfl rfl (by simp)
    · refine Eq.trans (e_ldc dX10_put_34 cn_10_114) ?_
      exact e_ireti dX10_put_36 rfl
theorem BX10_put_31 {C : gC} {G : gG} {Q : gK} {σ : gM} {a0 : Nat} {v1 : Int32} {v2 : Int32} {v3 : Int32} {wv4 : Value} {s0 : Int32} (h0 : isX10 G a0) : gw C G mX10_put Q 31 [.ref a0, .int v1, .int v2, .int v3, wv4] [.int s0] σ = (if s0 = 0 then Q (some (.int (-2000000000))) σ else (vp_in v1 6 ∧ (vp_in v2 60 ∧ (vp_in v1 6 ∧ (vp_in v2 60 ∧ Q (some (.int (σ (a0 + 15 + v1.toNatClampNeg) v2.toNatClampNeg))) (g_up σ (a0 + 15 + v1.toNatClampNeg) v2.toNatClampNeg v3)))))) := by
  refine Eq.trans (e_if_ne (t := 37) dX10_put_31 (by decide)) (g_ite ?_ ?_)
  · refine Eq.trans (e_ldc dX10_put_34 cn_10_114) ?_
    exact e_ireti dX10_put_36 rfl
  · refine Eq.trans (e_aload_n dX10_put_37 rfl) ?_
    refine Eq.trans (e_getr (b := a0 + 14) dX10_put_38 fl_10_51 (kX10 h0) (sX10_15 h0)) ?_
    refine Eq.trans (e_iload_n dX10_put_41 rfl) ?_
    refine Eq.trans (e_aald dX10_put_42 (aX10_15 h0) (nX10_15 h0)) (g_cjr ?_)
    intro hr
    have hr := rX10_15 h0 _ (vp_lt hr)
    rw [hr.1]
    refine Eq.trans (e_iload_n dX10_put_43 rfl) ?_
    refine Eq.trans (e_iald dX10_put_44 hr.2.1 hr.2.2) (g_cj ?_)
    refine Eq.trans (e_istore dX10_put_45 (Nat.le_of_ble_eq_true rfl)) ?_
    refine Eq.trans (e_aload_n dX10_put_47 rfl) ?_
    refine Eq.trans (e_getr (b := a0 + 14) dX10_put_48 fl_10_51 (kX10 h0) (sX10_15 h0)) ?_
    refine Eq.trans (e_iload_n dX10_put_51 rfl) ?_
    refine Eq.trans (e_aald dX10_put_52 (aX10_15 h0) (nX10_15 h0)) (g_cjr ?_)
    intro hr
    have hr := rX10_15 h0 _ (vp_lt hr)
    rw [hr.1]
    refine Eq.trans (e_iload_n dX10_put_53 rfl) ?_
    refine Eq.trans (e_iload_n dX10_put_54 rfl) ?_
    refine Eq.trans (e_iast dX10_put_55 hr.2.1 hr.2.2) (g_cj ?_)
    refine Eq.trans (e_iload dX10_put_56 rfl) ?_
    exact e_ireti dX10_put_58 rfl
theorem BX10_tells_0 {C : gC} {G : gG} {Q : gK} {σ : gM} {a0 : Nat} {v1 : Int32} {v2 : Int32} (h0 : isX10 G a0) : gw C G mX10_tells Q 0 [.ref a0, .int v1, .int v2, .long 0] [] σ = (g_inv C mX10_isHolder [.ref a0, .int v1] σ fun r σ' => gw C G mX10_tells Q 5 [.ref a0, .int v1, .int v2, .long 0] (r.toList ++ []) σ') := by
  refine Eq.trans (e_aload_n dX10_tells_0 rfl) ?_
  refine Eq.trans (e_iload_n dX10_tells_1 rfl) ?_
  exact e_invv dX10_tells_2 cl_10_146 (kX10 h0) (by simp) rfl rfl (by simp)
theorem BX10_tells_5 {C : gC} {G : gG} {Q : gK} {σ : gM} {a0 : Nat} {v1 : Int32} {v2 : Int32} {wv3 : Value} {s0 : Int32} (h0 : isX10 G a0) : gw C G mX10_tells Q 5 [.ref a0, .int v1, .int v2, wv3] [.int s0] σ = (if s0 = 0 then Q (some (.int (-1))) σ else (g_inv C mX10_in [.int v2, .int 0, .int 3] σ fun r σ' => gw C G mX10_tells Q 14 [.ref a0, .int v1, .int v2, wv3] (r.toList ++ []) σ')) := by
  refine Eq.trans (e_if_eq (t := 17) dX10_tells_5 (by decide)) (g_ite ?_ ?_)
  · refine Eq.trans (e_iconst (x := (-1)) dX10_tells_17 (by decide)) ?_
    exact e_ireti dX10_tells_18 rfl
  · refine Eq.trans (e_iload_n dX10_tells_8 rfl) ?_
    refine Eq.trans (e_iconst (x := 0) dX10_tells_9 (by decide)) ?_
    refine Eq.trans (e_iconst (x := 3) dX10_tells_10 (by decide)) ?_
    exact e_invs dX10_tells_11 cl_10_65 (by decide) (by simp) rfl rfl (by simp)
theorem BX10_tells_14 {C : gC} {G : gG} {Q : gK} {σ : gM} {a0 : Nat} {v1 : Int32} {v2 : Int32} {wv3 : Value} {s0 : Int32} (h0 : isX10 G a0) : gw C G mX10_tells Q 14 [.ref a0, .int v1, .int v2, wv3] [.int s0] σ = (if s0 = 0 then Q (some (.int (-1))) σ else (vp_in v1 6 ∧ (if (σ (a0 + 11) v1.toNatClampNeg) = 1 then (if v2 = 0 then (vp_in v1 6 ∧ Q (some (.int ((σ (a0 + 12) v1.toNatClampNeg) / 100))) σ) else (vp_in v1 6 ∧ (g_inv C mX10_good [.ref a0, .int (σ (a0 + 12) v1.toNatClampNeg)] σ fun r σ' => gw C G mX10_tells Q 70 [.ref a0, .int v1, .int v2, wv3] (r.toList ++ []) σ'))) else (vp_in v1 6 ∧ (if (σ (a0 + 11) v1.toNatClampNeg) = 0 then Q (some (.int (-11))) σ else Q (some (.int (-12))) σ))))) := by
  refine Eq.trans (e_if_ne (t := 19) dX10_tells_14 (by decide)) (g_ite ?_ ?_)
  · refine Eq.trans (e_iconst (x := (-1)) dX10_tells_17 (by decide)) ?_
    exact e_ireti dX10_tells_18 rfl
  · refine Eq.trans (e_aload_n dX10_tells_19 rfl) ?_
    refine Eq.trans (e_getr (b := a0 + 11) dX10_tells_20 fl_10_40 (kX10 h0) (sX10_12 h0)) ?_
    refine Eq.trans (e_iload_n dX10_tells_23 rfl) ?_
    refine Eq.trans (e_iald dX10_tells_24 (aX10_12 h0) (nX10_12 h0)) (g_cj ?_)
    refine Eq.trans (e_iconst (x := 1) dX10_tells_25 (by decide)) ?_
    refine Eq.trans (e_ic_eq (t := 46) dX10_tells_26 (by decide)) (g_ite ?_ ?_)
    · refine Eq.trans (e_iload_n dX10_tells_46 rfl) ?_
      refine Eq.trans (e_if_ne (t := 60) dX10_tells_47 (by decide)) (g_ite ?_ ?_)
      · refine Eq.trans (e_aload_n dX10_tells_50 rfl) ?_
        refine Eq.trans (e_getr (b := a0 + 12) dX10_tells_51 fl_10_43 (kX10 h0) (sX10_13 h0)) ?_
        refine Eq.trans (e_iload_n dX10_tells_54 rfl) ?_
        refine Eq.trans (e_iald dX10_tells_55 (aX10_13 h0) (nX10_13 h0)) (g_cj ?_)
        refine Eq.trans (e_bipush (x := 100) dX10_tells_56 (by decide)) ?_
        refine Eq.trans (e_idiv dX10_tells_58 (by decide)) ?_
        exact e_ireti dX10_tells_59 rfl
      · refine Eq.trans (e_aload_n dX10_tells_60 rfl) ?_
        refine Eq.trans (e_aload_n dX10_tells_61 rfl) ?_
        refine Eq.trans (e_getr (b := a0 + 12) dX10_tells_62 fl_10_43 (kX10 h0) (sX10_13 h0)) ?_
        refine Eq.trans (e_iload_n dX10_tells_65 rfl) ?_
        refine Eq.trans (e_iald dX10_tells_66 (aX10_13 h0) (nX10_13 h0)) (g_cj ?_)
        exact e_invv dX10_tells_67 cl_10_96 (kX10 h0) (by simp) rfl rfl (by simp)
    · refine Eq.trans (e_aload_n dX10_tells_29 rfl) ?_
      refine Eq.trans (e_getr (b := a0 + 11) dX10_tells_30 fl_10_40 (kX10 h0) (sX10_12 h0)) ?_
      refine Eq.trans (e_iload_n dX10_tells_33 rfl) ?_
      refine Eq.trans (e_iald dX10_tells_34 (aX10_12 h0) (nX10_12 h0)) (g_cj ?_)
      refine Eq.trans (e_if_ne (t := 43) dX10_tells_35 (by decide)) (g_ite ?_ ?_)
      · refine Eq.trans (e_bipush (x := (-11)) dX10_tells_38 (by decide)) ?_
        refine Eq.trans (e_goto (t := 45) dX10_tells_40 (by decide)) ?_
        exact e_ireti dX10_tells_45 rfl
      · refine Eq.trans (e_bipush (x := (-12)) dX10_tells_43 (by decide)) ?_
        exact e_ireti dX10_tells_45 rfl
theorem BX10_tells_70 {C : gC} {G : gG} {Q : gK} {σ : gM} {a0 : Nat} {v1 : Int32} {v2 : Int32} {wv3 : Value} {s0 : Int32} (h0 : isX10 G a0) : gw C G mX10_tells Q 70 [.ref a0, .int v1, .int v2, wv3] [.int s0] σ = (if s0 < 0 then Q (some (.int (-12))) σ else (if v2 = 2 then (g_inv C mX10_at [.ref a0, .int s0, .int 6] σ fun r σ' => gw C G mX10_tells Q 87 [.ref a0, .int v1, .int v2, .int s0] (r.toList ++ []) σ') else gw C G mX10_tells Q 90 [.ref a0, .int v1, .int v2, .int s0] [] σ)) := by
  refine Eq.trans (e_istore_n dX10_tells_70 (Nat.le_of_ble_eq_true rfl)) ?_
  refine Eq.trans (e_iload_n dX10_tells_71 rfl) ?_
  refine Eq.trans (e_if_lt (t := 105) dX10_tells_72 (by decide)) (g_ite ?_ ?_)
  · refine Eq.trans (e_bipush (x := (-12)) dX10_tells_105 (by decide)) ?_
    exact e_ireti dX10_tells_107 rfl
  · refine Eq.trans (e_iload_n dX10_tells_75 rfl) ?_
    refine Eq.trans (e_iconst (x := 2) dX10_tells_76 (by decide)) ?_
    refine Eq.trans (e_ic_ne (t := 90) dX10_tells_77 (by decide)) (g_ite ?_ ?_)
    · refine Eq.trans (e_aload_n dX10_tells_80 rfl) ?_
      refine Eq.trans (e_iload_n dX10_tells_81 rfl) ?_
      refine Eq.trans (e_bipush (x := 6) dX10_tells_82 (by decide)) ?_
      exact e_invv dX10_tells_84 cl_10_57 (kX10 h0) (by simp) rfl rfl (by simp)
    · rfl
theorem BX10_tells_87 {C : gC} {G : gG} {Q : gK} {σ : gM} {a0 : Nat} {v1 : Int32} {v2 : Int32} {v3 : Int32} {s0 : Int32} (h0 : isX10 G a0) : gw C G mX10_tells Q 87 [.ref a0, .int v1, .int v2, .int v3] [.int s0] σ = (if s0 = 0 then Q (some (.int (-12))) σ else gw C G mX10_tells Q 90 [.ref a0, .int v1, .int v2, .int v3] [] σ) := by
  refine Eq.trans (e_if_eq (t := 105) dX10_tells_87 (by decide)) (g_ite ?_ ?_)
  · refine Eq.trans (e_bipush (x := (-12)) dX10_tells_105 (by decide)) ?_
    exact e_ireti dX10_tells_107 rfl
  · rfl
theorem BX10_tells_90 {C : gC} {G : gG} {Q : gK} {σ : gM} {a0 : Nat} {v1 : Int32} {v2 : Int32} {v3 : Int32} (h0 : isX10 G a0) : gw C G mX10_tells Q 90 [.ref a0, .int v1, .int v2, .int v3] [] σ = (if v2 = 3 then (g_inv C mX10_at [.ref a0, .int v3, .int 7] σ fun r σ' => gw C G mX10_tells Q 102 [.ref a0, .int v1, .int v2, .int v3] (r.toList ++ []) σ') else gw C G mX10_tells Q 108 [.ref a0, .int v1, .int v2, .int v3] [] σ) := by
  refine Eq.trans (e_iload_n dX10_tells_90 rfl) ?_
  refine Eq.trans (e_iconst (x := 3) dX10_tells_91 (by decide)) ?_
  refine Eq.trans (e_ic_ne (t := 108) dX10_tells_92 (by decide)) (g_ite ?_ ?_)
  · refine Eq.trans (e_aload_n dX10_tells_95 rfl) ?_
    refine Eq.trans (e_iload_n dX10_tells_96 rfl) ?_
    refine Eq.trans (e_bipush (x := 7) dX10_tells_97 (by decide)) ?_
    exact e_invv dX10_tells_99 cl_10_57 (kX10 h0) (by simp) rfl rfl (by simp)
  · rfl
theorem BX10_tells_102 {C : gC} {G : gG} {Q : gK} {σ : gM} {a0 : Nat} {v1 : Int32} {v2 : Int32} {v3 : Int32} {s0 : Int32} (h0 : isX10 G a0) : gw C G mX10_tells Q 102 [.ref a0, .int v1, .int v2, .int v3] [.int s0] σ = (if s0 < 0 then Q (some (.int (-12))) σ else gw C G mX10_tells Q 108 [.ref a0, .int v1, .int v2, .int v3] [] σ) := by
  refine Eq.trans (e_if_ge (t := 108) dX10_tells_102 (by decide)) (g_ite ?_ ?_)
  · refine Eq.trans (e_bipush (x := (-12)) dX10_tells_105 (by decide)) ?_
    exact e_ireti dX10_tells_107 rfl
  · rfl
theorem BX10_tells_108 {C : gC} {G : gG} {Q : gK} {σ : gM} {a0 : Nat} {v1 : Int32} {v2 : Int32} {v3 : Int32} (h0 : isX10 G a0) : gw C G mX10_tells Q 108 [.ref a0, .int v1, .int v2, .int v3] [] σ = (if v2 = 1 then gw C G mX10_tells Q 131 [.ref a0, .int v1, .int v2, .int v3] [.int 3, .int v3, .ref a0] σ else (if v2 = 2 then gw C G mX10_tells Q 131 [.ref a0, .int v1, .int v2, .int v3] [.int 6, .int v3, .ref a0] σ else gw C G mX10_tells Q 131 [.ref a0, .int v1, .int v2, .int v3] [.int 7, .int v3, .ref a0] σ)) := by
  refine Eq.trans (e_aload_n dX10_tells_108 rfl) ?_
  refine Eq.trans (e_iload_n dX10_tells_109 rfl) ?_
  refine Eq.trans (e_iload_n dX10_tells_110 rfl) ?_
  refine Eq.trans (e_iconst (x := 1) dX10_tells_111 (by decide)) ?_
  refine Eq.trans (e_ic_ne (t := 119) dX10_tells_112 (by decide)) (g_ite ?_ ?_)
  · refine Eq.trans (e_iconst (x := 3) dX10_tells_115 (by decide)) ?_
    refine Eq.trans (e_goto (t := 131) dX10_tells_116 (by decide)) ?_
    rfl
  · refine Eq.trans (e_iload_n dX10_tells_119 rfl) ?_
    refine Eq.trans (e_iconst (x := 2) dX10_tells_120 (by decide)) ?_
    refine Eq.trans (e_ic_ne (t := 129) dX10_tells_121 (by decide)) (g_ite ?_ ?_)
    · refine Eq.trans (e_bipush (x := 6) dX10_tells_124 (by decide)) ?_
      refine Eq.trans (e_goto (t := 131) dX10_tells_126 (by decide)) ?_
      rfl
    · refine Eq.trans (e_bipush (x := 7) dX10_tells_129 (by decide)) ?_
      rfl
theorem BX10_tells_131 {C : gC} {G : gG} {Q : gK} {σ : gM} {a0 : Nat} {v1 : Int32} {v2 : Int32} {v3 : Int32} {s1 : Int32} {s2 : Int32} (h0 : isX10 G a0) : gw C G mX10_tells Q 131 [.ref a0, .int v1, .int v2, .int v3] [.int s2, .int s1, .ref a0] σ = (g_inv C mX10_at [.ref a0, .int s1, .int s2] σ fun r σ' => gw C G mX10_tells Q 134 [.ref a0, .int v1, .int v2, .int v3] (r.toList ++ []) σ') := by
  exact e_invv dX10_tells_131 cl_10_57 (kX10 h0) (by simp) rfl rfl (by simp)
theorem BX10_tells_134 {C : gC} {G : gG} {Q : gK} {σ : gM} {a0 : Nat} {v1 : Int32} {v2 : Int32} {v3 : Int32} {s0 : Int32} (h0 : isX10 G a0) : gw C G mX10_tells Q 134 [.ref a0, .int v1, .int v2, .int v3] [.int s0] σ = Q (some (.int s0)) σ := by
  exact e_ireti dX10_tells_134 rfl
theorem BX10_count_0 {C : gC} {G : gG} {Q : gK} {σ : gM} {a0 : Nat} {v1 : Int32} (h0 : isX10 G a0) : gw C G mX10_count Q 0 [.ref a0, .int v1, .long 0, .long 0] [] σ = (if v1 = 0 then (vp_in 570 607 ∧ Q (some (.int (σ (a0 + 1) (570 : Int32).toNatClampNeg))) σ) else (if v1 = 1 then (g_inv C mX10_liveMany [.ref a0, .int (-1)] σ fun r σ' => gw C G mX10_count Q 62 [.ref a0, .int v1, .int 0, .long 0] (r.toList ++ []) σ') else (if v1 = 2 then gw C G mX10_count Q 65 [.ref a0, .int v1, .int 0, .int 0] [] σ else (if v1 = 3 then (g_inv C mX10_tagsMany [.ref a0] σ fun r σ' => gw C G mX10_count Q 101 [.ref a0, .int v1, .int 0, .long 0] (r.toList ++ []) σ') else (if v1 = 4 then (vp_in 605 607 ∧ Q (some (.int (σ (a0 + 1) (605 : Int32).toNatClampNeg))) σ) else (if v1 = 5 then gw C G mX10_count Q 113 [.ref a0, .int v1, .int 0, .int 0] [] σ else (if v1 = 6 then Q (some (.int (σ a0 11))) σ else (if v1 = 7 then gw C G mX10_count Q 156 [.ref a0, .int v1, .int 0, .int 0] [] σ else Q (some (.int (-1))) σ)))))))) := by
  refine Eq.trans (e_iconst (x := 0) dX10_count_0 (by decide)) ?_
  refine Eq.trans (e_istore_n dX10_count_1 (Nat.le_of_ble_eq_true rfl)) ?_
  refine Eq.trans (e_iload_n dX10_count_2 rfl) ?_
  refine Eq.trans (e_switch dX10_count_3 (by decide)) ?_
  refine Eq.trans (g_sw1 (y := 0) (t := 48) (by decide) (by decide) (g_sw1 (y := 1) (t := 57) (by decide) (by decide) (g_sw1 (y := 2) (t := 63) (by decide) (by decide) (g_sw1 (y := 3) (t := 97) (by decide) (by decide) (g_sw1 (y := 4) (t := 102) (by decide) (by decide) (g_sw1 (y := 5) (t := 111) (by decide) (by decide) (g_sw1 (y := 6) (t := 149) (by decide) (by decide) (g_sw1 (y := 7) (t := 154) (by decide) (by decide) (g_sw0 (t := 187) (by decide)))))))))) ?_
  refine g_ite ?_ (g_ite ?_ (g_ite ?_ (g_ite ?_ (g_ite ?_ (g_ite ?_ (g_ite ?_ (g_ite ?_ (?_))))))))
  · refine Eq.trans (e_aload_n dX10_count_48 rfl) ?_
    refine Eq.trans (e_getr (b := a0 + 1) dX10_count_49 fl_10_9 (kX10 h0) (sX10_0 h0)) ?_
    refine Eq.trans (e_sipush (x := 570) dX10_count_52 (by decide)) ?_
    refine Eq.trans (e_iald dX10_count_55 (aX10_0 h0) (nX10_0 h0)) (g_cj ?_)
    exact e_ireti dX10_count_56 rfl
  · refine Eq.trans (e_aload_n dX10_count_57 rfl) ?_
    refine Eq.trans (e_iconst (x := (-1)) dX10_count_58 (by decide)) ?_
    exact e_invv dX10_count_59 cl_10_127 (kX10 h0) (by simp) rfl rfl (by simp)
  · refine Eq.trans (e_iconst (x := 0) dX10_count_63 (by decide)) ?_
    refine Eq.trans (e_istore_n dX10_count_64 (Nat.le_of_ble_eq_true rfl)) ?_
    rfl
  · refine Eq.trans (e_aload_n dX10_count_97 rfl) ?_
    exact e_invv dX10_count_98 cl_10_121 (kX10 h0) (by simp) rfl rfl (by simp)
  · refine Eq.trans (e_aload_n dX10_count_102 rfl) ?_
    refine Eq.trans (e_getr (b := a0 + 1) dX10_count_103 fl_10_9 (kX10 h0) (sX10_0 h0)) ?_
    refine Eq.trans (e_sipush (x := 605) dX10_count_106 (by decide)) ?_
    refine Eq.trans (e_iald dX10_count_109 (aX10_0 h0) (nX10_0 h0)) (g_cj ?_)
    exact e_ireti dX10_count_110 rfl
  · refine Eq.trans (e_iconst (x := 0) dX10_count_111 (by decide)) ?_
    refine Eq.trans (e_istore_n dX10_count_112 (Nat.le_of_ble_eq_true rfl)) ?_
    rfl
  · refine Eq.trans (e_aload_n dX10_count_149 rfl) ?_
    refine Eq.trans (e_geti dX10_count_150 fl_10_152 (kX10 h0)) ?_
    exact e_ireti dX10_count_153 rfl
  · refine Eq.trans (e_iconst (x := 0) dX10_count_154 (by decide)) ?_
    refine Eq.trans (e_istore_n dX10_count_155 (Nat.le_of_ble_eq_true rfl)) ?_
    rfl
  · refine Eq.trans (e_iconst (x := (-1)) dX10_count_187 (by decide)) ?_
    exact e_ireti dX10_count_188 rfl
theorem BX10_count_62 {C : gC} {G : gG} {Q : gK} {σ : gM} {a0 : Nat} {v1 : Int32} {v2 : Int32} {wv3 : Value} {s0 : Int32} (h0 : isX10 G a0) : gw C G mX10_count Q 62 [.ref a0, .int v1, .int v2, wv3] [.int s0] σ = Q (some (.int s0)) σ := by
  exact e_ireti dX10_count_62 rfl
theorem BX10_count_65 {C : gC} {G : gG} {Q : gK} {σ : gM} {a0 : Nat} {v1 : Int32} {v2 : Int32} {v3 : Int32} (h0 : isX10 G a0) : gw C G mX10_count Q 65 [.ref a0, .int v1, .int v2, .int v3] [] σ = (if v3 < 30 then (g_inv C mX10_at [.ref a0, .int v3, .int 0] σ fun r σ' => gw C G mX10_count Q 78 [.ref a0, .int v1, .int v2, .int v3] (r.toList ++ [.int v2]) σ') else Q (some (.int v2)) σ) := by
  refine Eq.trans (e_iload_n dX10_count_65 rfl) ?_
  refine Eq.trans (e_bipush (x := 30) dX10_count_66 (by decide)) ?_
  refine Eq.trans (e_ic_ge (t := 95) dX10_count_68 (by decide)) (g_ite ?_ ?_)
  · refine Eq.trans (e_iload_n dX10_count_71 rfl) ?_
    refine Eq.trans (e_aload_n dX10_count_72 rfl) ?_
    refine Eq.trans (e_iload_n dX10_count_73 rfl) ?_
    refine Eq.trans (e_iconst (x := 0) dX10_count_74 (by decide)) ?_
    exact e_invv dX10_count_75 cl_10_57 (kX10 h0) (by simp) rfl rfl (by simp)
  · refine Eq.trans (e_iload_n dX10_count_95 rfl) ?_
    exact e_ireti dX10_count_96 rfl
theorem BX10_count_78 {C : gC} {G : gG} {Q : gK} {σ : gM} {a0 : Nat} {v1 : Int32} {v2 : Int32} {v3 : Int32} {s0 : Int32} {s1 : Int32} (h0 : isX10 G a0) : gw C G mX10_count Q 78 [.ref a0, .int v1, .int v2, .int v3] [.int s1, .int s0] σ = (if s1 = 2 then gw C G mX10_count Q 65 [.ref a0, .int v1, .int (s0 + 1), .int (v3 + 1)] [] σ else gw C G mX10_count Q 65 [.ref a0, .int v1, .int (s0 + 0), .int (v3 + 1)] [] σ) := by
  refine Eq.trans (e_iconst (x := 2) dX10_count_78 (by decide)) ?_
  refine Eq.trans (e_ic_ne (t := 86) dX10_count_79 (by decide)) (g_ite ?_ ?_)
  · refine Eq.trans (e_iconst (x := 1) dX10_count_82 (by decide)) ?_
    refine Eq.trans (e_goto (t := 87) dX10_count_83 (by decide)) ?_
    refine Eq.trans (e_iadd dX10_count_87) ?_
    refine Eq.trans (e_istore_n dX10_count_88 (Nat.le_of_ble_eq_true rfl)) ?_
    refine Eq.trans (e_iinc (y := 1) dX10_count_89 rfl (by decide)) ?_
    refine Eq.trans (e_goto (t := 65) dX10_count_92 (by decide)) ?_
    rfl
  · refine Eq.trans (e_iconst (x := 0) dX10_count_86 (by decide)) ?_
    refine Eq.trans (e_iadd dX10_count_87) ?_
    refine Eq.trans (e_istore_n dX10_count_88 (Nat.le_of_ble_eq_true rfl)) ?_
    refine Eq.trans (e_iinc (y := 1) dX10_count_89 rfl (by decide)) ?_
    refine Eq.trans (e_goto (t := 65) dX10_count_92 (by decide)) ?_
    rfl
theorem BX10_count_101 {C : gC} {G : gG} {Q : gK} {σ : gM} {a0 : Nat} {v1 : Int32} {v2 : Int32} {wv3 : Value} {s0 : Int32} (h0 : isX10 G a0) : gw C G mX10_count Q 101 [.ref a0, .int v1, .int v2, wv3] [.int s0] σ = Q (some (.int s0)) σ := by
  exact e_ireti dX10_count_101 rfl
theorem BX10_count_113 {C : gC} {G : gG} {Q : gK} {σ : gM} {a0 : Nat} {v1 : Int32} {v2 : Int32} {v3 : Int32} (h0 : isX10 G a0) : gw C G mX10_count Q 113 [.ref a0, .int v1, .int v2, .int v3] [] σ = (if v3 < 30 then (g_inv C mX10_at [.ref a0, .int v3, .int 0] σ fun r σ' => gw C G mX10_count Q 126 [.ref a0, .int v1, .int v2, .int v3] (r.toList ++ [.int v2]) σ') else Q (some (.int v2)) σ) := by
  refine Eq.trans (e_iload_n dX10_count_113 rfl) ?_
  refine Eq.trans (e_bipush (x := 30) dX10_count_114 (by decide)) ?_
  refine Eq.trans (e_ic_ge (t := 147) dX10_count_116 (by decide)) (g_ite ?_ ?_)
  · refine Eq.trans (e_iload_n dX10_count_119 rfl) ?_
    refine Eq.trans (e_aload_n dX10_count_120 rfl) ?_
    refine Eq.trans (e_iload_n dX10_count_121 rfl) ?_
    refine Eq.trans (e_iconst (x := 0) dX10_count_122 (by decide)) ?_
    exact e_invv dX10_count_123 cl_10_57 (kX10 h0) (by simp) rfl rfl (by simp)
  · refine Eq.trans (e_iload_n dX10_count_147 rfl) ?_
    exact e_ireti dX10_count_148 rfl
theorem BX10_count_126 {C : gC} {G : gG} {Q : gK} {σ : gM} {a0 : Nat} {v1 : Int32} {v2 : Int32} {v3 : Int32} {s0 : Int32} {s1 : Int32} (h0 : isX10 G a0) : gw C G mX10_count Q 126 [.ref a0, .int v1, .int v2, .int v3] [.int s1, .int s0] σ = (if s1 = 0 then gw C G mX10_count Q 113 [.ref a0, .int v1, .int (s0 + 0), .int (v3 + 1)] [] σ else (g_inv C mX10_at [.ref a0, .int v3, .int 3] σ fun r σ' => gw C G mX10_count Q 135 [.ref a0, .int v1, .int v2, .int v3] (r.toList ++ [.int s0]) σ')) := by
  refine Eq.trans (e_if_eq (t := 138) dX10_count_126 (by decide)) (g_ite ?_ ?_)
  · refine Eq.trans (e_iconst (x := 0) dX10_count_138 (by decide)) ?_
    refine Eq.trans (e_iadd dX10_count_139) ?_
    refine Eq.trans (e_istore_n dX10_count_140 (Nat.le_of_ble_eq_true rfl)) ?_
    refine Eq.trans (e_iinc (y := 1) dX10_count_141 rfl (by decide)) ?_
    refine Eq.trans (e_goto (t := 113) dX10_count_144 (by decide)) ?_
    rfl
  · refine Eq.trans (e_aload_n dX10_count_129 rfl) ?_
    refine Eq.trans (e_iload_n dX10_count_130 rfl) ?_
    refine Eq.trans (e_iconst (x := 3) dX10_count_131 (by decide)) ?_
    exact e_invv dX10_count_132 cl_10_57 (kX10 h0) (by simp) rfl rfl (by simp)
theorem BX10_count_135 {C : gC} {G : gG} {Q : gK} {σ : gM} {a0 : Nat} {v1 : Int32} {v2 : Int32} {v3 : Int32} {s0 : Int32} {s1 : Int32} (h0 : isX10 G a0) : gw C G mX10_count Q 135 [.ref a0, .int v1, .int v2, .int v3] [.int s1, .int s0] σ = gw C G mX10_count Q 113 [.ref a0, .int v1, .int (s0 + s1), .int (v3 + 1)] [] σ := by
  refine Eq.trans (e_goto (t := 139) dX10_count_135 (by decide)) ?_
  refine Eq.trans (e_iadd dX10_count_139) ?_
  refine Eq.trans (e_istore_n dX10_count_140 (Nat.le_of_ble_eq_true rfl)) ?_
  refine Eq.trans (e_iinc (y := 1) dX10_count_141 rfl (by decide)) ?_
  refine Eq.trans (e_goto (t := 113) dX10_count_144 (by decide)) ?_
  rfl
theorem BX10_count_156 {C : gC} {G : gG} {Q : gK} {σ : gM} {a0 : Nat} {v1 : Int32} {v2 : Int32} {v3 : Int32} (h0 : isX10 G a0) : gw C G mX10_count Q 156 [.ref a0, .int v1, .int v2, .int v3] [] σ = (if v3 < 6 then (vp_in v3 6 ∧ (if (σ (a0 + 11) v3.toNatClampNeg) = 0 then gw C G mX10_count Q 156 [.ref a0, .int v1, .int (v2 + 0), .int (v3 + 1)] [] σ else gw C G mX10_count Q 156 [.ref a0, .int v1, .int (v2 + 1), .int (v3 + 1)] [] σ)) else Q (some (.int v2)) σ) := by
  refine Eq.trans (e_iload_n dX10_count_156 rfl) ?_
  refine Eq.trans (e_bipush (x := 6) dX10_count_157 (by decide)) ?_
  refine Eq.trans (e_ic_ge (t := 185) dX10_count_159 (by decide)) (g_ite ?_ ?_)
  · refine Eq.trans (e_iload_n dX10_count_162 rfl) ?_
    refine Eq.trans (e_aload_n dX10_count_163 rfl) ?_
    refine Eq.trans (e_getr (b := a0 + 11) dX10_count_164 fl_10_40 (kX10 h0) (sX10_12 h0)) ?_
    refine Eq.trans (e_iload_n dX10_count_167 rfl) ?_
    refine Eq.trans (e_iald dX10_count_168 (aX10_12 h0) (nX10_12 h0)) (g_cj ?_)
    refine Eq.trans (e_if_eq (t := 176) dX10_count_169 (by decide)) (g_ite ?_ ?_)
    · refine Eq.trans (e_iconst (x := 0) dX10_count_176 (by decide)) ?_
      refine Eq.trans (e_iadd dX10_count_177) ?_
      refine Eq.trans (e_istore_n dX10_count_178 (Nat.le_of_ble_eq_true rfl)) ?_
      refine Eq.trans (e_iinc (y := 1) dX10_count_179 rfl (by decide)) ?_
      refine Eq.trans (e_goto (t := 156) dX10_count_182 (by decide)) ?_
      rfl
    · refine Eq.trans (e_iconst (x := 1) dX10_count_172 (by decide)) ?_
      refine Eq.trans (e_goto (t := 177) dX10_count_173 (by decide)) ?_
      refine Eq.trans (e_iadd dX10_count_177) ?_
      refine Eq.trans (e_istore_n dX10_count_178 (Nat.le_of_ble_eq_true rfl)) ?_
      refine Eq.trans (e_iinc (y := 1) dX10_count_179 rfl (by decide)) ?_
      refine Eq.trans (e_goto (t := 156) dX10_count_182 (by decide)) ?_
      rfl
  · refine Eq.trans (e_iload_n dX10_count_185 rfl) ?_
    exact e_ireti dX10_count_186 rfl
