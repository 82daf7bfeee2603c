theorem BX3_quotaAllows_0 {C : gC} {G : gG} {Q : gK} {σ : gM} {a0 : Nat} {v1 : Int32} {v2 : Int32} (h0 : isX3 G a0) : gw C G mX3_quotaAllows Q 0 [.ref a0, .int v1, .int v2] [] σ = (g_inv C mX0_usedBy [.ref (a0 + 8), .int v1] σ fun r σ' => gw C G mX3_quotaAllows Q 8 [.ref a0, .int v1, .int v2] (r.toList ++ []) σ') := by
  refine Eq.trans (e_aload_n dX3_quotaAllows_0 rfl) ?_
  refine Eq.trans (e_getr (b := a0 + 8) dX3_quotaAllows_1 fl_3_32 (kX3 h0) (sX3_4 h0)) ?_
  refine Eq.trans (e_iload_n dX3_quotaAllows_4 rfl) ?_
  exact e_invv dX3_quotaAllows_5 cl_3_74 (kX0 (iX3_4 h0)) (by simp) rfl rfl (by simp)
theorem BX3_quotaAllows_8 {C : gC} {G : gG} {Q : gK} {σ : gM} {a0 : Nat} {v1 : Int32} {v2 : Int32} {s0 : Int32} (h0 : isX3 G a0) : gw C G mX3_quotaAllows Q 8 [.ref a0, .int v1, .int v2] [.int s0] σ = (vp_in v1 10 ∧ (if (σ (a0 + 20) v1.toNatClampNeg) < (s0 + v2) then Q (some (.int 0)) σ else Q (some (.int 1)) σ)) := by
  refine Eq.trans (e_iload_n dX3_quotaAllows_8 rfl) ?_
  refine Eq.trans (e_iadd dX3_quotaAllows_9) ?_
  refine Eq.trans (e_aload_n dX3_quotaAllows_10 rfl) ?_
  refine Eq.trans (e_getr (b := a0 + 20) dX3_quotaAllows_11 fl_3_43 (kX3 h0) (sX3_6 h0)) ?_
  refine Eq.trans (e_iload_n dX3_quotaAllows_14 rfl) ?_
  refine Eq.trans (e_iald dX3_quotaAllows_15 (aX3_6 h0) (nX3_6 h0)) (g_cj ?_)
  refine Eq.trans (e_ic_gt (t := 23) dX3_quotaAllows_16 (by decide)) (g_ite ?_ ?_)
  · refine Eq.trans (e_iconst (x := 0) dX3_quotaAllows_23 (by decide)) ?_
    exact Eq.trans (e_iretz dX3_quotaAllows_24 rfl) (g_and (by decide))
  · refine Eq.trans (e_iconst (x := 1) dX3_quotaAllows_19 (by decide)) ?_
    refine Eq.trans (e_goto (t := 24) dX3_quotaAllows_20 (by decide)) ?_
    exact Eq.trans (e_iretz dX3_quotaAllows_24 rfl) (g_and (by decide))
theorem BX3_placeFor_0 {C : gC} {G : gG} {Q : gK} {σ : gM} {a0 : Nat} {v1 : Int32} {v2 : Int32} (h0 : isX3 G a0) : gw C G mX3_placeFor Q 0 [.ref a0, .int v1, .int v2] [] σ = (g_inv C mX1_placeIn [.ref (a0 + 6), .ref (a0 + 2), .int v1, .int v2] σ fun r σ' => gw C G mX3_placeFor Q 13 [.ref a0, .int v1, .int v2] (r.toList ++ []) σ') := by
  refine Eq.trans (e_aload_n dX3_placeFor_0 rfl) ?_
  refine Eq.trans (e_getr (b := a0 + 6) dX3_placeFor_1 fl_3_25 (kX3 h0) (sX3_3 h0)) ?_
  refine Eq.trans (e_aload_n dX3_placeFor_4 rfl) ?_
  refine Eq.trans (e_getr (b := a0 + 2) dX3_placeFor_5 fl_3_18 (kX3 h0) (sX3_2 h0)) ?_
  refine Eq.trans (e_iload_n dX3_placeFor_8 rfl) ?_
  refine Eq.trans (e_iload_n dX3_placeFor_9 rfl) ?_
  exact e_invv dX3_placeFor_10 cl_3_78 (kX1 (iX3_3 h0)) (by simp) rfl rfl (by simp)
theorem BX3_placeFor_13 {C : gC} {G : gG} {Q : gK} {σ : gM} {a0 : Nat} {v1 : Int32} {v2 : Int32} {s0 : Int32} (h0 : isX3 G a0) : gw C G mX3_placeFor Q 13 [.ref a0, .int v1, .int v2] [.int s0] σ = Q (some (.int s0)) σ := by
  exact e_ireti dX3_placeFor_13 rfl
theorem BX3_makeBlock_0 {C : gC} {G : gG} {Q : gK} {σ : gM} {a0 : Nat} {v1 : Int32} {v2 : Int32} {v3 : Int32} {v4 : Int32} {v5 : Int32} (h0 : isX3 G a0) : gw C G mX3_makeBlock Q 0 [.ref a0, .int v1, .int v2, .int v3, .int v4, .int v5] [] σ = (vp_in v1 30 ∧ (vp_in v1 30 ∧ gw C G mX3_makeBlock Q 13 [.ref a0, .int v1, .int v2, .int v3, .int v4, .int v5] [] (g_up σ (a0 + 9) v1.toNatClampNeg ((σ (a0 + 9) v1.toNatClampNeg) + 1)))) := by
  refine Eq.trans (e_aload_n dX3_makeBlock_0 rfl) ?_
  refine Eq.trans (e_getr (b := a0 + 8) dX3_makeBlock_1 fl_3_32 (kX3 h0) (sX3_4 h0)) ?_
  refine Eq.trans (e_getr (b := a0 + 9) dX3_makeBlock_4 fl_3_88 (kX0 (iX3_4 h0)) (sX0_0 (iX3_4 h0))) ?_
  refine Eq.trans (e_iload_n dX3_makeBlock_7 rfl) ?_
  refine Eq.trans (e_dup2 dX3_makeBlock_8) ?_
  refine Eq.trans (e_iald dX3_makeBlock_9 (aX0_0 (iX3_4 h0)) (nX0_0 (iX3_4 h0))) (g_cj ?_)
  refine Eq.trans (e_iconst (x := 1) dX3_makeBlock_10 (by decide)) ?_
  refine Eq.trans (e_iadd dX3_makeBlock_11) ?_
  refine Eq.trans (e_iast dX3_makeBlock_12 (aX0_0 (iX3_4 h0)) (nX0_0 (iX3_4 h0))) (g_cj ?_)
  rfl
theorem BX3_makeBlock_13 {C : gC} {G : gG} {Q : gK} {σ : gM} {a0 : Nat} {v1 : Int32} {v2 : Int32} {v3 : Int32} {v4 : Int32} {v5 : Int32} (h0 : isX3 G a0) : gw C G mX3_makeBlock Q 13 [.ref a0, .int v1, .int v2, .int v3, .int v4, .int v5] [] σ = (vp_in v1 30 ∧ gw C G mX3_makeBlock Q 23 [.ref a0, .int v1, .int v2, .int v3, .int v4, .int v5] [] (g_up σ (a0 + 10) v1.toNatClampNeg 1)) := by
  refine Eq.trans (e_aload_n dX3_makeBlock_13 rfl) ?_
  refine Eq.trans (e_getr (b := a0 + 8) dX3_makeBlock_14 fl_3_32 (kX3 h0) (sX3_4 h0)) ?_
  refine Eq.trans (e_getr (b := a0 + 10) dX3_makeBlock_17 fl_3_91 (kX0 (iX3_4 h0)) (sX0_1 (iX3_4 h0))) ?_
  refine Eq.trans (e_iload_n dX3_makeBlock_20 rfl) ?_
  refine Eq.trans (e_iconst (x := 1) dX3_makeBlock_21 (by decide)) ?_
  refine Eq.trans (e_iast dX3_makeBlock_22 (aX0_1 (iX3_4 h0)) (nX0_1 (iX3_4 h0))) (g_cj ?_)
  rfl
theorem BX3_makeBlock_23 {C : gC} {G : gG} {Q : gK} {σ : gM} {a0 : Nat} {v1 : Int32} {v2 : Int32} {v3 : Int32} {v4 : Int32} {v5 : Int32} (h0 : isX3 G a0) : gw C G mX3_makeBlock Q 23 [.ref a0, .int v1, .int v2, .int v3, .int v4, .int v5] [] σ = (vp_in v1 30 ∧ gw C G mX3_makeBlock Q 33 [.ref a0, .int v1, .int v2, .int v3, .int v4, .int v5] [] (g_up σ (a0 + 11) v1.toNatClampNeg v3)) := by
  refine Eq.trans (e_aload_n dX3_makeBlock_23 rfl) ?_
  refine Eq.trans (e_getr (b := a0 + 8) dX3_makeBlock_24 fl_3_32 (kX3 h0) (sX3_4 h0)) ?_
  refine Eq.trans (e_getr (b := a0 + 11) dX3_makeBlock_27 fl_3_85 (kX0 (iX3_4 h0)) (sX0_2 (iX3_4 h0))) ?_
  refine Eq.trans (e_iload_n dX3_makeBlock_30 rfl) ?_
  refine Eq.trans (e_iload_n dX3_makeBlock_31 rfl) ?_
  refine Eq.trans (e_iast dX3_makeBlock_32 (aX0_2 (iX3_4 h0)) (nX0_2 (iX3_4 h0))) (g_cj ?_)
  rfl
theorem BX3_makeBlock_33 {C : gC} {G : gG} {Q : gK} {σ : gM} {a0 : Nat} {v1 : Int32} {v2 : Int32} {v3 : Int32} {v4 : Int32} {v5 : Int32} (h0 : isX3 G a0) : gw C G mX3_makeBlock Q 33 [.ref a0, .int v1, .int v2, .int v3, .int v4, .int v5] [] σ = (vp_in v1 30 ∧ gw C G mX3_makeBlock Q 44 [.ref a0, .int v1, .int v2, .int v3, .int v4, .int v5] [] (g_up σ (a0 + 12) v1.toNatClampNeg v4)) := by
  refine Eq.trans (e_aload_n dX3_makeBlock_33 rfl) ?_
  refine Eq.trans (e_getr (b := a0 + 8) dX3_makeBlock_34 fl_3_32 (kX3 h0) (sX3_4 h0)) ?_
  refine Eq.trans (e_getr (b := a0 + 12) dX3_makeBlock_37 fl_3_82 (kX0 (iX3_4 h0)) (sX0_3 (iX3_4 h0))) ?_
  refine Eq.trans (e_iload_n dX3_makeBlock_40 rfl) ?_
  refine Eq.trans (e_iload dX3_makeBlock_41 rfl) ?_
  refine Eq.trans (e_iast dX3_makeBlock_43 (aX0_3 (iX3_4 h0)) (nX0_3 (iX3_4 h0))) (g_cj ?_)
  rfl
theorem BX3_makeBlock_44 {C : gC} {G : gG} {Q : gK} {σ : gM} {a0 : Nat} {v1 : Int32} {v2 : Int32} {v3 : Int32} {v4 : Int32} {v5 : Int32} (h0 : isX3 G a0) : gw C G mX3_makeBlock Q 44 [.ref a0, .int v1, .int v2, .int v3, .int v4, .int v5] [] σ = (vp_in v1 30 ∧ gw C G mX3_makeBlock Q 54 [.ref a0, .int v1, .int v2, .int v3, .int v4, .int v5] [] (g_up σ (a0 + 13) v1.toNatClampNeg v2)) := by
  refine Eq.trans (e_aload_n dX3_makeBlock_44 rfl) ?_
  refine Eq.trans (e_getr (b := a0 + 8) dX3_makeBlock_45 fl_3_32 (kX3 h0) (sX3_4 h0)) ?_
  refine Eq.trans (e_getr (b := a0 + 13) dX3_makeBlock_48 fl_3_94 (kX0 (iX3_4 h0)) (sX0_4 (iX3_4 h0))) ?_
  refine Eq.trans (e_iload_n dX3_makeBlock_51 rfl) ?_
  refine Eq.trans (e_iload_n dX3_makeBlock_52 rfl) ?_
  refine Eq.trans (e_iast dX3_makeBlock_53 (aX0_4 (iX3_4 h0)) (nX0_4 (iX3_4 h0))) (g_cj ?_)
  rfl
theorem BX3_makeBlock_54 {C : gC} {G : gG} {Q : gK} {σ : gM} {a0 : Nat} {v1 : Int32} {v2 : Int32} {v3 : Int32} {v4 : Int32} {v5 : Int32} (h0 : isX3 G a0) : gw C G mX3_makeBlock Q 54 [.ref a0, .int v1, .int v2, .int v3, .int v4, .int v5] [] σ = (vp_in v1 30 ∧ gw C G mX3_makeBlock Q 65 [.ref a0, .int v1, .int v2, .int v3, .int v4, .int v5] [] (g_up σ (a0 + 14) v1.toNatClampNeg v5)) := by
  refine Eq.trans (e_aload_n dX3_makeBlock_54 rfl) ?_
  refine Eq.trans (e_getr (b := a0 + 8) dX3_makeBlock_55 fl_3_32 (kX3 h0) (sX3_4 h0)) ?_
  refine Eq.trans (e_getr (b := a0 + 14) dX3_makeBlock_58 fl_3_97 (kX0 (iX3_4 h0)) (sX0_5 (iX3_4 h0))) ?_
  refine Eq.trans (e_iload_n dX3_makeBlock_61 rfl) ?_
  refine Eq.trans (e_iload dX3_makeBlock_62 rfl) ?_
  refine Eq.trans (e_iast dX3_makeBlock_64 (aX0_5 (iX3_4 h0)) (nX0_5 (iX3_4 h0))) (g_cj ?_)
  rfl
theorem BX3_makeBlock_65 {C : gC} {G : gG} {Q : gK} {σ : gM} {a0 : Nat} {v1 : Int32} {v2 : Int32} {v3 : Int32} {v4 : Int32} {v5 : Int32} (h0 : isX3 G a0) : gw C G mX3_makeBlock Q 65 [.ref a0, .int v1, .int v2, .int v3, .int v4, .int v5] [] σ = (vp_in v1 30 ∧ gw C G mX3_makeBlock Q 75 [.ref a0, .int v1, .int v2, .int v3, .int v4, .int v5] [] (g_up σ (a0 + 15) v1.toNatClampNeg 0)) := by
  refine Eq.trans (e_aload_n dX3_makeBlock_65 rfl) ?_
  refine Eq.trans (e_getr (b := a0 + 8) dX3_makeBlock_66 fl_3_32 (kX3 h0) (sX3_4 h0)) ?_
  refine Eq.trans (e_getr (b := a0 + 15) dX3_makeBlock_69 fl_3_100 (kX0 (iX3_4 h0)) (sX0_6 (iX3_4 h0))) ?_
  refine Eq.trans (e_iload_n dX3_makeBlock_72 rfl) ?_
  refine Eq.trans (e_iconst (x := 0) dX3_makeBlock_73 (by decide)) ?_
  refine Eq.trans (e_iast dX3_makeBlock_74 (aX0_6 (iX3_4 h0)) (nX0_6 (iX3_4 h0))) (g_cj ?_)
  rfl
theorem BX3_makeBlock_75 {C : gC} {G : gG} {Q : gK} {σ : gM} {a0 : Nat} {v1 : Int32} {v2 : Int32} {v3 : Int32} {v4 : Int32} {v5 : Int32} (h0 : isX3 G a0) : gw C G mX3_makeBlock Q 75 [.ref a0, .int v1, .int v2, .int v3, .int v4, .int v5] [] σ = (vp_in v1 30 ∧ gw C G mX3_makeBlock Q 85 [.ref a0, .int v1, .int v2, .int v3, .int v4, .int v5] [] (g_up σ (a0 + 16) v1.toNatClampNeg (-1))) := by
  refine Eq.trans (e_aload_n dX3_makeBlock_75 rfl) ?_
  refine Eq.trans (e_getr (b := a0 + 8) dX3_makeBlock_76 fl_3_32 (kX3 h0) (sX3_4 h0)) ?_
  refine Eq.trans (e_getr (b := a0 + 16) dX3_makeBlock_79 fl_3_103 (kX0 (iX3_4 h0)) (sX0_7 (iX3_4 h0))) ?_
  refine Eq.trans (e_iload_n dX3_makeBlock_82 rfl) ?_
  refine Eq.trans (e_iconst (x := (-1)) dX3_makeBlock_83 (by decide)) ?_
  refine Eq.trans (e_iast dX3_makeBlock_84 (aX0_7 (iX3_4 h0)) (nX0_7 (iX3_4 h0))) (g_cj ?_)
  rfl
theorem BX3_makeBlock_85 {C : gC} {G : gG} {Q : gK} {σ : gM} {a0 : Nat} {v1 : Int32} {v2 : Int32} {v3 : Int32} {v4 : Int32} {v5 : Int32} (h0 : isX3 G a0) : gw C G mX3_makeBlock Q 85 [.ref a0, .int v1, .int v2, .int v3, .int v4, .int v5] [] σ = (g_inv C mX1_take [.ref (a0 + 6), .int v3, .int v4, .int v1] σ fun r σ' => gw C G mX3_makeBlock Q 96 [.ref a0, .int v1, .int v2, .int v3, .int v4, .int v5] (r.toList ++ []) σ') := by
  refine Eq.trans (e_aload_n dX3_makeBlock_85 rfl) ?_
  refine Eq.trans (e_getr (b := a0 + 6) dX3_makeBlock_86 fl_3_25 (kX3 h0) (sX3_3 h0)) ?_
  refine Eq.trans (e_iload_n dX3_makeBlock_89 rfl) ?_
  refine Eq.trans (e_iload dX3_makeBlock_90 rfl) ?_
  refine Eq.trans (e_iload_n dX3_makeBlock_92 rfl) ?_
  exact e_invv dX3_makeBlock_93 cl_3_106 (kX1 (iX3_3 h0)) (by simp) rfl rfl (by simp)
theorem BX3_makeBlock_96 {C : gC} {G : gG} {Q : gK} {σ : gM} {a0 : Nat} {v1 : Int32} {v2 : Int32} {v3 : Int32} {v4 : Int32} {v5 : Int32} (h0 : isX3 G a0) : gw C G mX3_makeBlock Q 96 [.ref a0, .int v1, .int v2, .int v3, .int v4, .int v5] [] σ = (g_inv C mX9_fill [.ref (a0 + 1), .int v3, .int v4, .int 0] σ fun r σ' => gw C G mX3_makeBlock Q 107 [.ref a0, .int v1, .int v2, .int v3, .int v4, .int v5] (r.toList ++ []) σ') := by
  refine Eq.trans (e_aload_n dX3_makeBlock_96 rfl) ?_
  refine Eq.trans (e_getr (b := a0 + 1) dX3_makeBlock_97 fl_3_9 (kX3 h0) (sX3_1 h0)) ?_
  refine Eq.trans (e_iload_n dX3_makeBlock_100 rfl) ?_
  refine Eq.trans (e_iload dX3_makeBlock_101 rfl) ?_
  refine Eq.trans (e_iconst (x := 0) dX3_makeBlock_103 (by decide)) ?_
  exact e_invs dX3_makeBlock_104 cl_3_49 (by decide) (by simp) rfl rfl (by simp)
theorem BX3_makeBlock_107 {C : gC} {G : gG} {Q : gK} {σ : gM} {a0 : Nat} {v1 : Int32} {v2 : Int32} {v3 : Int32} {v4 : Int32} {v5 : Int32} (h0 : isX3 G a0) : gw C G mX3_makeBlock Q 107 [.ref a0, .int v1, .int v2, .int v3, .int v4, .int v5] [] σ = Q none σ := by
  exact e_ret dX3_makeBlock_107 rfl
theorem BX3_doom_0 {C : gC} {G : gG} {Q : gK} {σ : gM} {a0 : Nat} {v1 : Int32} (h0 : isX3 G a0) : gw C G mX3_doom Q 0 [.ref a0, .int v1] [] σ = (vp_in v1 30 ∧ gw C G mX3_doom Q 10 [.ref a0, .int v1] [] (g_up σ (a0 + 10) v1.toNatClampNeg 2)) := by
  refine Eq.trans (e_aload_n dX3_doom_0 rfl) ?_
  refine Eq.trans (e_getr (b := a0 + 8) dX3_doom_1 fl_3_32 (kX3 h0) (sX3_4 h0)) ?_
  refine Eq.trans (e_getr (b := a0 + 10) dX3_doom_4 fl_3_91 (kX0 (iX3_4 h0)) (sX0_1 (iX3_4 h0))) ?_
  refine Eq.trans (e_iload_n dX3_doom_7 rfl) ?_
  refine Eq.trans (e_iconst (x := 2) dX3_doom_8 (by decide)) ?_
  refine Eq.trans (e_iast dX3_doom_9 (aX0_1 (iX3_4 h0)) (nX0_1 (iX3_4 h0))) (g_cj ?_)
  rfl
theorem BX3_doom_10 {C : gC} {G : gG} {Q : gK} {σ : gM} {a0 : Nat} {v1 : Int32} (h0 : isX3 G a0) : gw C G mX3_doom Q 10 [.ref a0, .int v1] [] σ = (vp_in v1 30 ∧ gw C G mX3_doom Q 23 [.ref a0, .int v1] [] (g_up σ (a0 + 17) v1.toNatClampNeg (σ a0 0))) := by
  refine Eq.trans (e_aload_n dX3_doom_10 rfl) ?_
  refine Eq.trans (e_getr (b := a0 + 8) dX3_doom_11 fl_3_32 (kX3 h0) (sX3_4 h0)) ?_
  refine Eq.trans (e_getr (b := a0 + 17) dX3_doom_14 fl_3_110 (kX0 (iX3_4 h0)) (sX0_8 (iX3_4 h0))) ?_
  refine Eq.trans (e_iload_n dX3_doom_17 rfl) ?_
  refine Eq.trans (e_aload_n dX3_doom_18 rfl) ?_
  refine Eq.trans (e_geti dX3_doom_19 fl_3_53 (kX3 h0)) ?_
  refine Eq.trans (e_iast dX3_doom_22 (aX0_8 (iX3_4 h0)) (nX0_8 (iX3_4 h0))) (g_cj ?_)
  rfl
theorem BX3_doom_23 {C : gC} {G : gG} {Q : gK} {σ : gM} {a0 : Nat} {v1 : Int32} (h0 : isX3 G a0) : gw C G mX3_doom Q 23 [.ref a0, .int v1] [] σ = (vp_in v1 30 ∧ gw C G mX3_doom Q 33 [.ref a0, .int v1] [] (g_up σ (a0 + 16) v1.toNatClampNeg (-1))) := by
  refine Eq.trans (e_aload_n dX3_doom_23 rfl) ?_
  refine Eq.trans (e_getr (b := a0 + 8) dX3_doom_24 fl_3_32 (kX3 h0) (sX3_4 h0)) ?_
  refine Eq.trans (e_getr (b := a0 + 16) dX3_doom_27 fl_3_103 (kX0 (iX3_4 h0)) (sX0_7 (iX3_4 h0))) ?_
  refine Eq.trans (e_iload_n dX3_doom_30 rfl) ?_
  refine Eq.trans (e_iconst (x := (-1)) dX3_doom_31 (by decide)) ?_
  refine Eq.trans (e_iast dX3_doom_32 (aX0_7 (iX3_4 h0)) (nX0_7 (iX3_4 h0))) (g_cj ?_)
  rfl
theorem BX3_doom_33 {C : gC} {G : gG} {Q : gK} {σ : gM} {a0 : Nat} {v1 : Int32} (h0 : isX3 G a0) : gw C G mX3_doom Q 33 [.ref a0, .int v1] [] σ = (g_inv C mX6_drop [.ref (a0 + 18), .int v1] σ fun r σ' => gw C G mX3_doom Q 41 [.ref a0, .int v1] (r.toList ++ []) σ') := by
  refine Eq.trans (e_aload_n dX3_doom_33 rfl) ?_
  refine Eq.trans (e_getr (b := a0 + 18) dX3_doom_34 fl_3_39 (kX3 h0) (sX3_5 h0)) ?_
  refine Eq.trans (e_iload_n dX3_doom_37 rfl) ?_
  exact e_invv dX3_doom_38 cl_3_113 (kX6 (iX3_5 h0)) (by simp) rfl rfl (by simp)
theorem BX3_doom_41 {C : gC} {G : gG} {Q : gK} {σ : gM} {a0 : Nat} {v1 : Int32} (h0 : isX3 G a0) : gw C G mX3_doom Q 41 [.ref a0, .int v1] [] σ = Q none σ := by
  exact e_ret dX3_doom_41 rfl
theorem BX3_growInPlace_0 {C : gC} {G : gG} {Q : gK} {σ : gM} {a0 : Nat} {v1 : Int32} {v2 : Int32} (h0 : isX3 G a0) : gw C G mX3_growInPlace Q 0 [.ref a0, .int v1, .int v2, .long 0] [] σ = (vp_in v1 30 ∧ (vp_in v1 30 ∧ (vp_in v1 30 ∧ (g_inv C mX5_highOf [.ref (a0 + 2), .int (σ (a0 + 13) v1.toNatClampNeg)] σ fun r σ' => gw C G mX3_growInPlace Q 39 [.ref a0, .int v1, .int v2, .int ((σ (a0 + 11) v1.toNatClampNeg) + (σ (a0 + 12) v1.toNatClampNeg))] (r.toList ++ [.int (((σ (a0 + 11) v1.toNatClampNeg) + (σ (a0 + 12) v1.toNatClampNeg)) + v2)]) σ')))) := by
  refine Eq.trans (e_aload_n dX3_growInPlace_0 rfl) ?_
  refine Eq.trans (e_getr (b := a0 + 8) dX3_growInPlace_1 fl_3_32 (kX3 h0) (sX3_4 h0)) ?_
  refine Eq.trans (e_getr (b := a0 + 11) dX3_growInPlace_4 fl_3_85 (kX0 (iX3_4 h0)) (sX0_2 (iX3_4 h0))) ?_
  refine Eq.trans (e_iload_n dX3_growInPlace_7 rfl) ?_
  refine Eq.trans (e_iald dX3_growInPlace_8 (aX0_2 (iX3_4 h0)) (nX0_2 (iX3_4 h0))) (g_cj ?_)
  refine Eq.trans (e_aload_n dX3_growInPlace_9 rfl) ?_
  refine Eq.trans (e_getr (b := a0 + 8) dX3_growInPlace_10 fl_3_32 (kX3 h0) (sX3_4 h0)) ?_
  refine Eq.trans (e_getr (b := a0 + 12) dX3_growInPlace_13 fl_3_82 (kX0 (iX3_4 h0)) (sX0_3 (iX3_4 h0))) ?_
  refine Eq.trans (e_iload_n dX3_growInPlace_16 rfl) ?_
  refine Eq.trans (e_iald dX3_growInPlace_17 (aX0_3 (iX3_4 h0)) (nX0_3 (iX3_4 h0))) (g_cj ?_)
  refine Eq.trans (e_iadd dX3_growInPlace_18) ?_
  refine Eq.trans (e_istore_n dX3_growInPlace_19 (Nat.le_of_ble_eq_true rfl)) ?_
  refine Eq.trans (e_iload_n dX3_growInPlace_20 rfl) ?_
  refine Eq.trans (e_iload_n dX3_growInPlace_21 rfl) ?_
  refine Eq.trans (e_iadd dX3_growInPlace_22) ?_
  refine Eq.trans (e_aload_n dX3_growInPlace_23 rfl) ?_
  refine Eq.trans (e_getr (b := a0 + 2) dX3_growInPlace_24 fl_3_18 (kX3 h0) (sX3_2 h0)) ?_
  refine Eq.trans (e_aload_n dX3_growInPlace_27 rfl) ?_
  refine Eq.trans (e_getr (b := a0 + 8) dX3_growInPlace_28 fl_3_32 (kX3 h0) (sX3_4 h0)) ?_
  refine Eq.trans (e_getr (b := a0 + 13) dX3_growInPlace_31 fl_3_94 (kX0 (iX3_4 h0)) (sX0_4 (iX3_4 h0))) ?_
  refine Eq.trans (e_iload_n dX3_growInPlace_34 rfl) ?_
  refine Eq.trans (e_iald dX3_growInPlace_35 (aX0_4 (iX3_4 h0)) (nX0_4 (iX3_4 h0))) (g_cj ?_)
  exact e_invv dX3_growInPlace_36 cl_3_117 (kX5 (iX3_2 h0)) (by simp) rfl rfl (by simp)
theorem BX3_growInPlace_39 {C : gC} {G : gG} {Q : gK} {σ : gM} {a0 : Nat} {v1 : Int32} {v2 : Int32} {v3 : Int32} {s0 : Int32} {s1 : Int32} (h0 : isX3 G a0) : gw C G mX3_growInPlace Q 39 [.ref a0, .int v1, .int v2, .int v3] [.int s1, .int s0] σ = (if s1 < s0 then Q (some (.int 0)) σ else (g_inv C mX1_isFree [.ref (a0 + 6), .int v3, .int v2] σ fun r σ' => gw C G mX3_growInPlace Q 53 [.ref a0, .int v1, .int v2, .int v3] (r.toList ++ []) σ')) := by
  refine Eq.trans (e_ic_le (t := 44) dX3_growInPlace_39 (by decide)) (g_ite ?_ ?_)
  · refine Eq.trans (e_iconst (x := 0) dX3_growInPlace_42 (by decide)) ?_
    exact Eq.trans (e_iretz dX3_growInPlace_43 rfl) (g_and (by decide))
  · refine Eq.trans (e_aload_n dX3_growInPlace_44 rfl) ?_
    refine Eq.trans (e_getr (b := a0 + 6) dX3_growInPlace_45 fl_3_25 (kX3 h0) (sX3_3 h0)) ?_
    refine Eq.trans (e_iload_n dX3_growInPlace_48 rfl) ?_
    refine Eq.trans (e_iload_n dX3_growInPlace_49 rfl) ?_
    exact e_invv dX3_growInPlace_50 cl_3_120 (kX1 (iX3_3 h0)) (by simp) rfl rfl (by simp)
theorem BX3_growInPlace_53 {C : gC} {G : gG} {Q : gK} {σ : gM} {a0 : Nat} {v1 : Int32} {v2 : Int32} {v3 : Int32} {s0 : Int32} (h0 : isX3 G a0) : gw C G mX3_growInPlace Q 53 [.ref a0, .int v1, .int v2, .int v3] [.int s0] σ = (if s0 = 0 then Q (some (.int 0)) σ else (g_inv C mX1_take [.ref (a0 + 6), .int v3, .int v2, .int v1] σ fun r σ' => gw C G mX3_growInPlace Q 68 [.ref a0, .int v1, .int v2, .int v3] (r.toList ++ []) σ')) := by
  refine Eq.trans (e_if_ne (t := 58) dX3_growInPlace_53 (by decide)) (g_ite ?_ ?_)
  · refine Eq.trans (e_iconst (x := 0) dX3_growInPlace_56 (by decide)) ?_
    exact Eq.trans (e_iretz dX3_growInPlace_57 rfl) (g_and (by decide))
  · refine Eq.trans (e_aload_n dX3_growInPlace_58 rfl) ?_
    refine Eq.trans (e_getr (b := a0 + 6) dX3_growInPlace_59 fl_3_25 (kX3 h0) (sX3_3 h0)) ?_
    refine Eq.trans (e_iload_n dX3_growInPlace_62 rfl) ?_
    refine Eq.trans (e_iload_n dX3_growInPlace_63 rfl) ?_
    refine Eq.trans (e_iload_n dX3_growInPlace_64 rfl) ?_
    exact e_invv dX3_growInPlace_65 cl_3_106 (kX1 (iX3_3 h0)) (by simp) rfl rfl (by simp)
theorem BX3_growInPlace_68 {C : gC} {G : gG} {Q : gK} {σ : gM} {a0 : Nat} {v1 : Int32} {v2 : Int32} {v3 : Int32} (h0 : isX3 G a0) : gw C G mX3_growInPlace Q 68 [.ref a0, .int v1, .int v2, .int v3] [] σ = (g_inv C mX9_fill [.ref (a0 + 1), .int v3, .int v2, .int 0] σ fun r σ' => gw C G mX3_growInPlace Q 78 [.ref a0, .int v1, .int v2, .int v3] (r.toList ++ []) σ') := by
  refine Eq.trans (e_aload_n dX3_growInPlace_68 rfl) ?_
  refine Eq.trans (e_getr (b := a0 + 1) dX3_growInPlace_69 fl_3_9 (kX3 h0) (sX3_1 h0)) ?_
  refine Eq.trans (e_iload_n dX3_growInPlace_72 rfl) ?_
  refine Eq.trans (e_iload_n dX3_growInPlace_73 rfl) ?_
  refine Eq.trans (e_iconst (x := 0) dX3_growInPlace_74 (by decide)) ?_
  exact e_invs dX3_growInPlace_75 cl_3_49 (by decide) (by simp) rfl rfl (by simp)
theorem BX3_growInPlace_78 {C : gC} {G : gG} {Q : gK} {σ : gM} {a0 : Nat} {v1 : Int32} {v2 : Int32} {v3 : Int32} (h0 : isX3 G a0) : gw C G mX3_growInPlace Q 78 [.ref a0, .int v1, .int v2, .int v3] [] σ = (vp_in v1 30 ∧ (vp_in v1 30 ∧ Q (some (.int 1)) (g_up σ (a0 + 12) v1.toNatClampNeg ((σ (a0 + 12) v1.toNatClampNeg) + v2)))) := by
  refine Eq.trans (e_aload_n dX3_growInPlace_78 rfl) ?_
  refine Eq.trans (e_getr (b := a0 + 8) dX3_growInPlace_79 fl_3_32 (kX3 h0) (sX3_4 h0)) ?_
  refine Eq.trans (e_getr (b := a0 + 12) dX3_growInPlace_82 fl_3_82 (kX0 (iX3_4 h0)) (sX0_3 (iX3_4 h0))) ?_
  refine Eq.trans (e_iload_n dX3_growInPlace_85 rfl) ?_
  refine Eq.trans (e_dup2 dX3_growInPlace_86) ?_
  refine Eq.trans (e_iald dX3_growInPlace_87 (aX0_3 (iX3_4 h0)) (nX0_3 (iX3_4 h0))) (g_cj ?_)
  refine Eq.trans (e_iload_n dX3_growInPlace_88 rfl) ?_
  refine Eq.trans (e_iadd dX3_growInPlace_89) ?_
  refine Eq.trans (e_iast dX3_growInPlace_90 (aX0_3 (iX3_4 h0)) (nX0_3 (iX3_4 h0))) (g_cj ?_)
  refine Eq.trans (e_iconst (x := 1) dX3_growInPlace_91 (by decide)) ?_
  exact Eq.trans (e_iretz dX3_growInPlace_92 rfl) (g_and (by decide))
theorem BX3_growElsewhere_0 {C : gC} {G : gG} {Q : gK} {σ : gM} {a0 : Nat} {v1 : Int32} {v2 : Int32} (h0 : isX3 G a0) : gw C G mX3_growElsewhere Q 0 [.ref a0, .int v1, .int v2, .long 0, .long 0] [] σ = (vp_in v1 30 ∧ (vp_in v1 30 ∧ (g_inv C mX3_placeFor [.ref a0, .int (σ (a0 + 13) v1.toNatClampNeg), .int ((σ (a0 + 12) v1.toNatClampNeg) + v2)] σ fun r σ' => gw C G mX3_growElsewhere Q 26 [.ref a0, .int v1, .int v2, .int (σ (a0 + 12) v1.toNatClampNeg), .long 0] (r.toList ++ []) σ'))) := by
  refine Eq.trans (e_aload_n dX3_growElsewhere_0 rfl) ?_
  refine Eq.trans (e_getr (b := a0 + 8) dX3_growElsewhere_1 fl_3_32 (kX3 h0) (sX3_4 h0)) ?_
  refine Eq.trans (e_getr (b := a0 + 12) dX3_growElsewhere_4 fl_3_82 (kX0 (iX3_4 h0)) (sX0_3 (iX3_4 h0))) ?_
  refine Eq.trans (e_iload_n dX3_growElsewhere_7 rfl) ?_
  refine Eq.trans (e_iald dX3_growElsewhere_8 (aX0_3 (iX3_4 h0)) (nX0_3 (iX3_4 h0))) (g_cj ?_)
  refine Eq.trans (e_istore_n dX3_growElsewhere_9 (Nat.le_of_ble_eq_true rfl)) ?_
  refine Eq.trans (e_aload_n dX3_growElsewhere_10 rfl) ?_
  refine Eq.trans (e_aload_n dX3_growElsewhere_11 rfl) ?_
  refine Eq.trans (e_getr (b := a0 + 8) dX3_growElsewhere_12 fl_3_32 (kX3 h0) (sX3_4 h0)) ?_
  refine Eq.trans (e_getr (b := a0 + 13) dX3_growElsewhere_15 fl_3_94 (kX0 (iX3_4 h0)) (sX0_4 (iX3_4 h0))) ?_
  refine Eq.trans (e_iload_n dX3_growElsewhere_18 rfl) ?_
  refine Eq.trans (e_iald dX3_growElsewhere_19 (aX0_4 (iX3_4 h0)) (nX0_4 (iX3_4 h0))) (g_cj ?_)
  refine Eq.trans (e_iload_n dX3_growElsewhere_20 rfl) ?_
  refine Eq.trans (e_iload_n dX3_growElsewhere_21 rfl) ?_
  refine Eq.trans (e_iadd dX3_growElsewhere_22) ?_
  exact e_invv dX3_growElsewhere_23 cl_3_124 (kX3 h0) (by simp) rfl rfl (by simp)
theorem BX3_growElsewhere_26 {C : gC} {G : gG} {Q : gK} {σ : gM} {a0 : Nat} {v1 : Int32} {v2 : Int32} {v3 : Int32} {wv4 : Value} {s0 : Int32} (h0 : isX3 G a0) : gw C G mX3_growElsewhere Q 26 [.ref a0, .int v1, .int v2, .int v3, wv4] [.int s0] σ = (if s0 = (-1) then Q (some (.int 0)) σ else (g_inv C mX3_layAt [.ref a0, .int v1, .int s0] σ fun r σ' => gw C G mX3_growElsewhere Q 43 [.ref a0, .int v1, .int v2, .int v3, .int s0] (r.toList ++ []) σ')) := by
  refine Eq.trans (e_istore dX3_growElsewhere_26 (Nat.le_of_ble_eq_true rfl)) ?_
  refine Eq.trans (e_iload dX3_growElsewhere_28 rfl) ?_
  refine Eq.trans (e_iconst (x := (-1)) dX3_growElsewhere_30 (by decide)) ?_
  refine Eq.trans (e_ic_ne (t := 36) dX3_growElsewhere_31 (by decide)) (g_ite ?_ ?_)
  · refine Eq.trans (e_iconst (x := 0) dX3_growElsewhere_34 (by decide)) ?_
    exact Eq.trans (e_iretz dX3_growElsewhere_35 rfl) (g_and (by decide))
  · refine Eq.trans (e_aload_n dX3_growElsewhere_36 rfl) ?_
    refine Eq.trans (e_iload_n dX3_growElsewhere_37 rfl) ?_
    refine Eq.trans (e_iload dX3_growElsewhere_38 rfl) ?_
    exact e_invv dX3_growElsewhere_40 cl_3_128 (kX3 h0) (by simp) rfl rfl (by simp)
theorem BX3_growElsewhere_43 {C : gC} {G : gG} {Q : gK} {σ : gM} {a0 : Nat} {v1 : Int32} {v2 : Int32} {v3 : Int32} {v4 : Int32} (h0 : isX3 G a0) : gw C G mX3_growElsewhere Q 43 [.ref a0, .int v1, .int v2, .int v3, .int v4] [] σ = (vp_in v1 30 ∧ gw C G mX3_growElsewhere Q 55 [.ref a0, .int v1, .int v2, .int v3, .int v4] [] (g_up σ (a0 + 12) v1.toNatClampNeg (v3 + v2))) := by
  refine Eq.trans (e_aload_n dX3_growElsewhere_43 rfl) ?_
  refine Eq.trans (e_getr (b := a0 + 8) dX3_growElsewhere_44 fl_3_32 (kX3 h0) (sX3_4 h0)) ?_
  refine Eq.trans (e_getr (b := a0 + 12) dX3_growElsewhere_47 fl_3_82 (kX0 (iX3_4 h0)) (sX0_3 (iX3_4 h0))) ?_
  refine Eq.trans (e_iload_n dX3_growElsewhere_50 rfl) ?_
  refine Eq.trans (e_iload_n dX3_growElsewhere_51 rfl) ?_
  refine Eq.trans (e_iload_n dX3_growElsewhere_52 rfl) ?_
  refine Eq.trans (e_iadd dX3_growElsewhere_53) ?_
  refine Eq.trans (e_iast dX3_growElsewhere_54 (aX0_3 (iX3_4 h0)) (nX0_3 (iX3_4 h0))) (g_cj ?_)
  rfl
theorem BX3_growElsewhere_55 {C : gC} {G : gG} {Q : gK} {σ : gM} {a0 : Nat} {v1 : Int32} {v2 : Int32} {v3 : Int32} {v4 : Int32} (h0 : isX3 G a0) : gw C G mX3_growElsewhere Q 55 [.ref a0, .int v1, .int v2, .int v3, .int v4] [] σ = (g_inv C mX1_take [.ref (a0 + 6), .int (v4 + v3), .int v2, .int v1] σ fun r σ' => gw C G mX3_growElsewhere Q 68 [.ref a0, .int v1, .int v2, .int v3, .int v4] (r.toList ++ []) σ') := by
  refine Eq.trans (e_aload_n dX3_growElsewhere_55 rfl) ?_
  refine Eq.trans (e_getr (b := a0 + 6) dX3_growElsewhere_56 fl_3_25 (kX3 h0) (sX3_3 h0)) ?_
  refine Eq.trans (e_iload dX3_growElsewhere_59 rfl) ?_
  refine Eq.trans (e_iload_n dX3_growElsewhere_61 rfl) ?_
  refine Eq.trans (e_iadd dX3_growElsewhere_62) ?_
  refine Eq.trans (e_iload_n dX3_growElsewhere_63 rfl) ?_
  refine Eq.trans (e_iload_n dX3_growElsewhere_64 rfl) ?_
  exact e_invv dX3_growElsewhere_65 cl_3_106 (kX1 (iX3_3 h0)) (by simp) rfl rfl (by simp)
theorem BX3_growElsewhere_68 {C : gC} {G : gG} {Q : gK} {σ : gM} {a0 : Nat} {v1 : Int32} {v2 : Int32} {v3 : Int32} {v4 : Int32} (h0 : isX3 G a0) : gw C G mX3_growElsewhere Q 68 [.ref a0, .int v1, .int v2, .int v3, .int v4] [] σ = (g_inv C mX9_fill [.ref (a0 + 1), .int (v4 + v3), .int v2, .int 0] σ fun r σ' => gw C G mX3_growElsewhere Q 81 [.ref a0, .int v1, .int v2, .int v3, .int v4] (r.toList ++ []) σ') := by
  refine Eq.trans (e_aload_n dX3_growElsewhere_68 rfl) ?_
  refine Eq.trans (e_getr (b := a0 + 1) dX3_growElsewhere_69 fl_3_9 (kX3 h0) (sX3_1 h0)) ?_
  refine Eq.trans (e_iload dX3_growElsewhere_72 rfl) ?_
  refine Eq.trans (e_iload_n dX3_growElsewhere_74 rfl) ?_
  refine Eq.trans (e_iadd dX3_growElsewhere_75) ?_
  refine Eq.trans (e_iload_n dX3_growElsewhere_76 rfl) ?_
  refine Eq.trans (e_iconst (x := 0) dX3_growElsewhere_77 (by decide)) ?_
  exact e_invs dX3_growElsewhere_78 cl_3_49 (by decide) (by simp) rfl rfl (by simp)
theorem BX3_growElsewhere_81 {C : gC} {G : gG} {Q : gK} {σ : gM} {a0 : Nat} {v1 : Int32} {v2 : Int32} {v3 : Int32} {v4 : Int32} (h0 : isX3 G a0) : gw C G mX3_growElsewhere Q 81 [.ref a0, .int v1, .int v2, .int v3, .int v4] [] σ = Q (some (.int 1)) σ := by
  refine Eq.trans (e_iconst (x := 1) dX3_growElsewhere_81 (by decide)) ?_
  exact Eq.trans (e_iretz dX3_growElsewhere_82 rfl) (g_and (by decide))
theorem BX3_layAt_0 {C : gC} {G : gG} {Q : gK} {σ : gM} {a0 : Nat} {v1 : Int32} {v2 : Int32} (h0 : isX3 G a0) : gw C G mX3_layAt Q 0 [.ref a0, .int v1, .int v2, .long 0, .long 0] [] σ = (vp_in v1 30 ∧ (vp_in v1 30 ∧ (¬ ((σ (a0 + 11) v1.toNatClampNeg) : Int32) < 0 ∧ ¬ (v2 : Int32) < 0 ∧ ¬ ((σ (a0 + 12) v1.toNatClampNeg) : Int32) < 0 ∧ (σ (a0 + 11) v1.toNatClampNeg).toNatClampNeg + (σ (a0 + 12) v1.toNatClampNeg).toNatClampNeg ≤ 240 ∧ v2.toNatClampNeg + (σ (a0 + 12) v1.toNatClampNeg).toNatClampNeg ≤ 240 ∧ gw C G mX3_layAt Q 36 [.ref a0, .int v1, .int v2, .int (σ (a0 + 11) v1.toNatClampNeg), .int (σ (a0 + 12) v1.toNatClampNeg)] [] (g_cp σ (a0 + 1) (a0 + 1) (σ (a0 + 11) v1.toNatClampNeg).toNatClampNeg v2.toNatClampNeg (σ (a0 + 12) v1.toNatClampNeg).toNatClampNeg)))) := by
  refine Eq.trans (e_aload_n dX3_layAt_0 rfl) ?_
  refine Eq.trans (e_getr (b := a0 + 8) dX3_layAt_1 fl_3_32 (kX3 h0) (sX3_4 h0)) ?_
  refine Eq.trans (e_getr (b := a0 + 11) dX3_layAt_4 fl_3_85 (kX0 (iX3_4 h0)) (sX0_2 (iX3_4 h0))) ?_
  refine Eq.trans (e_iload_n dX3_layAt_7 rfl) ?_
  refine Eq.trans (e_iald dX3_layAt_8 (aX0_2 (iX3_4 h0)) (nX0_2 (iX3_4 h0))) (g_cj ?_)
  refine Eq.trans (e_istore_n dX3_layAt_9 (Nat.le_of_ble_eq_true rfl)) ?_
  refine Eq.trans (e_aload_n dX3_layAt_10 rfl) ?_
  refine Eq.trans (e_getr (b := a0 + 8) dX3_layAt_11 fl_3_32 (kX3 h0) (sX3_4 h0)) ?_
  refine Eq.trans (e_getr (b := a0 + 12) dX3_layAt_14 fl_3_82 (kX0 (iX3_4 h0)) (sX0_3 (iX3_4 h0))) ?_
  refine Eq.trans (e_iload_n dX3_layAt_17 rfl) ?_
  refine Eq.trans (e_iald dX3_layAt_18 (aX0_3 (iX3_4 h0)) (nX0_3 (iX3_4 h0))) (g_cj ?_)
  refine Eq.trans (e_istore dX3_layAt_19 (Nat.le_of_ble_eq_true rfl)) ?_
  refine Eq.trans (e_aload_n dX3_layAt_21 rfl) ?_
  refine Eq.trans (e_getr (b := a0 + 1) dX3_layAt_22 fl_3_9 (kX3 h0) (sX3_1 h0)) ?_
  refine Eq.trans (e_iload_n dX3_layAt_25 rfl) ?_
  refine Eq.trans (e_aload_n dX3_layAt_26 rfl) ?_
  refine Eq.trans (e_getr (b := a0 + 1) dX3_layAt_27 fl_3_9 (kX3 h0) (sX3_1 h0)) ?_
  refine Eq.trans (e_iload_n dX3_layAt_30 rfl) ?_
  refine Eq.trans (e_iload dX3_layAt_31 rfl) ?_
  refine Eq.trans (e_copy dX3_layAt_33 cl_3_132 (aX3_1 h0) (aX3_1 h0) (nX3_1 h0) (nX3_1 h0) (Nat.le_of_ble_eq_true rfl)) (g_cj (g_cj (g_cj (g_cj (g_cj ?_)))))
  rfl
theorem BX3_layAt_36 {C : gC} {G : gG} {Q : gK} {σ : gM} {a0 : Nat} {v1 : Int32} {v2 : Int32} {v3 : Int32} {v4 : Int32} (h0 : isX3 G a0) : gw C G mX3_layAt Q 36 [.ref a0, .int v1, .int v2, .int v3, .int v4] [] σ = (g_inv C mX1_release [.ref (a0 + 6), .int v3, .int v4] σ fun r σ' => gw C G mX3_layAt Q 46 [.ref a0, .int v1, .int v2, .int v3, .int v4] (r.toList ++ []) σ') := by
  refine Eq.trans (e_aload_n dX3_layAt_36 rfl) ?_
  refine Eq.trans (e_getr (b := a0 + 6) dX3_layAt_37 fl_3_25 (kX3 h0) (sX3_3 h0)) ?_
  refine Eq.trans (e_iload_n dX3_layAt_40 rfl) ?_
  refine Eq.trans (e_iload dX3_layAt_41 rfl) ?_
  exact e_invv dX3_layAt_43 cl_3_138 (kX1 (iX3_3 h0)) (by simp) rfl rfl (by simp)
theorem BX3_layAt_46 {C : gC} {G : gG} {Q : gK} {σ : gM} {a0 : Nat} {v1 : Int32} {v2 : Int32} {v3 : Int32} {v4 : Int32} (h0 : isX3 G a0) : gw C G mX3_layAt Q 46 [.ref a0, .int v1, .int v2, .int v3, .int v4] [] σ = (g_inv C mX1_take [.ref (a0 + 6), .int v2, .int v4, .int v1] σ fun r σ' => gw C G mX3_layAt Q 57 [.ref a0, .int v1, .int v2, .int v3, .int v4] (r.toList ++ []) σ') := by
  refine Eq.trans (e_aload_n dX3_layAt_46 rfl) ?_
  refine Eq.trans (e_getr (b := a0 + 6) dX3_layAt_47 fl_3_25 (kX3 h0) (sX3_3 h0)) ?_
  refine Eq.trans (e_iload_n dX3_layAt_50 rfl) ?_
  refine Eq.trans (e_iload dX3_layAt_51 rfl) ?_
  refine Eq.trans (e_iload_n dX3_layAt_53 rfl) ?_
  exact e_invv dX3_layAt_54 cl_3_106 (kX1 (iX3_3 h0)) (by simp) rfl rfl (by simp)
theorem BX3_layAt_57 {C : gC} {G : gG} {Q : gK} {σ : gM} {a0 : Nat} {v1 : Int32} {v2 : Int32} {v3 : Int32} {v4 : Int32} (h0 : isX3 G a0) : gw C G mX3_layAt Q 57 [.ref a0, .int v1, .int v2, .int v3, .int v4] [] σ = (vp_in v1 30 ∧ Q none (g_up σ (a0 + 11) v1.toNatClampNeg v2)) := by
  refine Eq.trans (e_aload_n dX3_layAt_57 rfl) ?_
  refine Eq.trans (e_getr (b := a0 + 8) dX3_layAt_58 fl_3_32 (kX3 h0) (sX3_4 h0)) ?_
  refine Eq.trans (e_getr (b := a0 + 11) dX3_layAt_61 fl_3_85 (kX0 (iX3_4 h0)) (sX0_2 (iX3_4 h0))) ?_
  refine Eq.trans (e_iload_n dX3_layAt_64 rfl) ?_
  refine Eq.trans (e_iload_n dX3_layAt_65 rfl) ?_
  refine Eq.trans (e_iast dX3_layAt_66 (aX0_2 (iX3_4 h0)) (nX0_2 (iX3_4 h0))) (g_cj ?_)
  exact e_ret dX3_layAt_67 rfl
theorem BX3_moveWithin_0 {C : gC} {G : gG} {Q : gK} {σ : gM} {a0 : Nat} {v1 : Int32} {v2 : Int32} (h0 : isX3 G a0) : gw C G mX3_moveWithin Q 0 [.ref a0, .int v1, .int v2, .long 0, .long 0, .long 0] [] σ = gw C G mX3_moveWithin Q 5 [.ref a0, .int v1, .int v2, .int 0, .int 0, .long 0] [] σ := by
  refine Eq.trans (e_iconst (x := 0) dX3_moveWithin_0 (by decide)) ?_
  refine Eq.trans (e_istore_n dX3_moveWithin_1 (Nat.le_of_ble_eq_true rfl)) ?_
  refine Eq.trans (e_iconst (x := 0) dX3_moveWithin_2 (by decide)) ?_
  refine Eq.trans (e_istore dX3_moveWithin_3 (Nat.le_of_ble_eq_true rfl)) ?_
  rfl
theorem BX3_moveWithin_5 {C : gC} {G : gG} {Q : gK} {σ : gM} {a0 : Nat} {v1 : Int32} {v2 : Int32} {v3 : Int32} {v4 : Int32} {wv5 : Value} (h0 : isX3 G a0) : gw C G mX3_moveWithin Q 5 [.ref a0, .int v1, .int v2, .int v3, .int v4, wv5] [] σ = (if v4 < 30 then (g_inv C mX3_nextToMove [.ref a0, .int v1] σ fun r σ' => gw C G mX3_moveWithin Q 17 [.ref a0, .int v1, .int v2, .int v3, .int v4, wv5] (r.toList ++ []) σ') else Q (some (.int v3)) σ) := by
  refine Eq.trans (e_iload dX3_moveWithin_5 rfl) ?_
  refine Eq.trans (e_bipush (x := 30) dX3_moveWithin_7 (by decide)) ?_
  refine Eq.trans (e_ic_ge (t := 74) dX3_moveWithin_9 (by decide)) (g_ite ?_ ?_)
  · refine Eq.trans (e_aload_n dX3_moveWithin_12 rfl) ?_
    refine Eq.trans (e_iload_n dX3_moveWithin_13 rfl) ?_
    exact e_invv dX3_moveWithin_14 cl_3_141 (kX3 h0) (by simp) rfl rfl (by simp)
  · refine Eq.trans (e_iload_n dX3_moveWithin_74 rfl) ?_
    exact e_ireti dX3_moveWithin_75 rfl
theorem BX3_moveWithin_17 {C : gC} {G : gG} {Q : gK} {σ : gM} {a0 : Nat} {v1 : Int32} {v2 : Int32} {v3 : Int32} {v4 : Int32} {wv5 : Value} {s0 : Int32} (h0 : isX3 G a0) : gw C G mX3_moveWithin Q 17 [.ref a0, .int v1, .int v2, .int v3, .int v4, wv5] [.int s0] σ = (if s0 = (-1) then Q (some (.int v3)) σ else (vp_in s0 30 ∧ (if (v2 - v3) < (σ (a0 + 12) s0.toNatClampNeg) then Q (some (.int v3)) σ else (vp_in s0 30 ∧ (g_inv C mX3_movedLow [.ref a0, .int s0] σ fun r σ' => gw C G mX3_moveWithin Q 65 [.ref a0, .int v1, .int v2, .int (v3 + (σ (a0 + 12) s0.toNatClampNeg)), .int v4, .int s0] (r.toList ++ [.int s0, .ref a0]) σ'))))) := by
  refine Eq.trans (e_istore dX3_moveWithin_17 (Nat.le_of_ble_eq_true rfl)) ?_
  refine Eq.trans (e_iload dX3_moveWithin_19 rfl) ?_
  refine Eq.trans (e_iconst (x := (-1)) dX3_moveWithin_21 (by decide)) ?_
  refine Eq.trans (e_ic_eq (t := 41) dX3_moveWithin_22 (by decide)) (g_ite ?_ ?_)
  · refine Eq.trans (e_iload_n dX3_moveWithin_41 rfl) ?_
    exact e_ireti dX3_moveWithin_42 rfl
  · refine Eq.trans (e_aload_n dX3_moveWithin_25 rfl) ?_
    refine Eq.trans (e_getr (b := a0 + 8) dX3_moveWithin_26 fl_3_32 (kX3 h0) (sX3_4 h0)) ?_
    refine Eq.trans (e_getr (b := a0 + 12) dX3_moveWithin_29 fl_3_82 (kX0 (iX3_4 h0)) (sX0_3 (iX3_4 h0))) ?_
    refine Eq.trans (e_iload dX3_moveWithin_32 rfl) ?_
    refine Eq.trans (e_iald dX3_moveWithin_34 (aX0_3 (iX3_4 h0)) (nX0_3 (iX3_4 h0))) (g_cj ?_)
    refine Eq.trans (e_iload_n dX3_moveWithin_35 rfl) ?_
    refine Eq.trans (e_iload_n dX3_moveWithin_36 rfl) ?_
    refine Eq.trans (e_isub dX3_moveWithin_37) ?_
    refine Eq.trans (e_ic_le (t := 43) dX3_moveWithin_38 (by decide)) (g_ite ?_ ?_)
    · refine Eq.trans (e_iload_n dX3_moveWithin_41 rfl) ?_
      exact e_ireti dX3_moveWithin_42 rfl
    · refine Eq.trans (e_iload_n dX3_moveWithin_43 rfl) ?_
      refine Eq.trans (e_aload_n dX3_moveWithin_44 rfl) ?_
      refine Eq.trans (e_getr (b := a0 + 8) dX3_moveWithin_45 fl_3_32 (kX3 h0) (sX3_4 h0)) ?_
      refine Eq.trans (e_getr (b := a0 + 12) dX3_moveWithin_48 fl_3_82 (kX0 (iX3_4 h0)) (sX0_3 (iX3_4 h0))) ?_
      refine Eq.trans (e_iload dX3_moveWithin_51 rfl) ?_
      refine Eq.trans (e_iald dX3_moveWithin_53 (aX0_3 (iX3_4 h0)) (nX0_3 (iX3_4 h0))) (g_cj ?_)
      refine Eq.trans (e_iadd dX3_moveWithin_54) ?_
      refine Eq.trans (e_istore_n dX3_moveWithin_55 (Nat.le_of_ble_eq_true rfl)) ?_
      refine Eq.trans (e_aload_n dX3_moveWithin_56 rfl) ?_
      refine Eq.trans (e_iload dX3_moveWithin_57 rfl) ?_
      refine Eq.trans (e_aload_n dX3_moveWithin_59 rfl) ?_
      refine Eq.trans (e_iload dX3_moveWithin_60 rfl) ?_
      exact e_invv dX3_moveWithin_62 cl_3_144 (kX3 h0) (by simp) rfl rfl (by simp)
theorem BX3_moveWithin_65 {C : gC} {G : gG} {Q : gK} {σ : gM} {a0 : Nat} {v1 : Int32} {v2 : Int32} {v3 : Int32} {v4 : Int32} {v5 : Int32} {s1 : Int32} {s2 : Int32} (h0 : isX3 G a0) : gw C G mX3_moveWithin Q 65 [.ref a0, .int v1, .int v2, .int v3, .int v4, .int v5] [.int s2, .int s1, .ref a0] σ = (g_inv C mX3_layAt [.ref a0, .int s1, .int s2] σ fun r σ' => gw C G mX3_moveWithin Q 68 [.ref a0, .int v1, .int v2, .int v3, .int v4, .int v5] (r.toList ++ []) σ') := by
  exact e_invv dX3_moveWithin_65 cl_3_128 (kX3 h0) (by simp) rfl rfl (by simp)
theorem BX3_moveWithin_68 {C : gC} {G : gG} {Q : gK} {σ : gM} {a0 : Nat} {v1 : Int32} {v2 : Int32} {v3 : Int32} {v4 : Int32} {v5 : Int32} (h0 : isX3 G a0) : gw C G mX3_moveWithin Q 68 [.ref a0, .int v1, .int v2, .int v3, .int v4, .int v5] [] σ = gw C G mX3_moveWithin Q 5 [.ref a0, .int v1, .int v2, .int v3, .int (v4 + 1), .int v5] [] σ := by
  refine Eq.trans (e_iinc (y := 1) dX3_moveWithin_68 rfl (by decide)) ?_
  refine Eq.trans (e_goto (t := 5) dX3_moveWithin_71 (by decide)) ?_
  rfl
theorem BX3_nextToMove_0 {C : gC} {G : gG} {Q : gK} {σ : gM} {a0 : Nat} {v1 : Int32} (h0 : isX3 G a0) : gw C G mX3_nextToMove Q 0 [.ref a0, .int v1, .long 0, .long 0, .long 0, .long 0] [] σ = (vp_in v1 6 ∧ (vp_in v1 6 ∧ (if (σ (a0 + 5) v1.toNatClampNeg) = 0 then gw C G mX3_nextToMove Q 31 [.ref a0, .int v1, .int (σ (a0 + 4) v1.toNatClampNeg), .int 1, .int 0, .long 0] [] σ else gw C G mX3_nextToMove Q 31 [.ref a0, .int v1, .int (σ (a0 + 4) v1.toNatClampNeg), .int 0, .int 0, .long 0] [] σ))) := by
  refine Eq.trans (e_aload_n dX3_nextToMove_0 rfl) ?_
  refine Eq.trans (e_getr (b := a0 + 2) dX3_nextToMove_1 fl_3_18 (kX3 h0) (sX3_2 h0)) ?_
  refine Eq.trans (e_getr (b := a0 + 4) dX3_nextToMove_4 fl_3_147 (kX5 (iX3_2 h0)) (sX5_2 (iX3_2 h0))) ?_
  refine Eq.trans (e_iload_n dX3_nextToMove_7 rfl) ?_
  refine Eq.trans (e_iald dX3_nextToMove_8 (aX5_2 (iX3_2 h0)) (nX5_2 (iX3_2 h0))) (g_cj ?_)
  refine Eq.trans (e_istore_n dX3_nextToMove_9 (Nat.le_of_ble_eq_true rfl)) ?_
  refine Eq.trans (e_aload_n dX3_nextToMove_10 rfl) ?_
  refine Eq.trans (e_getr (b := a0 + 2) dX3_nextToMove_11 fl_3_18 (kX3 h0) (sX3_2 h0)) ?_
  refine Eq.trans (e_getr (b := a0 + 5) dX3_nextToMove_14 fl_3_148 (kX5 (iX3_2 h0)) (sX5_3 (iX3_2 h0))) ?_
  refine Eq.trans (e_iload_n dX3_nextToMove_17 rfl) ?_
  refine Eq.trans (e_iald dX3_nextToMove_18 (aX5_3 (iX3_2 h0)) (nX5_3 (iX3_2 h0))) (g_cj ?_)
  refine Eq.trans (e_if_ne (t := 26) dX3_nextToMove_19 (by decide)) (g_ite ?_ ?_)
  · refine Eq.trans (e_iconst (x := 1) dX3_nextToMove_22 (by decide)) ?_
    refine Eq.trans (e_goto (t := 27) dX3_nextToMove_23 (by decide)) ?_
    refine Eq.trans (e_istore_n dX3_nextToMove_27 (Nat.le_of_ble_eq_true rfl)) ?_
    refine Eq.trans (e_iconst (x := 0) dX3_nextToMove_28 (by decide)) ?_
    refine Eq.trans (e_istore dX3_nextToMove_29 (Nat.le_of_ble_eq_true rfl)) ?_
    rfl
  · refine Eq.trans (e_iconst (x := 0) dX3_nextToMove_26 (by decide)) ?_
    refine Eq.trans (e_istore_n dX3_nextToMove_27 (Nat.le_of_ble_eq_true rfl)) ?_
    refine Eq.trans (e_iconst (x := 0) dX3_nextToMove_28 (by decide)) ?_
    refine Eq.trans (e_istore dX3_nextToMove_29 (Nat.le_of_ble_eq_true rfl)) ?_
    rfl
theorem BX3_nextToMove_31 {C : gC} {G : gG} {Q : gK} {σ : gM} {a0 : Nat} {v1 : Int32} {v2 : Int32} {v3 : Int32} {v4 : Int32} {wv5 : Value} (h0 : isX3 G a0) : gw C G mX3_nextToMove Q 31 [.ref a0, .int v1, .int v2, .int v3, .int v4, wv5] [] σ = (if v4 < v2 then (vp_in v1 6 ∧ (if v3 = 0 then gw C G mX3_nextToMove Q 68 [.ref a0, .int v1, .int v2, .int v3, .int v4, wv5] [.int ((v2 - 1) - v4), .int (σ (a0 + 3) v1.toNatClampNeg), .ref (a0 + 7)] σ else gw C G mX3_nextToMove Q 68 [.ref a0, .int v1, .int v2, .int v3, .int v4, wv5] [.int v4, .int (σ (a0 + 3) v1.toNatClampNeg), .ref (a0 + 7)] σ)) else Q (some (.int (-1))) σ) := by
  refine Eq.trans (e_iload dX3_nextToMove_31 rfl) ?_
  refine Eq.trans (e_iload_n dX3_nextToMove_33 rfl) ?_
  refine Eq.trans (e_ic_ge (t := 115) dX3_nextToMove_34 (by decide)) (g_ite ?_ ?_)
  · refine Eq.trans (e_aload_n dX3_nextToMove_37 rfl) ?_
    refine Eq.trans (e_getr (b := a0 + 6) dX3_nextToMove_38 fl_3_25 (kX3 h0) (sX3_3 h0)) ?_
    refine Eq.trans (e_getr (b := a0 + 7) dX3_nextToMove_41 fl_3_151 (kX1 (iX3_3 h0)) (sX1_0 (iX3_3 h0))) ?_
    refine Eq.trans (e_aload_n dX3_nextToMove_44 rfl) ?_
    refine Eq.trans (e_getr (b := a0 + 2) dX3_nextToMove_45 fl_3_18 (kX3 h0) (sX3_2 h0)) ?_
    refine Eq.trans (e_getr (b := a0 + 3) dX3_nextToMove_48 fl_3_154 (kX5 (iX3_2 h0)) (sX5_1 (iX3_2 h0))) ?_
    refine Eq.trans (e_iload_n dX3_nextToMove_51 rfl) ?_
    refine Eq.trans (e_iald dX3_nextToMove_52 (aX5_1 (iX3_2 h0)) (nX5_1 (iX3_2 h0))) (g_cj ?_)
    refine Eq.trans (e_iload_n dX3_nextToMove_53 rfl) ?_
    refine Eq.trans (e_if_eq (t := 62) dX3_nextToMove_54 (by decide)) (g_ite ?_ ?_)
    · refine Eq.trans (e_iload_n dX3_nextToMove_62 rfl) ?_
      refine Eq.trans (e_iconst (x := 1) dX3_nextToMove_63 (by decide)) ?_
      refine Eq.trans (e_isub dX3_nextToMove_64) ?_
      refine Eq.trans (e_iload dX3_nextToMove_65 rfl) ?_
      refine Eq.trans (e_isub dX3_nextToMove_67) ?_
      rfl
    · refine Eq.trans (e_iload dX3_nextToMove_57 rfl) ?_
      refine Eq.trans (e_goto (t := 68) dX3_nextToMove_59 (by decide)) ?_
      rfl
  · refine Eq.trans (e_iconst (x := (-1)) dX3_nextToMove_115 (by decide)) ?_
    exact e_ireti dX3_nextToMove_116 rfl
theorem BX3_nextToMove_68 {C : gC} {G : gG} {Q : gK} {σ : gM} {a0 : Nat} {v1 : Int32} {v2 : Int32} {v3 : Int32} {v4 : Int32} {wv5 : Value} {s1 : Int32} {s2 : Int32} (h0 : isX3 G a0) : gw C G mX3_nextToMove Q 68 [.ref a0, .int v1, .int v2, .int v3, .int v4, wv5] [.int s2, .int s1, .ref (a0 + 7)] σ = (vp_in (s1 + s2) 240 ∧ (if (σ (a0 + 7) (s1 + s2).toNatClampNeg) = (-1) then gw C G mX3_nextToMove Q 31 [.ref a0, .int v1, .int v2, .int v3, .int (v4 + 1), .int (σ (a0 + 7) (s1 + s2).toNatClampNeg)] [] σ else (g_inv C mX3_mayMove [.ref a0, .int (σ (a0 + 7) (s1 + s2).toNatClampNeg)] σ fun r σ' => gw C G mX3_nextToMove Q 84 [.ref a0, .int v1, .int v2, .int v3, .int v4, .int (σ (a0 + 7) (s1 + s2).toNatClampNeg)] (r.toList ++ []) σ'))) := by
  refine Eq.trans (e_iadd dX3_nextToMove_68) ?_
  refine Eq.trans (e_iald dX3_nextToMove_69 (aX1_0 (iX3_3 h0)) (nX1_0 (iX3_3 h0))) (g_cj ?_)
  refine Eq.trans (e_istore dX3_nextToMove_70 (Nat.le_of_ble_eq_true rfl)) ?_
  refine Eq.trans (e_iload dX3_nextToMove_72 rfl) ?_
  refine Eq.trans (e_iconst (x := (-1)) dX3_nextToMove_74 (by decide)) ?_
  refine Eq.trans (e_ic_eq (t := 109) dX3_nextToMove_75 (by decide)) (g_ite ?_ ?_)
  · refine Eq.trans (e_iinc (y := 1) dX3_nextToMove_109 rfl (by decide)) ?_
    refine Eq.trans (e_goto (t := 31) dX3_nextToMove_112 (by decide)) ?_
    rfl
  · refine Eq.trans (e_aload_n dX3_nextToMove_78 rfl) ?_
    refine Eq.trans (e_iload dX3_nextToMove_79 rfl) ?_
    exact e_invv dX3_nextToMove_81 cl_3_155 (kX3 h0) (by simp) rfl rfl (by simp)
theorem BX3_nextToMove_84 {C : gC} {G : gG} {Q : gK} {σ : gM} {a0 : Nat} {v1 : Int32} {v2 : Int32} {v3 : Int32} {v4 : Int32} {v5 : Int32} {s0 : Int32} (h0 : isX3 G a0) : gw C G mX3_nextToMove Q 84 [.ref a0, .int v1, .int v2, .int v3, .int v4, .int v5] [.int s0] σ = (if s0 = 0 then gw C G mX3_nextToMove Q 31 [.ref a0, .int v1, .int v2, .int v3, .int (v4 + 1), .int v5] [] σ else (g_inv C mX3_movedLow [.ref a0, .int v5] σ fun r σ' => gw C G mX3_nextToMove Q 93 [.ref a0, .int v1, .int v2, .int v3, .int v4, .int v5] (r.toList ++ []) σ')) := by
  refine Eq.trans (e_if_eq (t := 109) dX3_nextToMove_84 (by decide)) (g_ite ?_ ?_)
  · refine Eq.trans (e_iinc (y := 1) dX3_nextToMove_109 rfl (by decide)) ?_
    refine Eq.trans (e_goto (t := 31) dX3_nextToMove_112 (by decide)) ?_
    rfl
  · refine Eq.trans (e_aload_n dX3_nextToMove_87 rfl) ?_
    refine Eq.trans (e_iload dX3_nextToMove_88 rfl) ?_
    exact e_invv dX3_nextToMove_90 cl_3_144 (kX3 h0) (by simp) rfl rfl (by simp)
theorem BX3_nextToMove_93 {C : gC} {G : gG} {Q : gK} {σ : gM} {a0 : Nat} {v1 : Int32} {v2 : Int32} {v3 : Int32} {v4 : Int32} {v5 : Int32} {s0 : Int32} (h0 : isX3 G a0) : gw C G mX3_nextToMove Q 93 [.ref a0, .int v1, .int v2, .int v3, .int v4, .int v5] [.int s0] σ = (vp_in v5 30 ∧ (if s0 = (σ (a0 + 11) v5.toNatClampNeg) then gw C G mX3_nextToMove Q 31 [.ref a0, .int v1, .int v2, .int v3, .int (v4 + 1), .int v5] [] σ else Q (some (.int v5)) σ)) := by
  refine Eq.trans (e_aload_n dX3_nextToMove_93 rfl) ?_
  refine Eq.trans (e_getr (b := a0 + 8) dX3_nextToMove_94 fl_3_32 (kX3 h0) (sX3_4 h0)) ?_
  refine Eq.trans (e_getr (b := a0 + 11) dX3_nextToMove_97 fl_3_85 (kX0 (iX3_4 h0)) (sX0_2 (iX3_4 h0))) ?_
  refine Eq.trans (e_iload dX3_nextToMove_100 rfl) ?_
  refine Eq.trans (e_iald dX3_nextToMove_102 (aX0_2 (iX3_4 h0)) (nX0_2 (iX3_4 h0))) (g_cj ?_)
  refine Eq.trans (e_ic_eq (t := 109) dX3_nextToMove_103 (by decide)) (g_ite ?_ ?_)
  · refine Eq.trans (e_iinc (y := 1) dX3_nextToMove_109 rfl (by decide)) ?_
    refine Eq.trans (e_goto (t := 31) dX3_nextToMove_112 (by decide)) ?_
    rfl
  · refine Eq.trans (e_iload dX3_nextToMove_106 rfl) ?_
    exact e_ireti dX3_nextToMove_108 rfl
theorem BX3_mayMove_0 {C : gC} {G : gG} {Q : gK} {σ : gM} {a0 : Nat} {v1 : Int32} (h0 : isX3 G a0) : gw C G mX3_mayMove Q 0 [.ref a0, .int v1] [] σ = (vp_in v1 30 ∧ (if (σ (a0 + 10) v1.toNatClampNeg) = 1 then (vp_in v1 30 ∧ (if (σ (a0 + 15) v1.toNatClampNeg) = 0 then Q (some (.int 1)) σ else Q (some (.int 0)) σ)) else Q (some (.int 0)) σ)) := by
  refine Eq.trans (e_aload_n dX3_mayMove_0 rfl) ?_
  refine Eq.trans (e_getr (b := a0 + 8) dX3_mayMove_1 fl_3_32 (kX3 h0) (sX3_4 h0)) ?_
  refine Eq.trans (e_getr (b := a0 + 10) dX3_mayMove_4 fl_3_91 (kX0 (iX3_4 h0)) (sX0_1 (iX3_4 h0))) ?_
  refine Eq.trans (e_iload_n dX3_mayMove_7 rfl) ?_
  refine Eq.trans (e_iald dX3_mayMove_8 (aX0_1 (iX3_4 h0)) (nX0_1 (iX3_4 h0))) (g_cj ?_)
  refine Eq.trans (e_iconst (x := 1) dX3_mayMove_9 (by decide)) ?_
  refine Eq.trans (e_ic_ne (t := 29) dX3_mayMove_10 (by decide)) (g_ite ?_ ?_)
  · refine Eq.trans (e_aload_n dX3_mayMove_13 rfl) ?_
    refine Eq.trans (e_getr (b := a0 + 8) dX3_mayMove_14 fl_3_32 (kX3 h0) (sX3_4 h0)) ?_
    refine Eq.trans (e_getr (b := a0 + 15) dX3_mayMove_17 fl_3_100 (kX0 (iX3_4 h0)) (sX0_6 (iX3_4 h0))) ?_
    refine Eq.trans (e_iload_n dX3_mayMove_20 rfl) ?_
    refine Eq.trans (e_iald dX3_mayMove_21 (aX0_6 (iX3_4 h0)) (nX0_6 (iX3_4 h0))) (g_cj ?_)
    refine Eq.trans (e_if_ne (t := 29) dX3_mayMove_22 (by decide)) (g_ite ?_ ?_)
    · refine Eq.trans (e_iconst (x := 1) dX3_mayMove_25 (by decide)) ?_
      refine Eq.trans (e_goto (t := 30) dX3_mayMove_26 (by decide)) ?_
      exact Eq.trans (e_iretz dX3_mayMove_30 rfl) (g_and (by decide))
    · refine Eq.trans (e_iconst (x := 0) dX3_mayMove_29 (by decide)) ?_
      exact Eq.trans (e_iretz dX3_mayMove_30 rfl) (g_and (by decide))
  · refine Eq.trans (e_iconst (x := 0) dX3_mayMove_29 (by decide)) ?_
    exact Eq.trans (e_iretz dX3_mayMove_30 rfl) (g_and (by decide))
theorem BX3_movedLow_0 {C : gC} {G : gG} {Q : gK} {σ : gM} {a0 : Nat} {v1 : Int32} (h0 : isX3 G a0) : gw C G mX3_movedLow Q 0 [.ref a0, .int v1, .long 0, .long 0, .long 0, .long 0] [] σ = (vp_in v1 30 ∧ (vp_in v1 30 ∧ (vp_in v1 30 ∧ (vp_in (σ (a0 + 13) v1.toNatClampNeg) 6 ∧ (if (σ (a0 + 5) (σ (a0 + 13) v1.toNatClampNeg).toNatClampNeg) = 0 then gw C G mX3_movedLow Q 43 [.ref a0, .int v1, .int (σ (a0 + 13) v1.toNatClampNeg), .int (σ (a0 + 12) v1.toNatClampNeg), .int (σ (a0 + 11) v1.toNatClampNeg), .long 0] [] σ else (g_inv C mX5_highOf [.ref (a0 + 2), .int (σ (a0 + 13) v1.toNatClampNeg)] σ fun r σ' => gw C G mX3_movedLow Q 90 [.ref a0, .int v1, .int (σ (a0 + 13) v1.toNatClampNeg), .int (σ (a0 + 12) v1.toNatClampNeg), .int (σ (a0 + 11) v1.toNatClampNeg), .long 0] (r.toList ++ []) σ')))))) := by
  refine Eq.trans (e_aload_n dX3_movedLow_0 rfl) ?_
  refine Eq.trans (e_getr (b := a0 + 8) dX3_movedLow_1 fl_3_32 (kX3 h0) (sX3_4 h0)) ?_
  refine Eq.trans (e_getr (b := a0 + 13) dX3_movedLow_4 fl_3_94 (kX0 (iX3_4 h0)) (sX0_4 (iX3_4 h0))) ?_
  refine Eq.trans (e_iload_n dX3_movedLow_7 rfl) ?_
  refine Eq.trans (e_iald dX3_movedLow_8 (aX0_4 (iX3_4 h0)) (nX0_4 (iX3_4 h0))) (g_cj ?_)
  refine Eq.trans (e_istore_n dX3_movedLow_9 (Nat.le_of_ble_eq_true rfl)) ?_
  refine Eq.trans (e_aload_n dX3_movedLow_10 rfl) ?_
  refine Eq.trans (e_getr (b := a0 + 8) dX3_movedLow_11 fl_3_32 (kX3 h0) (sX3_4 h0)) ?_
  refine Eq.trans (e_getr (b := a0 + 12) dX3_movedLow_14 fl_3_82 (kX0 (iX3_4 h0)) (sX0_3 (iX3_4 h0))) ?_
  refine Eq.trans (e_iload_n dX3_movedLow_17 rfl) ?_
  refine Eq.trans (e_iald dX3_movedLow_18 (aX0_3 (iX3_4 h0)) (nX0_3 (iX3_4 h0))) (g_cj ?_)
  refine Eq.trans (e_istore_n dX3_movedLow_19 (Nat.le_of_ble_eq_true rfl)) ?_
  refine Eq.trans (e_aload_n dX3_movedLow_20 rfl) ?_
  refine Eq.trans (e_getr (b := a0 + 8) dX3_movedLow_21 fl_3_32 (kX3 h0) (sX3_4 h0)) ?_
  refine Eq.trans (e_getr (b := a0 + 11) dX3_movedLow_24 fl_3_85 (kX0 (iX3_4 h0)) (sX0_2 (iX3_4 h0))) ?_
  refine Eq.trans (e_iload_n dX3_movedLow_27 rfl) ?_
  refine Eq.trans (e_iald dX3_movedLow_28 (aX0_2 (iX3_4 h0)) (nX0_2 (iX3_4 h0))) (g_cj ?_)
  refine Eq.trans (e_istore dX3_movedLow_29 (Nat.le_of_ble_eq_true rfl)) ?_
  refine Eq.trans (e_aload_n dX3_movedLow_31 rfl) ?_
  refine Eq.trans (e_getr (b := a0 + 2) dX3_movedLow_32 fl_3_18 (kX3 h0) (sX3_2 h0)) ?_
  refine Eq.trans (e_getr (b := a0 + 5) dX3_movedLow_35 fl_3_148 (kX5 (iX3_2 h0)) (sX5_3 (iX3_2 h0))) ?_
  refine Eq.trans (e_iload_n dX3_movedLow_38 rfl) ?_
  refine Eq.trans (e_iald dX3_movedLow_39 (aX5_3 (iX3_2 h0)) (nX5_3 (iX3_2 h0))) (g_cj ?_)
  refine Eq.trans (e_if_ne (t := 82) dX3_movedLow_40 (by decide)) (g_ite ?_ ?_)
  · rfl
  · refine Eq.trans (e_aload_n dX3_movedLow_82 rfl) ?_
    refine Eq.trans (e_getr (b := a0 + 2) dX3_movedLow_83 fl_3_18 (kX3 h0) (sX3_2 h0)) ?_
    refine Eq.trans (e_iload_n dX3_movedLow_86 rfl) ?_
    exact e_invv dX3_movedLow_87 cl_3_117 (kX5 (iX3_2 h0)) (by simp) rfl rfl (by simp)
theorem BX3_movedLow_43 {C : gC} {G : gG} {Q : gK} {σ : gM} {a0 : Nat} {v1 : Int32} {v2 : Int32} {v3 : Int32} {v4 : Int32} {wv5 : Value} (h0 : isX3 G a0) : gw C G mX3_movedLow Q 43 [.ref a0, .int v1, .int v2, .int v3, .int v4, wv5] [] σ = (vp_in v2 6 ∧ (if (σ (a0 + 3) v2.toNatClampNeg) < v4 then (vp_in (v4 - 1) 240 ∧ (if (σ (a0 + 7) (v4 - 1).toNatClampNeg) = (-1) then gw C G mX3_movedLow Q 43 [.ref a0, .int v1, .int v2, .int v3, .int (v4 + (-1)), wv5] [] σ else Q (some (.int v4)) σ)) else Q (some (.int v4)) σ)) := by
  refine Eq.trans (e_iload dX3_movedLow_43 rfl) ?_
  refine Eq.trans (e_aload_n dX3_movedLow_45 rfl) ?_
  refine Eq.trans (e_getr (b := a0 + 2) dX3_movedLow_46 fl_3_18 (kX3 h0) (sX3_2 h0)) ?_
  refine Eq.trans (e_getr (b := a0 + 3) dX3_movedLow_49 fl_3_154 (kX5 (iX3_2 h0)) (sX5_1 (iX3_2 h0))) ?_
  refine Eq.trans (e_iload_n dX3_movedLow_52 rfl) ?_
  refine Eq.trans (e_iald dX3_movedLow_53 (aX5_1 (iX3_2 h0)) (nX5_1 (iX3_2 h0))) (g_cj ?_)
  refine Eq.trans (e_ic_le (t := 79) dX3_movedLow_54 (by decide)) (g_ite ?_ ?_)
  · refine Eq.trans (e_aload_n dX3_movedLow_57 rfl) ?_
    refine Eq.trans (e_getr (b := a0 + 6) dX3_movedLow_58 fl_3_25 (kX3 h0) (sX3_3 h0)) ?_
    refine Eq.trans (e_getr (b := a0 + 7) dX3_movedLow_61 fl_3_151 (kX1 (iX3_3 h0)) (sX1_0 (iX3_3 h0))) ?_
    refine Eq.trans (e_iload dX3_movedLow_64 rfl) ?_
    refine Eq.trans (e_iconst (x := 1) dX3_movedLow_66 (by decide)) ?_
    refine Eq.trans (e_isub dX3_movedLow_67) ?_
    refine Eq.trans (e_iald dX3_movedLow_68 (aX1_0 (iX3_3 h0)) (nX1_0 (iX3_3 h0))) (g_cj ?_)
    refine Eq.trans (e_iconst (x := (-1)) dX3_movedLow_69 (by decide)) ?_
    refine Eq.trans (e_ic_ne (t := 79) dX3_movedLow_70 (by decide)) (g_ite ?_ ?_)
    · refine Eq.trans (e_iinc (y := (-1)) dX3_movedLow_73 rfl (by decide)) ?_
      refine Eq.trans (e_goto (t := 43) dX3_movedLow_76 (by decide)) ?_
      rfl
    · refine Eq.trans (e_iload dX3_movedLow_79 rfl) ?_
      exact e_ireti dX3_movedLow_81 rfl
  · refine Eq.trans (e_iload dX3_movedLow_79 rfl) ?_
    exact e_ireti dX3_movedLow_81 rfl
theorem BX3_movedLow_90 {C : gC} {G : gG} {Q : gK} {σ : gM} {a0 : Nat} {v1 : Int32} {v2 : Int32} {v3 : Int32} {v4 : Int32} {wv5 : Value} {s0 : Int32} (h0 : isX3 G a0) : gw C G mX3_movedLow Q 90 [.ref a0, .int v1, .int v2, .int v3, .int v4, wv5] [.int s0] σ = gw C G mX3_movedLow Q 94 [.ref a0, .int v1, .int v2, .int v3, .int v4, .int (s0 - v3)] [] σ := by
  refine Eq.trans (e_iload_n dX3_movedLow_90 rfl) ?_
  refine Eq.trans (e_isub dX3_movedLow_91) ?_
  refine Eq.trans (e_istore dX3_movedLow_92 (Nat.le_of_ble_eq_true rfl)) ?_
  rfl
theorem BX3_movedLow_94 {C : gC} {G : gG} {Q : gK} {σ : gM} {a0 : Nat} {v1 : Int32} {v2 : Int32} {v3 : Int32} {v4 : Int32} {v5 : Int32} (h0 : isX3 G a0) : gw C G mX3_movedLow Q 94 [.ref a0, .int v1, .int v2, .int v3, .int v4, .int v5] [] σ = (if v4 < v5 then (vp_in (v4 + v3) 240 ∧ (if (σ (a0 + 7) (v4 + v3).toNatClampNeg) = (-1) then gw C G mX3_movedLow Q 94 [.ref a0, .int v1, .int v2, .int v3, .int (v4 + 1), .int v5] [] σ else Q (some (.int v4)) σ)) else Q (some (.int v4)) σ) := by
  refine Eq.trans (e_iload dX3_movedLow_94 rfl) ?_
  refine Eq.trans (e_iload dX3_movedLow_96 rfl) ?_
  refine Eq.trans (e_ic_ge (t := 123) dX3_movedLow_98 (by decide)) (g_ite ?_ ?_)
  · refine Eq.trans (e_aload_n dX3_movedLow_101 rfl) ?_
    refine Eq.trans (e_getr (b := a0 + 6) dX3_movedLow_102 fl_3_25 (kX3 h0) (sX3_3 h0)) ?_
    refine Eq.trans (e_getr (b := a0 + 7) dX3_movedLow_105 fl_3_151 (kX1 (iX3_3 h0)) (sX1_0 (iX3_3 h0))) ?_
    refine Eq.trans (e_iload dX3_movedLow_108 rfl) ?_
    refine Eq.trans (e_iload_n dX3_movedLow_110 rfl) ?_
    refine Eq.trans (e_iadd dX3_movedLow_111) ?_
    refine Eq.trans (e_iald dX3_movedLow_112 (aX1_0 (iX3_3 h0)) (nX1_0 (iX3_3 h0))) (g_cj ?_)
    refine Eq.trans (e_iconst (x := (-1)) dX3_movedLow_113 (by decide)) ?_
    refine Eq.trans (e_ic_ne (t := 123) dX3_movedLow_114 (by decide)) (g_ite ?_ ?_)
    · refine Eq.trans (e_iinc (y := 1) dX3_movedLow_117 rfl (by decide)) ?_
      refine Eq.trans (e_goto (t := 94) dX3_movedLow_120 (by decide)) ?_
      rfl
    · refine Eq.trans (e_iload dX3_movedLow_123 rfl) ?_
      exact e_ireti dX3_movedLow_125 rfl
  · refine Eq.trans (e_iload dX3_movedLow_123 rfl) ?_
    exact e_ireti dX3_movedLow_125 rfl
theorem BX3_cellAt_0 {C : gC} {G : gG} {Q : gK} {σ : gM} {a0 : Nat} {v1 : Int32} {v2 : Int32} (h0 : isX3 G a0) : gw C G mX3_cellAt Q 0 [.ref a0, .int v1, .int v2] [] σ = (if v1 < 0 then Q (some (.int (-1))) σ else (if v1 < 30 then (if v2 < 0 then Q (some (.int (-1))) σ else (vp_in v1 30 ∧ (if v2 < (σ (a0 + 12) v1.toNatClampNeg) then (vp_in v1 30 ∧ Q (some (.int ((σ (a0 + 11) v1.toNatClampNeg) + v2))) σ) else Q (some (.int (-1))) σ))) else Q (some (.int (-1))) σ)) := by
  refine Eq.trans (e_iload_n dX3_cellAt_0 rfl) ?_
  refine Eq.trans (e_if_lt (t := 27) dX3_cellAt_1 (by decide)) (g_ite ?_ ?_)
  · refine Eq.trans (e_iconst (x := (-1)) dX3_cellAt_27 (by decide)) ?_
    exact e_ireti dX3_cellAt_28 rfl
  · refine Eq.trans (e_iload_n dX3_cellAt_4 rfl) ?_
    refine Eq.trans (e_bipush (x := 30) dX3_cellAt_5 (by decide)) ?_
    refine Eq.trans (e_ic_ge (t := 27) dX3_cellAt_7 (by decide)) (g_ite ?_ ?_)
    · refine Eq.trans (e_iload_n dX3_cellAt_10 rfl) ?_
      refine Eq.trans (e_if_lt (t := 27) dX3_cellAt_11 (by decide)) (g_ite ?_ ?_)
      · refine Eq.trans (e_iconst (x := (-1)) dX3_cellAt_27 (by decide)) ?_
        exact e_ireti dX3_cellAt_28 rfl
      · refine Eq.trans (e_iload_n dX3_cellAt_14 rfl) ?_
        refine Eq.trans (e_aload_n dX3_cellAt_15 rfl) ?_
        refine Eq.trans (e_getr (b := a0 + 8) dX3_cellAt_16 fl_3_32 (kX3 h0) (sX3_4 h0)) ?_
        refine Eq.trans (e_getr (b := a0 + 12) dX3_cellAt_19 fl_3_82 (kX0 (iX3_4 h0)) (sX0_3 (iX3_4 h0))) ?_
        refine Eq.trans (e_iload_n dX3_cellAt_22 rfl) ?_
        refine Eq.trans (e_iald dX3_cellAt_23 (aX0_3 (iX3_4 h0)) (nX0_3 (iX3_4 h0))) (g_cj ?_)
        refine Eq.trans (e_ic_lt (t := 29) dX3_cellAt_24 (by decide)) (g_ite ?_ ?_)
        · refine Eq.trans (e_aload_n dX3_cellAt_29 rfl) ?_
          refine Eq.trans (e_getr (b := a0 + 8) dX3_cellAt_30 fl_3_32 (kX3 h0) (sX3_4 h0)) ?_
          refine Eq.trans (e_getr (b := a0 + 11) dX3_cellAt_33 fl_3_85 (kX0 (iX3_4 h0)) (sX0_2 (iX3_4 h0))) ?_
          refine Eq.trans (e_iload_n dX3_cellAt_36 rfl) ?_
          refine Eq.trans (e_iald dX3_cellAt_37 (aX0_2 (iX3_4 h0)) (nX0_2 (iX3_4 h0))) (g_cj ?_)
          refine Eq.trans (e_iload_n dX3_cellAt_38 rfl) ?_
          refine Eq.trans (e_iadd dX3_cellAt_39) ?_
          exact e_ireti dX3_cellAt_40 rfl
        · refine Eq.trans (e_iconst (x := (-1)) dX3_cellAt_27 (by decide)) ?_
          exact e_ireti dX3_cellAt_28 rfl
    · refine Eq.trans (e_iconst (x := (-1)) dX3_cellAt_27 (by decide)) ?_
      exact e_ireti dX3_cellAt_28 rfl
theorem BX3_seenSince_0 {C : gC} {G : gG} {Q : gK} {σ : gM} {a0 : Nat} {v1 : Int32} {v2 : Int32} (h0 : isX3 G a0) : gw C G mX3_seenSince Q 0 [.ref a0, .int v1, .int v2] [] σ = (vp_in v1 30 ∧ (if (σ (a0 + 10) v1.toNatClampNeg) = 1 then Q (some (.int 1)) σ else (vp_in v1 30 ∧ (if (σ (a0 + 17) v1.toNatClampNeg) < v2 then Q (some (.int 0)) σ else Q (some (.int 1)) σ)))) := by
  refine Eq.trans (e_aload_n dX3_seenSince_0 rfl) ?_
  refine Eq.trans (e_getr (b := a0 + 8) dX3_seenSince_1 fl_3_32 (kX3 h0) (sX3_4 h0)) ?_
  refine Eq.trans (e_getr (b := a0 + 10) dX3_seenSince_4 fl_3_91 (kX0 (iX3_4 h0)) (sX0_1 (iX3_4 h0))) ?_
  refine Eq.trans (e_iload_n dX3_seenSince_7 rfl) ?_
  refine Eq.trans (e_iald dX3_seenSince_8 (aX0_1 (iX3_4 h0)) (nX0_1 (iX3_4 h0))) (g_cj ?_)
  refine Eq.trans (e_iconst (x := 1) dX3_seenSince_9 (by decide)) ?_
  refine Eq.trans (e_ic_eq (t := 26) dX3_seenSince_10 (by decide)) (g_ite ?_ ?_)
  · refine Eq.trans (e_iconst (x := 1) dX3_seenSince_26 (by decide)) ?_
    refine Eq.trans (e_goto (t := 31) dX3_seenSince_27 (by decide)) ?_
    exact Eq.trans (e_iretz dX3_seenSince_31 rfl) (g_and (by decide))
  · refine Eq.trans (e_aload_n dX3_seenSince_13 rfl) ?_
    refine Eq.trans (e_getr (b := a0 + 8) dX3_seenSince_14 fl_3_32 (kX3 h0) (sX3_4 h0)) ?_
    refine Eq.trans (e_getr (b := a0 + 17) dX3_seenSince_17 fl_3_110 (kX0 (iX3_4 h0)) (sX0_8 (iX3_4 h0))) ?_
    refine Eq.trans (e_iload_n dX3_seenSince_20 rfl) ?_
    refine Eq.trans (e_iald dX3_seenSince_21 (aX0_8 (iX3_4 h0)) (nX0_8 (iX3_4 h0))) (g_cj ?_)
    refine Eq.trans (e_iload_n dX3_seenSince_22 rfl) ?_
    refine Eq.trans (e_ic_lt (t := 30) dX3_seenSince_23 (by decide)) (g_ite ?_ ?_)
    · refine Eq.trans (e_iconst (x := 0) dX3_seenSince_30 (by decide)) ?_
      exact Eq.trans (e_iretz dX3_seenSince_31 rfl) (g_and (by decide))
    · refine Eq.trans (e_iconst (x := 1) dX3_seenSince_26 (by decide)) ?_
      refine Eq.trans (e_goto (t := 31) dX3_seenSince_27 (by decide)) ?_
      exact Eq.trans (e_iretz dX3_seenSince_31 rfl) (g_and (by decide))
theorem BX3_tagBearer_0 {C : gC} {G : gG} {Q : gK} {σ : gM} {a0 : Nat} {v1 : Int32} (h0 : isX3 G a0) : gw C G mX3_tagBearer Q 0 [.ref a0, .int v1, .long 0, .long 0] [] σ = gw C G mX3_tagBearer Q 2 [.ref a0, .int v1, .int 0, .long 0] [] σ := by
  refine Eq.trans (e_iconst (x := 0) dX3_tagBearer_0 (by decide)) ?_
  refine Eq.trans (e_istore_n dX3_tagBearer_1 (Nat.le_of_ble_eq_true rfl)) ?_
  rfl
theorem BX3_tagBearer_2 {C : gC} {G : gG} {Q : gK} {σ : gM} {a0 : Nat} {v1 : Int32} {v2 : Int32} {wv3 : Value} (h0 : isX3 G a0) : gw C G mX3_tagBearer Q 2 [.ref a0, .int v1, .int v2, wv3] [] σ = (if v2 < (σ (a0 + 18) 0) then (g_inv C mX6_slotAt [.ref (a0 + 18), .int v2] σ fun r σ' => gw C G mX3_tagBearer Q 21 [.ref a0, .int v1, .int v2, wv3] (r.toList ++ []) σ') else Q (some (.int (-1))) σ) := by
  refine Eq.trans (e_iload_n dX3_tagBearer_2 rfl) ?_
  refine Eq.trans (e_aload_n dX3_tagBearer_3 rfl) ?_
  refine Eq.trans (e_getr (b := a0 + 18) dX3_tagBearer_4 fl_3_39 (kX3 h0) (sX3_5 h0)) ?_
  refine Eq.trans (e_geti dX3_tagBearer_7 fl_3_159 (kX6 (iX3_5 h0))) ?_
  refine Eq.trans (e_ic_ge (t := 48) dX3_tagBearer_10 (by decide)) (g_ite ?_ ?_)
  · refine Eq.trans (e_aload_n dX3_tagBearer_13 rfl) ?_
    refine Eq.trans (e_getr (b := a0 + 18) dX3_tagBearer_14 fl_3_39 (kX3 h0) (sX3_5 h0)) ?_
    refine Eq.trans (e_iload_n dX3_tagBearer_17 rfl) ?_
    exact e_invv dX3_tagBearer_18 cl_3_162 (kX6 (iX3_5 h0)) (by simp) rfl rfl (by simp)
  · refine Eq.trans (e_iconst (x := (-1)) dX3_tagBearer_48 (by decide)) ?_
    exact e_ireti dX3_tagBearer_49 rfl
theorem BX3_tagBearer_21 {C : gC} {G : gG} {Q : gK} {σ : gM} {a0 : Nat} {v1 : Int32} {v2 : Int32} {wv3 : Value} {s0 : Int32} (h0 : isX3 G a0) : gw C G mX3_tagBearer Q 21 [.ref a0, .int v1, .int v2, wv3] [.int s0] σ = (if s0 = (-1) then gw C G mX3_tagBearer Q 2 [.ref a0, .int v1, .int (v2 + 1), .int s0] [] σ else (vp_in s0 30 ∧ (if (σ (a0 + 16) s0.toNatClampNeg) = v1 then Q (some (.int s0)) σ else gw C G mX3_tagBearer Q 2 [.ref a0, .int v1, .int (v2 + 1), .int s0] [] σ))) := by
  refine Eq.trans (e_istore_n dX3_tagBearer_21 (Nat.le_of_ble_eq_true rfl)) ?_
  refine Eq.trans (e_iload_n dX3_tagBearer_22 rfl) ?_
  refine Eq.trans (e_iconst (x := (-1)) dX3_tagBearer_23 (by decide)) ?_
  refine Eq.trans (e_ic_eq (t := 42) dX3_tagBearer_24 (by decide)) (g_ite ?_ ?_)
  · refine Eq.trans (e_iinc (y := 1) dX3_tagBearer_42 rfl (by decide)) ?_
    refine Eq.trans (e_goto (t := 2) dX3_tagBearer_45 (by decide)) ?_
    rfl
  · refine Eq.trans (e_aload_n dX3_tagBearer_27 rfl) ?_
    refine Eq.trans (e_getr (b := a0 + 8) dX3_tagBearer_28 fl_3_32 (kX3 h0) (sX3_4 h0)) ?_
    refine Eq.trans (e_getr (b := a0 + 16) dX3_tagBearer_31 fl_3_103 (kX0 (iX3_4 h0)) (sX0_7 (iX3_4 h0))) ?_
    refine Eq.trans (e_iload_n dX3_tagBearer_34 rfl) ?_
    refine Eq.trans (e_iald dX3_tagBearer_35 (aX0_7 (iX3_4 h0)) (nX0_7 (iX3_4 h0))) (g_cj ?_)
    refine Eq.trans (e_iload_n dX3_tagBearer_36 rfl) ?_
    refine Eq.trans (e_ic_ne (t := 42) dX3_tagBearer_37 (by decide)) (g_ite ?_ ?_)
    · refine Eq.trans (e_iload_n dX3_tagBearer_40 rfl) ?_
      exact e_ireti dX3_tagBearer_41 rfl
    · refine Eq.trans (e_iinc (y := 1) dX3_tagBearer_42 rfl (by decide)) ?_
      refine Eq.trans (e_goto (t := 2) dX3_tagBearer_45 (by decide)) ?_
      rfl
theorem BX3_giveTag_0 {C : gC} {G : gG} {Q : gK} {σ : gM} {a0 : Nat} {v1 : Int32} {v2 : Int32} (h0 : isX3 G a0) : gw C G mX3_giveTag Q 0 [.ref a0, .int v1, .int v2] [] σ = (g_inv C mX6_drop [.ref (a0 + 18), .int v1] σ fun r σ' => gw C G mX3_giveTag Q 8 [.ref a0, .int v1, .int v2] (r.toList ++ []) σ') := by
  refine Eq.trans (e_aload_n dX3_giveTag_0 rfl) ?_
  refine Eq.trans (e_getr (b := a0 + 18) dX3_giveTag_1 fl_3_39 (kX3 h0) (sX3_5 h0)) ?_
  refine Eq.trans (e_iload_n dX3_giveTag_4 rfl) ?_
  exact e_invv dX3_giveTag_5 cl_3_113 (kX6 (iX3_5 h0)) (by simp) rfl rfl (by simp)
theorem BX3_giveTag_8 {C : gC} {G : gG} {Q : gK} {σ : gM} {a0 : Nat} {v1 : Int32} {v2 : Int32} (h0 : isX3 G a0) : gw C G mX3_giveTag Q 8 [.ref a0, .int v1, .int v2] [] σ = (g_inv C mX6_addLast [.ref (a0 + 18), .int v1] σ fun r σ' => gw C G mX3_giveTag Q 16 [.ref a0, .int v1, .int v2] (r.toList ++ []) σ') := by
  refine Eq.trans (e_aload_n dX3_giveTag_8 rfl) ?_
  refine Eq.trans (e_getr (b := a0 + 18) dX3_giveTag_9 fl_3_39 (kX3 h0) (sX3_5 h0)) ?_
  refine Eq.trans (e_iload_n dX3_giveTag_12 rfl) ?_
  exact e_invv dX3_giveTag_13 cl_3_164 (kX6 (iX3_5 h0)) (by simp) rfl rfl (by simp)
theorem BX3_giveTag_16 {C : gC} {G : gG} {Q : gK} {σ : gM} {a0 : Nat} {v1 : Int32} {v2 : Int32} (h0 : isX3 G a0) : gw C G mX3_giveTag Q 16 [.ref a0, .int v1, .int v2] [] σ = (vp_in v1 30 ∧ Q none (g_up σ (a0 + 16) v1.toNatClampNeg v2)) := by
  refine Eq.trans (e_aload_n dX3_giveTag_16 rfl) ?_
  refine Eq.trans (e_getr (b := a0 + 8) dX3_giveTag_17 fl_3_32 (kX3 h0) (sX3_4 h0)) ?_
  refine Eq.trans (e_getr (b := a0 + 16) dX3_giveTag_20 fl_3_103 (kX0 (iX3_4 h0)) (sX0_7 (iX3_4 h0))) ?_
  refine Eq.trans (e_iload_n dX3_giveTag_23 rfl) ?_
  refine Eq.trans (e_iload_n dX3_giveTag_24 rfl) ?_
  refine Eq.trans (e_iast dX3_giveTag_25 (aX0_7 (iX3_4 h0)) (nX0_7 (iX3_4 h0))) (g_cj ?_)
  exact e_ret dX3_giveTag_26 rfl
theorem BX3_dropFreeable_0 {C : gC} {G : gG} {Q : gK} {σ : gM} {a0 : Nat} (h0 : isX3 G a0) : gw C G mX3_dropFreeable Q 0 [.ref a0, .long 0, .long 0] [] σ = gw C G mX3_dropFreeable Q 4 [.ref a0, .int 0, .int 0] [] σ := by
  refine Eq.trans (e_iconst (x := 0) dX3_dropFreeable_0 (by decide)) ?_
  refine Eq.trans (e_istore_n dX3_dropFreeable_1 (Nat.le_of_ble_eq_true rfl)) ?_
  refine Eq.trans (e_iconst (x := 0) dX3_dropFreeable_2 (by decide)) ?_
  refine Eq.trans (e_istore_n dX3_dropFreeable_3 (Nat.le_of_ble_eq_true rfl)) ?_
  rfl
theorem BX3_dropFreeable_4 {C : gC} {G : gG} {Q : gK} {σ : gM} {a0 : Nat} {v1 : Int32} {v2 : Int32} (h0 : isX3 G a0) : gw C G mX3_dropFreeable Q 4 [.ref a0, .int v1, .int v2] [] σ = (if v2 < 30 then (g_inv C mX3_isFreeable [.ref a0, .int v2] σ fun r σ' => gw C G mX3_dropFreeable Q 15 [.ref a0, .int v1, .int v2] (r.toList ++ []) σ') else Q (some (.int v1)) σ) := by
  refine Eq.trans (e_iload_n dX3_dropFreeable_4 rfl) ?_
  refine Eq.trans (e_bipush (x := 30) dX3_dropFreeable_5 (by decide)) ?_
  refine Eq.trans (e_ic_ge (t := 65) dX3_dropFreeable_7 (by decide)) (g_ite ?_ ?_)
  · refine Eq.trans (e_aload_n dX3_dropFreeable_10 rfl) ?_
    refine Eq.trans (e_iload_n dX3_dropFreeable_11 rfl) ?_
    exact e_invv dX3_dropFreeable_12 cl_3_167 (kX3 h0) (by simp) rfl rfl (by simp)
  · refine Eq.trans (e_iload_n dX3_dropFreeable_65 rfl) ?_
    exact e_ireti dX3_dropFreeable_66 rfl
theorem BX3_dropFreeable_15 {C : gC} {G : gG} {Q : gK} {σ : gM} {a0 : Nat} {v1 : Int32} {v2 : Int32} {s0 : Int32} (h0 : isX3 G a0) : gw C G mX3_dropFreeable Q 15 [.ref a0, .int v1, .int v2] [.int s0] σ = (if s0 = 0 then gw C G mX3_dropFreeable Q 4 [.ref a0, .int v1, .int (v2 + 1)] [] σ else (vp_in v2 30 ∧ (vp_in v2 30 ∧ (g_inv C mX1_release [.ref (a0 + 6), .int (σ (a0 + 11) v2.toNatClampNeg), .int (σ (a0 + 12) v2.toNatClampNeg)] σ fun r σ' => gw C G mX3_dropFreeable Q 46 [.ref a0, .int v1, .int v2] (r.toList ++ []) σ')))) := by
  refine Eq.trans (e_if_ne (t := 21) dX3_dropFreeable_15 (by decide)) (g_ite ?_ ?_)
  · refine Eq.trans (e_goto (t := 59) dX3_dropFreeable_18 (by decide)) ?_
    refine Eq.trans (e_iinc (y := 1) dX3_dropFreeable_59 rfl (by decide)) ?_
    refine Eq.trans (e_goto (t := 4) dX3_dropFreeable_62 (by decide)) ?_
    rfl
  · refine Eq.trans (e_aload_n dX3_dropFreeable_21 rfl) ?_
    refine Eq.trans (e_getr (b := a0 + 6) dX3_dropFreeable_22 fl_3_25 (kX3 h0) (sX3_3 h0)) ?_
    refine Eq.trans (e_aload_n dX3_dropFreeable_25 rfl) ?_
    refine Eq.trans (e_getr (b := a0 + 8) dX3_dropFreeable_26 fl_3_32 (kX3 h0) (sX3_4 h0)) ?_
    refine Eq.trans (e_getr (b := a0 + 11) dX3_dropFreeable_29 fl_3_85 (kX0 (iX3_4 h0)) (sX0_2 (iX3_4 h0))) ?_
    refine Eq.trans (e_iload_n dX3_dropFreeable_32 rfl) ?_
    refine Eq.trans (e_iald dX3_dropFreeable_33 (aX0_2 (iX3_4 h0)) (nX0_2 (iX3_4 h0))) (g_cj ?_)
    refine Eq.trans (e_aload_n dX3_dropFreeable_34 rfl) ?_
    refine Eq.trans (e_getr (b := a0 + 8) dX3_dropFreeable_35 fl_3_32 (kX3 h0) (sX3_4 h0)) ?_
    refine Eq.trans (e_getr (b := a0 + 12) dX3_dropFreeable_38 fl_3_82 (kX0 (iX3_4 h0)) (sX0_3 (iX3_4 h0))) ?_
    refine Eq.trans (e_iload_n dX3_dropFreeable_41 rfl) ?_
    refine Eq.trans (e_iald dX3_dropFreeable_42 (aX0_3 (iX3_4 h0)) (nX0_3 (iX3_4 h0))) (g_cj ?_)
    exact e_invv dX3_dropFreeable_43 cl_3_138 (kX1 (iX3_3 h0)) (by simp) rfl rfl (by simp)
theorem BX3_dropFreeable_46 {C : gC} {G : gG} {Q : gK} {σ : gM} {a0 : Nat} {v1 : Int32} {v2 : Int32} (h0 : isX3 G a0) : gw C G mX3_dropFreeable Q 46 [.ref a0, .int v1, .int v2] [] σ = (vp_in v2 30 ∧ gw C G mX3_dropFreeable Q 4 [.ref a0, .int (v1 + 1), .int (v2 + 1)] [] (g_up σ (a0 + 10) v2.toNatClampNeg 0)) := by
  refine Eq.trans (e_aload_n dX3_dropFreeable_46 rfl) ?_
  refine Eq.trans (e_getr (b := a0 + 8) dX3_dropFreeable_47 fl_3_32 (kX3 h0) (sX3_4 h0)) ?_
  refine Eq.trans (e_getr (b := a0 + 10) dX3_dropFreeable_50 fl_3_91 (kX0 (iX3_4 h0)) (sX0_1 (iX3_4 h0))) ?_
  refine Eq.trans (e_iload_n dX3_dropFreeable_53 rfl) ?_
  refine Eq.trans (e_iconst (x := 0) dX3_dropFreeable_54 (by decide)) ?_
  refine Eq.trans (e_iast dX3_dropFreeable_55 (aX0_1 (iX3_4 h0)) (nX0_1 (iX3_4 h0))) (g_cj ?_)
  refine Eq.trans (e_iinc (y := 1) dX3_dropFreeable_56 rfl (by decide)) ?_
  refine Eq.trans (e_iinc (y := 1) dX3_dropFreeable_59 rfl (by decide)) ?_
  refine Eq.trans (e_goto (t := 4) dX3_dropFreeable_62 (by decide)) ?_
  rfl
theorem BX3_isFreeable_0 {C : gC} {G : gG} {Q : gK} {σ : gM} {a0 : Nat} {v1 : Int32} (h0 : isX3 G a0) : gw C G mX3_isFreeable Q 0 [.ref a0, .int v1, .long 0] [] σ = (vp_in v1 30 ∧ (if (σ (a0 + 10) v1.toNatClampNeg) = 2 then gw C G mX3_isFreeable Q 17 [.ref a0, .int v1, .int 0] [] σ else Q (some (.int 0)) σ)) := by
  refine Eq.trans (e_aload_n dX3_isFreeable_0 rfl) ?_
  refine Eq.trans (e_getr (b := a0 + 8) dX3_isFreeable_1 fl_3_32 (kX3 h0) (sX3_4 h0)) ?_
  refine Eq.trans (e_getr (b := a0 + 10) dX3_isFreeable_4 fl_3_91 (kX0 (iX3_4 h0)) (sX0_1 (iX3_4 h0))) ?_
  refine Eq.trans (e_iload_n dX3_isFreeable_7 rfl) ?_
  refine Eq.trans (e_iald dX3_isFreeable_8 (aX0_1 (iX3_4 h0)) (nX0_1 (iX3_4 h0))) (g_cj ?_)
  refine Eq.trans (e_iconst (x := 2) dX3_isFreeable_9 (by decide)) ?_
  refine Eq.trans (e_ic_eq (t := 15) dX3_isFreeable_10 (by decide)) (g_ite ?_ ?_)
  · refine Eq.trans (e_iconst (x := 0) dX3_isFreeable_15 (by decide)) ?_
    refine Eq.trans (e_istore_n dX3_isFreeable_16 (Nat.le_of_ble_eq_true rfl)) ?_
    rfl
  · refine Eq.trans (e_iconst (x := 0) dX3_isFreeable_13 (by decide)) ?_
    exact Eq.trans (e_iretz dX3_isFreeable_14 rfl) (g_and (by decide))
theorem BX3_isFreeable_17 {C : gC} {G : gG} {Q : gK} {σ : gM} {a0 : Nat} {v1 : Int32} {v2 : Int32} (h0 : isX3 G a0) : gw C G mX3_isFreeable Q 17 [.ref a0, .int v1, .int v2] [] σ = (if v2 < 6 then (vp_in v2 6 ∧ (if (σ (a0 + 21) v2.toNatClampNeg) = (-1) then gw C G mX3_isFreeable Q 17 [.ref a0, .int v1, .int (v2 + 1)] [] σ else (vp_in v2 6 ∧ (vp_in v1 30 ∧ (if (σ (a0 + 17) v1.toNatClampNeg) < (σ (a0 + 21) v2.toNatClampNeg) then gw C G mX3_isFreeable Q 17 [.ref a0, .int v1, .int (v2 + 1)] [] σ else Q (some (.int 0)) σ))))) else Q (some (.int 1)) σ) := by
  refine Eq.trans (e_iload_n dX3_isFreeable_17 rfl) ?_
  refine Eq.trans (e_bipush (x := 6) dX3_isFreeable_18 (by decide)) ?_
  refine Eq.trans (e_ic_ge (t := 59) dX3_isFreeable_20 (by decide)) (g_ite ?_ ?_)
  · refine Eq.trans (e_aload_n dX3_isFreeable_23 rfl) ?_
    refine Eq.trans (e_getr (b := a0 + 21) dX3_isFreeable_24 fl_3_46 (kX3 h0) (sX3_7 h0)) ?_
    refine Eq.trans (e_iload_n dX3_isFreeable_27 rfl) ?_
    refine Eq.trans (e_iald dX3_isFreeable_28 (aX3_7 h0) (nX3_7 h0)) (g_cj ?_)
    refine Eq.trans (e_iconst (x := (-1)) dX3_isFreeable_29 (by decide)) ?_
    refine Eq.trans (e_ic_eq (t := 53) dX3_isFreeable_30 (by decide)) (g_ite ?_ ?_)
    · refine Eq.trans (e_iinc (y := 1) dX3_isFreeable_53 rfl (by decide)) ?_
      refine Eq.trans (e_goto (t := 17) dX3_isFreeable_56 (by decide)) ?_
      rfl
    · refine Eq.trans (e_aload_n dX3_isFreeable_33 rfl) ?_
      refine Eq.trans (e_getr (b := a0 + 21) dX3_isFreeable_34 fl_3_46 (kX3 h0) (sX3_7 h0)) ?_
      refine Eq.trans (e_iload_n dX3_isFreeable_37 rfl) ?_
      refine Eq.trans (e_iald dX3_isFreeable_38 (aX3_7 h0) (nX3_7 h0)) (g_cj ?_)
      refine Eq.trans (e_aload_n dX3_isFreeable_39 rfl) ?_
      refine Eq.trans (e_getr (b := a0 + 8) dX3_isFreeable_40 fl_3_32 (kX3 h0) (sX3_4 h0)) ?_
      refine Eq.trans (e_getr (b := a0 + 17) dX3_isFreeable_43 fl_3_110 (kX0 (iX3_4 h0)) (sX0_8 (iX3_4 h0))) ?_
      refine Eq.trans (e_iload_n dX3_isFreeable_46 rfl) ?_
      refine Eq.trans (e_iald dX3_isFreeable_47 (aX0_8 (iX3_4 h0)) (nX0_8 (iX3_4 h0))) (g_cj ?_)
      refine Eq.trans (e_ic_gt (t := 53) dX3_isFreeable_48 (by decide)) (g_ite ?_ ?_)
      · refine Eq.trans (e_iinc (y := 1) dX3_isFreeable_53 rfl (by decide)) ?_
        refine Eq.trans (e_goto (t := 17) dX3_isFreeable_56 (by decide)) ?_
        rfl
      · refine Eq.trans (e_iconst (x := 0) dX3_isFreeable_51 (by decide)) ?_
        exact Eq.trans (e_iretz dX3_isFreeable_52 rfl) (g_and (by decide))
  · refine Eq.trans (e_iconst (x := 1) dX3_isFreeable_59 (by decide)) ?_
    exact Eq.trans (e_iretz dX3_isFreeable_60 rfl) (g_and (by decide))
theorem BX3_copyFrom_0 {C : gC} {G : gG} {Q : gK} {σ : gM} {a0 : Nat} {a1 : Nat} (h0 : isX3 G a0) (h1 : isX3 G a1) : gw C G mX3_copyFrom Q 0 [.ref a0, .ref a1] [] σ = gw C G mX3_copyFrom Q 8 [.ref a0, .ref a1] [] (g_up σ a0 0 (σ a1 0)) := by
  refine Eq.trans (e_aload_n dX3_copyFrom_0 rfl) ?_
  refine Eq.trans (e_aload_n dX3_copyFrom_1 rfl) ?_
  refine Eq.trans (e_geti dX3_copyFrom_2 fl_3_53 (kX3 h1)) ?_
  refine Eq.trans (e_puti dX3_copyFrom_5 fl_3_53 (kX3 h0)) ?_
  rfl
theorem BX3_copyFrom_8 {C : gC} {G : gG} {Q : gK} {σ : gM} {a0 : Nat} {a1 : Nat} (h0 : isX3 G a0) (h1 : isX3 G a1) : gw C G mX3_copyFrom Q 8 [.ref a0, .ref a1] [] σ = (g_inv C mX9_copyAll [.ref (a1 + 1), .ref (a0 + 1)] σ fun r σ' => gw C G mX3_copyFrom Q 19 [.ref a0, .ref a1] (r.toList ++ []) σ') := by
  refine Eq.trans (e_aload_n dX3_copyFrom_8 rfl) ?_
  refine Eq.trans (e_getr (b := a1 + 1) dX3_copyFrom_9 fl_3_9 (kX3 h1) (sX3_1 h1)) ?_
  refine Eq.trans (e_aload_n dX3_copyFrom_12 rfl) ?_
  refine Eq.trans (e_getr (b := a0 + 1) dX3_copyFrom_13 fl_3_9 (kX3 h0) (sX3_1 h0)) ?_
  exact e_invs dX3_copyFrom_16 cl_3_57 (by decide) (by simp) rfl rfl (by simp)
theorem BX3_copyFrom_19 {C : gC} {G : gG} {Q : gK} {σ : gM} {a0 : Nat} {a1 : Nat} (h0 : isX3 G a0) (h1 : isX3 G a1) : gw C G mX3_copyFrom Q 19 [.ref a0, .ref a1] [] σ = (g_inv C mX5_copyFrom [.ref (a0 + 2), .ref (a1 + 2)] σ fun r σ' => gw C G mX3_copyFrom Q 30 [.ref a0, .ref a1] (r.toList ++ []) σ') := by
  refine Eq.trans (e_aload_n dX3_copyFrom_19 rfl) ?_
  refine Eq.trans (e_getr (b := a0 + 2) dX3_copyFrom_20 fl_3_18 (kX3 h0) (sX3_2 h0)) ?_
  refine Eq.trans (e_aload_n dX3_copyFrom_23 rfl) ?_
  refine Eq.trans (e_getr (b := a1 + 2) dX3_copyFrom_24 fl_3_18 (kX3 h1) (sX3_2 h1)) ?_
  exact e_invv dX3_copyFrom_27 cl_3_61 (kX5 (iX3_2 h0)) (by simp) rfl rfl (by simp)
theorem BX3_copyFrom_30 {C : gC} {G : gG} {Q : gK} {σ : gM} {a0 : Nat} {a1 : Nat} (h0 : isX3 G a0) (h1 : isX3 G a1) : gw C G mX3_copyFrom Q 30 [.ref a0, .ref a1] [] σ = (g_inv C mX1_copyFrom [.ref (a0 + 6), .ref (a1 + 6)] σ fun r σ' => gw C G mX3_copyFrom Q 41 [.ref a0, .ref a1] (r.toList ++ []) σ') := by
  refine Eq.trans (e_aload_n dX3_copyFrom_30 rfl) ?_
  refine Eq.trans (e_getr (b := a0 + 6) dX3_copyFrom_31 fl_3_25 (kX3 h0) (sX3_3 h0)) ?_
  refine Eq.trans (e_aload_n dX3_copyFrom_34 rfl) ?_
  refine Eq.trans (e_getr (b := a1 + 6) dX3_copyFrom_35 fl_3_25 (kX3 h1) (sX3_3 h1)) ?_
  exact e_invv dX3_copyFrom_38 cl_3_65 (kX1 (iX3_3 h0)) (by simp) rfl rfl (by simp)
theorem BX3_copyFrom_41 {C : gC} {G : gG} {Q : gK} {σ : gM} {a0 : Nat} {a1 : Nat} (h0 : isX3 G a0) (h1 : isX3 G a1) : gw C G mX3_copyFrom Q 41 [.ref a0, .ref a1] [] σ = (g_inv C mX0_copyFrom [.ref (a0 + 8), .ref (a1 + 8)] σ fun r σ' => gw C G mX3_copyFrom Q 52 [.ref a0, .ref a1] (r.toList ++ []) σ') := by
  refine Eq.trans (e_aload_n dX3_copyFrom_41 rfl) ?_
  refine Eq.trans (e_getr (b := a0 + 8) dX3_copyFrom_42 fl_3_32 (kX3 h0) (sX3_4 h0)) ?_
  refine Eq.trans (e_aload_n dX3_copyFrom_45 rfl) ?_
  refine Eq.trans (e_getr (b := a1 + 8) dX3_copyFrom_46 fl_3_32 (kX3 h1) (sX3_4 h1)) ?_
  exact e_invv dX3_copyFrom_49 cl_3_68 (kX0 (iX3_4 h0)) (by simp) rfl rfl (by simp)
theorem BX3_copyFrom_52 {C : gC} {G : gG} {Q : gK} {σ : gM} {a0 : Nat} {a1 : Nat} (h0 : isX3 G a0) (h1 : isX3 G a1) : gw C G mX3_copyFrom Q 52 [.ref a0, .ref a1] [] σ = (g_inv C mX6_copyFrom [.ref (a0 + 18), .ref (a1 + 18)] σ fun r σ' => gw C G mX3_copyFrom Q 63 [.ref a0, .ref a1] (r.toList ++ []) σ') := by
  refine Eq.trans (e_aload_n dX3_copyFrom_52 rfl) ?_
  refine Eq.trans (e_getr (b := a0 + 18) dX3_copyFrom_53 fl_3_39 (kX3 h0) (sX3_5 h0)) ?_
  refine Eq.trans (e_aload_n dX3_copyFrom_56 rfl) ?_
  refine Eq.trans (e_getr (b := a1 + 18) dX3_copyFrom_57 fl_3_39 (kX3 h1) (sX3_5 h1)) ?_
  exact e_invv dX3_copyFrom_60 cl_3_71 (kX6 (iX3_5 h0)) (by simp) rfl rfl (by simp)
theorem BX3_copyFrom_63 {C : gC} {G : gG} {Q : gK} {σ : gM} {a0 : Nat} {a1 : Nat} (h0 : isX3 G a0) (h1 : isX3 G a1) : gw C G mX3_copyFrom Q 63 [.ref a0, .ref a1] [] σ = (g_inv C mX9_copyAll [.ref (a1 + 20), .ref (a0 + 20)] σ fun r σ' => gw C G mX3_copyFrom Q 74 [.ref a0, .ref a1] (r.toList ++ []) σ') := by
  refine Eq.trans (e_aload_n dX3_copyFrom_63 rfl) ?_
  refine Eq.trans (e_getr (b := a1 + 20) dX3_copyFrom_64 fl_3_43 (kX3 h1) (sX3_6 h1)) ?_
  refine Eq.trans (e_aload_n dX3_copyFrom_67 rfl) ?_
  refine Eq.trans (e_getr (b := a0 + 20) dX3_copyFrom_68 fl_3_43 (kX3 h0) (sX3_6 h0)) ?_
  exact e_invs dX3_copyFrom_71 cl_3_57 (by decide) (by simp) rfl rfl (by simp)
theorem BX3_copyFrom_74 {C : gC} {G : gG} {Q : gK} {σ : gM} {a0 : Nat} {a1 : Nat} (h0 : isX3 G a0) (h1 : isX3 G a1) : gw C G mX3_copyFrom Q 74 [.ref a0, .ref a1] [] σ = (g_inv C mX9_copyAll [.ref (a1 + 21), .ref (a0 + 21)] σ fun r σ' => gw C G mX3_copyFrom Q 85 [.ref a0, .ref a1] (r.toList ++ []) σ') := by
  refine Eq.trans (e_aload_n dX3_copyFrom_74 rfl) ?_
  refine Eq.trans (e_getr (b := a1 + 21) dX3_copyFrom_75 fl_3_46 (kX3 h1) (sX3_7 h1)) ?_
  refine Eq.trans (e_aload_n dX3_copyFrom_78 rfl) ?_
  refine Eq.trans (e_getr (b := a0 + 21) dX3_copyFrom_79 fl_3_46 (kX3 h0) (sX3_7 h0)) ?_
  exact e_invs dX3_copyFrom_82 cl_3_57 (by decide) (by simp) rfl rfl (by simp)
theorem BX3_copyFrom_85 {C : gC} {G : gG} {Q : gK} {σ : gM} {a0 : Nat} {a1 : Nat} (h0 : isX3 G a0) (h1 : isX3 G a1) : gw C G mX3_copyFrom Q 85 [.ref a0, .ref a1] [] σ = Q none σ := by
  exact e_ret dX3_copyFrom_85 rfl
theorem BX3_leastBudget_0 {C : gC} {G : gG} {Q : gK} {σ : gM} {a0 : Nat} {v1 : Int32} {v2 : Int32} (h0 : isX3 G a0) : gw C G mX3_leastBudget Q 0 [.ref a0, .int v1, .int v2, .long 0, .long 0, .long 0] [] σ = gw C G mX3_leastBudget Q 5 [.ref a0, .int v1, .int v2, .int 0, .int 0, .long 0] [] σ := by
  refine Eq.trans (e_iconst (x := 0) dX3_leastBudget_0 (by decide)) ?_
  refine Eq.trans (e_istore_n dX3_leastBudget_1 (Nat.le_of_ble_eq_true rfl)) ?_
  refine Eq.trans (e_iconst (x := 0) dX3_leastBudget_2 (by decide)) ?_
  refine Eq.trans (e_istore dX3_leastBudget_3 (Nat.le_of_ble_eq_true rfl)) ?_
  rfl
theorem BX3_leastBudget_5 {C : gC} {G : gG} {Q : gK} {σ : gM} {a0 : Nat} {v1 : Int32} {v2 : Int32} {v3 : Int32} {v4 : Int32} {wv5 : Value} (h0 : isX3 G a0) : gw C G mX3_leastBudget Q 5 [.ref a0, .int v1, .int v2, .int v3, .int v4, wv5] [] σ = (if 30 < v4 then Q (some (.int (-1))) σ else (g_inv C mX3_placeFor [.ref a0, .int v1, .int v2] σ fun r σ' => gw C G mX3_leastBudget Q 18 [.ref a0, .int v1, .int v2, .int v3, .int v4, wv5] (r.toList ++ []) σ')) := by
  refine Eq.trans (e_iload dX3_leastBudget_5 rfl) ?_
  refine Eq.trans (e_bipush (x := 30) dX3_leastBudget_7 (by decide)) ?_
  refine Eq.trans (e_ic_gt (t := 70) dX3_leastBudget_9 (by decide)) (g_ite ?_ ?_)
  · refine Eq.trans (e_iconst (x := (-1)) dX3_leastBudget_70 (by decide)) ?_
    exact e_ireti dX3_leastBudget_71 rfl
  · refine Eq.trans (e_aload_n dX3_leastBudget_12 rfl) ?_
    refine Eq.trans (e_iload_n dX3_leastBudget_13 rfl) ?_
    refine Eq.trans (e_iload_n dX3_leastBudget_14 rfl) ?_
    exact e_invv dX3_leastBudget_15 cl_3_124 (kX3 h0) (by simp) rfl rfl (by simp)
theorem BX3_leastBudget_18 {C : gC} {G : gG} {Q : gK} {σ : gM} {a0 : Nat} {v1 : Int32} {v2 : Int32} {v3 : Int32} {v4 : Int32} {wv5 : Value} {s0 : Int32} (h0 : isX3 G a0) : gw C G mX3_leastBudget Q 18 [.ref a0, .int v1, .int v2, .int v3, .int v4, wv5] [.int s0] σ = (if s0 = (-1) then (g_inv C mX3_nextToMove [.ref a0, .int v1] σ fun r σ' => gw C G mX3_leastBudget Q 29 [.ref a0, .int v1, .int v2, .int v3, .int v4, wv5] (r.toList ++ []) σ') else Q (some (.int v3)) σ) := by
  refine Eq.trans (e_iconst (x := (-1)) dX3_leastBudget_18 (by decide)) ?_
  refine Eq.trans (e_ic_eq (t := 24) dX3_leastBudget_19 (by decide)) (g_ite ?_ ?_)
  · refine Eq.trans (e_aload_n dX3_leastBudget_24 rfl) ?_
    refine Eq.trans (e_iload_n dX3_leastBudget_25 rfl) ?_
    exact e_invv dX3_leastBudget_26 cl_3_141 (kX3 h0) (by simp) rfl rfl (by simp)
  · refine Eq.trans (e_iload_n dX3_leastBudget_22 rfl) ?_
    exact e_ireti dX3_leastBudget_23 rfl
theorem BX3_leastBudget_29 {C : gC} {G : gG} {Q : gK} {σ : gM} {a0 : Nat} {v1 : Int32} {v2 : Int32} {v3 : Int32} {v4 : Int32} {wv5 : Value} {s0 : Int32} (h0 : isX3 G a0) : gw C G mX3_leastBudget Q 29 [.ref a0, .int v1, .int v2, .int v3, .int v4, wv5] [.int s0] σ = (if s0 = (-1) then Q (some (.int (-1))) σ else (vp_in s0 30 ∧ (g_inv C mX3_movedLow [.ref a0, .int s0] σ fun r σ' => gw C G mX3_leastBudget Q 61 [.ref a0, .int v1, .int v2, .int (v3 + (σ (a0 + 12) s0.toNatClampNeg)), .int v4, .int s0] (r.toList ++ [.int s0, .ref a0]) σ'))) := by
  refine Eq.trans (e_istore dX3_leastBudget_29 (Nat.le_of_ble_eq_true rfl)) ?_
  refine Eq.trans (e_iload dX3_leastBudget_31 rfl) ?_
  refine Eq.trans (e_iconst (x := (-1)) dX3_leastBudget_33 (by decide)) ?_
  refine Eq.trans (e_ic_ne (t := 39) dX3_leastBudget_34 (by decide)) (g_ite ?_ ?_)
  · refine Eq.trans (e_iconst (x := (-1)) dX3_leastBudget_37 (by decide)) ?_
    exact e_ireti dX3_leastBudget_38 rfl
  · refine Eq.trans (e_iload_n dX3_leastBudget_39 rfl) ?_
    refine Eq.trans (e_aload_n dX3_leastBudget_40 rfl) ?_
    refine Eq.trans (e_getr (b := a0 + 8) dX3_leastBudget_41 fl_3_32 (kX3 h0) (sX3_4 h0)) ?_
    refine Eq.trans (e_getr (b := a0 + 12) dX3_leastBudget_44 fl_3_82 (kX0 (iX3_4 h0)) (sX0_3 (iX3_4 h0))) ?_
    refine Eq.trans (e_iload dX3_leastBudget_47 rfl) ?_
    refine Eq.trans (e_iald dX3_leastBudget_49 (aX0_3 (iX3_4 h0)) (nX0_3 (iX3_4 h0))) (g_cj ?_)
    refine Eq.trans (e_iadd dX3_leastBudget_50) ?_
    refine Eq.trans (e_istore_n dX3_leastBudget_51 (Nat.le_of_ble_eq_true rfl)) ?_
    refine Eq.trans (e_aload_n dX3_leastBudget_52 rfl) ?_
    refine Eq.trans (e_iload dX3_leastBudget_53 rfl) ?_
    refine Eq.trans (e_aload_n dX3_leastBudget_55 rfl) ?_
    refine Eq.trans (e_iload dX3_leastBudget_56 rfl) ?_
    exact e_invv dX3_leastBudget_58 cl_3_144 (kX3 h0) (by simp) rfl rfl (by simp)
theorem BX3_leastBudget_61 {C : gC} {G : gG} {Q : gK} {σ : gM} {a0 : Nat} {v1 : Int32} {v2 : Int32} {v3 : Int32} {v4 : Int32} {v5 : Int32} {s1 : Int32} {s2 : Int32} (h0 : isX3 G a0) : gw C G mX3_leastBudget Q 61 [.ref a0, .int v1, .int v2, .int v3, .int v4, .int v5] [.int s2, .int s1, .ref a0] σ = (g_inv C mX3_layAt [.ref a0, .int s1, .int s2] σ fun r σ' => gw C G mX3_leastBudget Q 64 [.ref a0, .int v1, .int v2, .int v3, .int v4, .int v5] (r.toList ++ []) σ') := by
  exact e_invv dX3_leastBudget_61 cl_3_128 (kX3 h0) (by simp) rfl rfl (by simp)
theorem BX3_leastBudget_64 {C : gC} {G : gG} {Q : gK} {σ : gM} {a0 : Nat} {v1 : Int32} {v2 : Int32} {v3 : Int32} {v4 : Int32} {v5 : Int32} (h0 : isX3 G a0) : gw C G mX3_leastBudget Q 64 [.ref a0, .int v1, .int v2, .int v3, .int v4, .int v5] [] σ = gw C G mX3_leastBudget Q 5 [.ref a0, .int v1, .int v2, .int v3, .int (v4 + 1), .int v5] [] σ := by
  refine Eq.trans (e_iinc (y := 1) dX3_leastBudget_64 rfl (by decide)) ?_
  refine Eq.trans (e_goto (t := 5) dX3_leastBudget_67 (by decide)) ?_
  rfl
theorem BX3_freeable_0 {C : gC} {G : gG} {Q : gK} {σ : gM} {a0 : Nat} (h0 : isX3 G a0) : gw C G mX3_freeable Q 0 [.ref a0, .long 0, .long 0] [] σ = gw C G mX3_freeable Q 4 [.ref a0, .int 0, .int 0] [] σ := by
  refine Eq.trans (e_iconst (x := 0) dX3_freeable_0 (by decide)) ?_
  refine Eq.trans (e_istore_n dX3_freeable_1 (Nat.le_of_ble_eq_true rfl)) ?_
  refine Eq.trans (e_iconst (x := 0) dX3_freeable_2 (by decide)) ?_
  refine Eq.trans (e_istore_n dX3_freeable_3 (Nat.le_of_ble_eq_true rfl)) ?_
  rfl
theorem BX3_freeable_4 {C : gC} {G : gG} {Q : gK} {σ : gM} {a0 : Nat} {v1 : Int32} {v2 : Int32} (h0 : isX3 G a0) : gw C G mX3_freeable Q 4 [.ref a0, .int v1, .int v2] [] σ = (if v2 < 30 then (g_inv C mX3_isFreeable [.ref a0, .int v2] σ fun r σ' => gw C G mX3_freeable Q 15 [.ref a0, .int v1, .int v2] (r.toList ++ []) σ') else Q (some (.int v1)) σ) := by
  refine Eq.trans (e_iload_n dX3_freeable_4 rfl) ?_
  refine Eq.trans (e_bipush (x := 30) dX3_freeable_5 (by decide)) ?_
  refine Eq.trans (e_ic_ge (t := 27) dX3_freeable_7 (by decide)) (g_ite ?_ ?_)
  · refine Eq.trans (e_aload_n dX3_freeable_10 rfl) ?_
    refine Eq.trans (e_iload_n dX3_freeable_11 rfl) ?_
    exact e_invv dX3_freeable_12 cl_3_167 (kX3 h0) (by simp) rfl rfl (by simp)
  · refine Eq.trans (e_iload_n dX3_freeable_27 rfl) ?_
    exact e_ireti dX3_freeable_28 rfl
theorem BX3_freeable_15 {C : gC} {G : gG} {Q : gK} {σ : gM} {a0 : Nat} {v1 : Int32} {v2 : Int32} {s0 : Int32} (h0 : isX3 G a0) : gw C G mX3_freeable Q 15 [.ref a0, .int v1, .int v2] [.int s0] σ = (if s0 = 0 then gw C G mX3_freeable Q 4 [.ref a0, .int v1, .int (v2 + 1)] [] σ else gw C G mX3_freeable Q 4 [.ref a0, .int (v1 + 1), .int (v2 + 1)] [] σ) := by
  refine Eq.trans (e_if_eq (t := 21) dX3_freeable_15 (by decide)) (g_ite ?_ ?_)
  · refine Eq.trans (e_iinc (y := 1) dX3_freeable_21 rfl (by decide)) ?_
    refine Eq.trans (e_goto (t := 4) dX3_freeable_24 (by decide)) ?_
    rfl
  · refine Eq.trans (e_iinc (y := 1) dX3_freeable_18 rfl (by decide)) ?_
    refine Eq.trans (e_iinc (y := 1) dX3_freeable_21 rfl (by decide)) ?_
    refine Eq.trans (e_goto (t := 4) dX3_freeable_24 (by decide)) ?_
    rfl
theorem BX3_earliestReader_0 {C : gC} {G : gG} {Q : gK} {σ : gM} {a0 : Nat} (h0 : isX3 G a0) : gw C G mX3_earliestReader Q 0 [.ref a0, .long 0, .long 0] [] σ = gw C G mX3_earliestReader Q 4 [.ref a0, .int (-1), .int 0] [] σ := by
  refine Eq.trans (e_iconst (x := (-1)) dX3_earliestReader_0 (by decide)) ?_
  refine Eq.trans (e_istore_n dX3_earliestReader_1 (Nat.le_of_ble_eq_true rfl)) ?_
  refine Eq.trans (e_iconst (x := 0) dX3_earliestReader_2 (by decide)) ?_
  refine Eq.trans (e_istore_n dX3_earliestReader_3 (Nat.le_of_ble_eq_true rfl)) ?_
  rfl
theorem BX3_earliestReader_4 {C : gC} {G : gG} {Q : gK} {σ : gM} {a0 : Nat} {v1 : Int32} {v2 : Int32} (h0 : isX3 G a0) : gw C G mX3_earliestReader Q 4 [.ref a0, .int v1, .int v2] [] σ = (if v2 < 6 then (vp_in v2 6 ∧ (if (σ (a0 + 21) v2.toNatClampNeg) = (-1) then gw C G mX3_earliestReader Q 4 [.ref a0, .int v1, .int (v2 + 1)] [] σ else (if v1 = (-1) then gw C G mX3_earliestReader Q 4 [.ref a0, .int v2, .int (v2 + 1)] [] σ else (vp_in v2 6 ∧ (vp_in v1 6 ∧ (if (σ (a0 + 21) v2.toNatClampNeg) < (σ (a0 + 21) v1.toNatClampNeg) then gw C G mX3_earliestReader Q 4 [.ref a0, .int v2, .int (v2 + 1)] [] σ else gw C G mX3_earliestReader Q 4 [.ref a0, .int v1, .int (v2 + 1)] [] σ)))))) else Q (some (.int v1)) σ) := by
  refine Eq.trans (e_iload_n dX3_earliestReader_4 rfl) ?_
  refine Eq.trans (e_bipush (x := 6) dX3_earliestReader_5 (by decide)) ?_
  refine Eq.trans (e_ic_ge (t := 51) dX3_earliestReader_7 (by decide)) (g_ite ?_ ?_)
  · refine Eq.trans (e_aload_n dX3_earliestReader_10 rfl) ?_
    refine Eq.trans (e_getr (b := a0 + 21) dX3_earliestReader_11 fl_3_46 (kX3 h0) (sX3_7 h0)) ?_
    refine Eq.trans (e_iload_n dX3_earliestReader_14 rfl) ?_
    refine Eq.trans (e_iald dX3_earliestReader_15 (aX3_7 h0) (nX3_7 h0)) (g_cj ?_)
    refine Eq.trans (e_iconst (x := (-1)) dX3_earliestReader_16 (by decide)) ?_
    refine Eq.trans (e_ic_ne (t := 23) dX3_earliestReader_17 (by decide)) (g_ite ?_ ?_)
    · refine Eq.trans (e_goto (t := 45) dX3_earliestReader_20 (by decide)) ?_
      refine Eq.trans (e_iinc (y := 1) dX3_earliestReader_45 rfl (by decide)) ?_
      refine Eq.trans (e_goto (t := 4) dX3_earliestReader_48 (by decide)) ?_
      rfl
    · refine Eq.trans (e_iload_n dX3_earliestReader_23 rfl) ?_
      refine Eq.trans (e_iconst (x := (-1)) dX3_earliestReader_24 (by decide)) ?_
      refine Eq.trans (e_ic_eq (t := 43) dX3_earliestReader_25 (by decide)) (g_ite ?_ ?_)
      · refine Eq.trans (e_iload_n dX3_earliestReader_43 rfl) ?_
        refine Eq.trans (e_istore_n dX3_earliestReader_44 (Nat.le_of_ble_eq_true rfl)) ?_
        refine Eq.trans (e_iinc (y := 1) dX3_earliestReader_45 rfl (by decide)) ?_
        refine Eq.trans (e_goto (t := 4) dX3_earliestReader_48 (by decide)) ?_
        rfl
      · refine Eq.trans (e_aload_n dX3_earliestReader_28 rfl) ?_
        refine Eq.trans (e_getr (b := a0 + 21) dX3_earliestReader_29 fl_3_46 (kX3 h0) (sX3_7 h0)) ?_
        refine Eq.trans (e_iload_n dX3_earliestReader_32 rfl) ?_
        refine Eq.trans (e_iald dX3_earliestReader_33 (aX3_7 h0) (nX3_7 h0)) (g_cj ?_)
        refine Eq.trans (e_aload_n dX3_earliestReader_34 rfl) ?_
        refine Eq.trans (e_getr (b := a0 + 21) dX3_earliestReader_35 fl_3_46 (kX3 h0) (sX3_7 h0)) ?_
        refine Eq.trans (e_iload_n dX3_earliestReader_38 rfl) ?_
        refine Eq.trans (e_iald dX3_earliestReader_39 (aX3_7 h0) (nX3_7 h0)) (g_cj ?_)
        refine Eq.trans (e_ic_ge (t := 45) dX3_earliestReader_40 (by decide)) (g_ite ?_ ?_)
        · refine Eq.trans (e_iload_n dX3_earliestReader_43 rfl) ?_
          refine Eq.trans (e_istore_n dX3_earliestReader_44 (Nat.le_of_ble_eq_true rfl)) ?_
          refine Eq.trans (e_iinc (y := 1) dX3_earliestReader_45 rfl (by decide)) ?_
          refine Eq.trans (e_goto (t := 4) dX3_earliestReader_48 (by decide)) ?_
          rfl
        · refine Eq.trans (e_iinc (y := 1) dX3_earliestReader_45 rfl (by decide)) ?_
          refine Eq.trans (e_goto (t := 4) dX3_earliestReader_48 (by decide)) ?_
          rfl
  · refine Eq.trans (e_iload_n dX3_earliestReader_51 rfl) ?_
    exact e_ireti dX3_earliestReader_52 rfl
theorem BX3_readersIn_0 {C : gC} {G : gG} {Q : gK} {σ : gM} {a0 : Nat} (h0 : isX3 G a0) : gw C G mX3_readersIn Q 0 [.ref a0, .long 0, .long 0] [] σ = gw C G mX3_readersIn Q 4 [.ref a0, .int 0, .int 0] [] σ := by
  refine Eq.trans (e_iconst (x := 0) dX3_readersIn_0 (by decide)) ?_
  refine Eq.trans (e_istore_n dX3_readersIn_1 (Nat.le_of_ble_eq_true rfl)) ?_
  refine Eq.trans (e_iconst (x := 0) dX3_readersIn_2 (by decide)) ?_
  refine Eq.trans (e_istore_n dX3_readersIn_3 (Nat.le_of_ble_eq_true rfl)) ?_
  rfl
theorem BX3_readersIn_4 {C : gC} {G : gG} {Q : gK} {σ : gM} {a0 : Nat} {v1 : Int32} {v2 : Int32} (h0 : isX3 G a0) : gw C G mX3_readersIn Q 4 [.ref a0, .int v1, .int v2] [] σ = (if v2 < 6 then (vp_in v2 6 ∧ (if (σ (a0 + 21) v2.toNatClampNeg) = (-1) then gw C G mX3_readersIn Q 4 [.ref a0, .int v1, .int (v2 + 1)] [] σ else gw C G mX3_readersIn Q 4 [.ref a0, .int (v1 ||| (1 <<< (v2 &&& 31))), .int (v2 + 1)] [] σ)) else Q (some (.int v1)) σ) := by
  refine Eq.trans (e_iload_n dX3_readersIn_4 rfl) ?_
  refine Eq.trans (e_bipush (x := 6) dX3_readersIn_5 (by decide)) ?_
  refine Eq.trans (e_ic_ge (t := 32) dX3_readersIn_7 (by decide)) (g_ite ?_ ?_)
  · refine Eq.trans (e_aload_n dX3_readersIn_10 rfl) ?_
    refine Eq.trans (e_getr (b := a0 + 21) dX3_readersIn_11 fl_3_46 (kX3 h0) (sX3_7 h0)) ?_
    refine Eq.trans (e_iload_n dX3_readersIn_14 rfl) ?_
    refine Eq.trans (e_iald dX3_readersIn_15 (aX3_7 h0) (nX3_7 h0)) (g_cj ?_)
    refine Eq.trans (e_iconst (x := (-1)) dX3_readersIn_16 (by decide)) ?_
    refine Eq.trans (e_ic_eq (t := 26) dX3_readersIn_17 (by decide)) (g_ite ?_ ?_)
    · refine Eq.trans (e_iinc (y := 1) dX3_readersIn_26 rfl (by decide)) ?_
      refine Eq.trans (e_goto (t := 4) dX3_readersIn_29 (by decide)) ?_
      rfl
    · refine Eq.trans (e_iload_n dX3_readersIn_20 rfl) ?_
      refine Eq.trans (e_iconst (x := 1) dX3_readersIn_21 (by decide)) ?_
      refine Eq.trans (e_iload_n dX3_readersIn_22 rfl) ?_
      refine Eq.trans (e_ishl dX3_readersIn_23) ?_
      refine Eq.trans (e_ior dX3_readersIn_24) ?_
      refine Eq.trans (e_istore_n dX3_readersIn_25 (Nat.le_of_ble_eq_true rfl)) ?_
      refine Eq.trans (e_iinc (y := 1) dX3_readersIn_26 rfl (by decide)) ?_
      refine Eq.trans (e_goto (t := 4) dX3_readersIn_29 (by decide)) ?_
      rfl
  · refine Eq.trans (e_iload_n dX3_readersIn_32 rfl) ?_
    exact e_ireti dX3_readersIn_33 rfl
