/-! the constructors: what they are, the worlds that they make, and their ends -/
def mX0_init : gY := (yX0_init, cX0_init, 1, none, 0)
theorem ok_mX0_init : gOkM mX0_init 0 := ⟨gT_in (List.mem_of_getElem? (i := 130) (by decide +kernel)) rfl, by decide +kernel, ⟨by decide +kernel, by decide +kernel⟩, by decide +kernel, by decide, by decide +kernel, gI_X0⟩
def mX2_init : gY := (yX2_init, cX2_init, 1, none, 2)
theorem ok_mX2_init : gOkM mX2_init 0 := ⟨gT_in (List.mem_of_getElem? (i := 301) (by decide +kernel)) rfl, by decide +kernel, ⟨by decide +kernel, by decide +kernel⟩, by decide +kernel, by decide, by decide +kernel, gI_X2⟩
def mX4_init : gY := (yX4_init, cX4_init, 1, none, 4)
theorem ok_mX4_init : gOkM mX4_init 0 := ⟨gT_in (List.mem_of_getElem? (i := 255) (by decide +kernel)) rfl, by decide +kernel, ⟨by decide +kernel, by decide +kernel⟩, by decide +kernel, by decide, by decide +kernel, gI_X4⟩
def mX5_init : gY := (yX5_init, cX5_init, 1, none, 5)
theorem ok_mX5_init : gOkM mX5_init 0 := ⟨gT_in (List.mem_of_getElem? (i := 84) (by decide +kernel)) rfl, by decide +kernel, ⟨by decide +kernel, by decide +kernel⟩, by decide +kernel, by decide, by decide +kernel, gI_X5⟩
def mX6_init : gY := (yX6_init, cX6_init, 1, none, 6)
theorem ok_mX6_init : gOkM mX6_init 0 := ⟨gT_in (List.mem_of_getElem? (i := 187) (by decide +kernel)) rfl, by decide +kernel, ⟨by decide +kernel, by decide +kernel⟩, by decide +kernel, by decide, by decide +kernel, gI_X6⟩
def mX7_init : gY := (yX7_init, cX7_init, 1, none, 7)
theorem ok_mX7_init : gOkM mX7_init 0 := ⟨gT_in (List.mem_of_getElem? (i := 272) (by decide +kernel)) rfl, by decide +kernel, ⟨by decide +kernel, by decide +kernel⟩, by decide +kernel, by decide, by decide +kernel, gI_X7⟩
def mX8_init : gY := (yX8_init, cX8_init, 1, none, 8)
theorem ok_mX8_init : gOkM mX8_init 0 := ⟨gT_in (List.mem_of_getElem? (i := 238) (by decide +kernel)) rfl, by decide +kernel, ⟨by decide +kernel, by decide +kernel⟩, by decide +kernel, by decide, by decide +kernel, gI_X8⟩
def mX1_init : gY := (yX1_init, cX1_init, 1, none, 1)
theorem ok_mX1_init : gOkM mX1_init 0 := ⟨gT_in (List.mem_of_getElem? (i := 111) (by decide +kernel)) rfl, by decide +kernel, ⟨by decide +kernel, by decide +kernel⟩, by decide +kernel, by decide, by decide +kernel, gI_X1⟩
def mX3_init : gY := (yX3_init, cX3_init, 1, none, 3)
theorem ok_mX3_init : gOkM mX3_init 0 := ⟨gT_in (List.mem_of_getElem? (i := 78) (by decide +kernel)) rfl, by decide +kernel, ⟨by decide +kernel, by decide +kernel⟩, by decide +kernel, by decide, by decide +kernel, gI_X3⟩
def mX9_init : gY := (yX9_init, cX9_init, 1, none, 9)
theorem ok_mX9_init : gOkM mX9_init 0 := ⟨gT_in (List.mem_of_getElem? (i := 70) (by decide +kernel)) rfl, by decide +kernel, ⟨by decide +kernel, by decide +kernel⟩, by decide +kernel, by decide, by decide +kernel, gI_X9⟩
def mX10_init : gY := (yX10_init, cX10_init, 2, none, 10)
theorem ok_mX10_init : gOkM mX10_init 0 := ⟨gT_in (List.mem_of_getElem? (i := 865) (by decide +kernel)) rfl, by decide +kernel, ⟨by decide +kernel, by decide +kernel⟩, by decide +kernel, by decide, by decide +kernel, gI_X10⟩
def LX0 : gL := [(0, 0, [1, 2, 3, 4, 5, 6, 7, 8, 9]), (11, 30, []), (11, 30, []), (11, 30, []), (11, 30, []), (11, 30, []), (11, 30, []), (11, 30, []), (11, 30, []), (11, 30, [])]
theorem cX0 : gClo LX0 = true := by decide +kernel
def LX2 : gL := [(2, 0, [1, 2, 3, 4]), (11, 6, []), (11, 6, []), (11, 6, []), (11, 360, [])]
theorem cX2 : gClo LX2 = true := by decide +kernel
def LX4 : gL := [(4, 0, [0, 1, 2]), (11, 60, []), (11, 60, [])]
theorem cX4 : gClo LX4 = true := by decide +kernel
def LX5 : gL := [(5, 0, [0, 1, 2, 3]), (11, 6, []), (11, 6, []), (11, 6, [])]
theorem cX5 : gClo LX5 = true := by decide +kernel
def LX6 : gL := [(6, 0, [0, 1]), (11, 30, [])]
theorem cX6 : gClo LX6 = true := by decide +kernel
def LX7 : gL := [(7, 0, [0, 1, 0, 0, 2, 3]), (11, 120, []), (11, 60, []), (11, 180, [])]
theorem cX7 : gClo LX7 = true := by decide +kernel
def LX8 : gL := [(8, 0, [1, 2, 0]), (11, 30, []), (11, 30, [])]
theorem cX8 : gClo LX8 = true := by decide +kernel
def LX1 : gL := [(1, 0, [1]), (11, 240, [])]
theorem cX1 : gClo LX1 = true := by decide +kernel
def LX3 : gL := [(3, 0, [0, 1, 2, 6, 8, 18, 20, 21]), (11, 240, []), (5, 0, [2, 3, 4, 5]), (11, 6, []), (11, 6, []), (11, 6, []), (1, 0, [7]), (11, 240, []), (0, 0, [9, 10, 11, 12, 13, 14, 15, 16, 17]), (11, 30, []), (11, 30, []), (11, 30, []), (11, 30, []), (11, 30, []), (11, 30, []), (11, 30, []), (11, 30, []), (11, 30, []), (6, 0, [18, 19]), (11, 30, []), (11, 10, []), (11, 6, [])]
theorem cX3 : gClo LX3 = true := by decide +kernel
def LX9 : gL := [(9, 0, [1, 23, 45, 67, 89, 92, 95, 99, 0]), (3, 0, [1, 2, 3, 7, 9, 19, 21, 22]), (11, 240, []), (5, 0, [3, 4, 5, 6]), (11, 6, []), (11, 6, []), (11, 6, []), (1, 0, [8]), (11, 240, []), (0, 0, [10, 11, 12, 13, 14, 15, 16, 17, 18]), (11, 30, []), (11, 30, []), (11, 30, []), (11, 30, []), (11, 30, []), (11, 30, []), (11, 30, []), (11, 30, []), (11, 30, []), (6, 0, [19, 20]), (11, 30, []), (11, 10, []), (11, 6, []), (3, 0, [23, 24, 25, 29, 31, 41, 43, 44]), (11, 240, []), (5, 0, [25, 26, 27, 28]), (11, 6, []), (11, 6, []), (11, 6, []), (1, 0, [30]), (11, 240, []), (0, 0, [32, 33, 34, 35, 36, 37, 38, 39, 40]), (11, 30, []), (11, 30, []), (11, 30, []), (11, 30, []), (11, 30, []), (11, 30, []), (11, 30, []), (11, 30, []), (11, 30, []), (6, 0, [41, 42]), (11, 30, []), (11, 10, []), (11, 6, []), (3, 0, [45, 46, 47, 51, 53, 63, 65, 66]), (11, 240, []), (5, 0, [47, 48, 49, 50]), (11, 6, []), (11, 6, []), (11, 6, []), (1, 0, [52]), (11, 240, []), (0, 0, [54, 55, 56, 57, 58, 59, 60, 61, 62]), (11, 30, []), (11, 30, []), (11, 30, []), (11, 30, []), (11, 30, []), (11, 30, []), (11, 30, []), (11, 30, []), (11, 30, []), (6, 0, [63, 64]), (11, 30, []), (11, 10, []), (11, 6, []), (3, 0, [67, 68, 69, 73, 75, 85, 87, 88]), (11, 240, []), (5, 0, [69, 70, 71, 72]), (11, 6, []), (11, 6, []), (11, 6, []), (1, 0, [74]), (11, 240, []), (0, 0, [76, 77, 78, 79, 80, 81, 82, 83, 84]), (11, 30, []), (11, 30, []), (11, 30, []), (11, 30, []), (11, 30, []), (11, 30, []), (11, 30, []), (11, 30, []), (11, 30, []), (6, 0, [85, 86]), (11, 30, []), (11, 10, []), (11, 6, []), (8, 0, [90, 91, 89]), (11, 30, []), (11, 30, []), (4, 0, [92, 93, 94]), (11, 60, []), (11, 60, []), (7, 0, [95, 96, 95, 95, 97, 98]), (11, 120, []), (11, 60, []), (11, 180, []), (2, 0, [100, 101, 102, 103]), (11, 6, []), (11, 6, []), (11, 6, []), (11, 360, [])]
theorem cX9 : gClo LX9 = true := by decide +kernel
def LX10 : gL := [(10, 0, [1, 2, 3, 4, 0, 5, 6, 7, 8, 9, 10, 0, 11, 12, 13, 14, 0, 0, 21]), (11, 607, []), (11, 607, []), (11, 607, []), (11, 607, []), (11, 240, []), (11, 240, []), (11, 60, []), (11, 30, []), (11, 30, []), (11, 120, []), (11, 6, []), (11, 6, []), (11, 6, []), (12, 6, [15, 16, 17, 18, 19, 20]), (11, 60, []), (11, 60, []), (11, 60, []), (11, 60, []), (11, 60, []), (11, 60, []), (11, 3, [])]
theorem cX10 : gClo LX10 = true := by decide +kernel
theorem BX0_init_76 {C : gC} {G : gG} {Q : gK} {σ : gM} {a0 : Nat} (h0 : isX0 G a0) : gw C G mX0_init Q 76 [.ref a0] [] σ = Q none σ := by
  exact e_ret dX0_init_76 rfl
theorem BX2_init_37 {C : gC} {G : gG} {Q : gK} {σ : gM} {a0 : Nat} (h0 : isX2 G a0) : gw C G mX2_init Q 37 [.ref a0] [] σ = Q none σ := by
  exact e_ret dX2_init_37 rfl
theorem BX4_init_20 {C : gC} {G : gG} {Q : gK} {σ : gM} {a0 : Nat} (h0 : isX4 G a0) : gw C G mX4_init Q 20 [.ref a0] [] σ = Q none σ := by
  exact e_ret dX4_init_20 rfl
theorem BX5_init_28 {C : gC} {G : gG} {Q : gK} {σ : gM} {a0 : Nat} (h0 : isX5 G a0) : gw C G mX5_init Q 28 [.ref a0] [] σ = Q none σ := by
  exact e_ret dX5_init_28 rfl
theorem BX6_init_12 {C : gC} {G : gG} {Q : gK} {σ : gM} {a0 : Nat} (h0 : isX6 G a0) : gw C G mX6_init Q 12 [.ref a0] [] σ = Q none σ := by
  exact e_ret dX6_init_12 rfl
theorem BX7_init_29 {C : gC} {G : gG} {Q : gK} {σ : gM} {a0 : Nat} (h0 : isX7 G a0) : gw C G mX7_init Q 29 [.ref a0] [] σ = Q none σ := by
  exact e_ret dX7_init_29 rfl
theorem BX8_init_20 {C : gC} {G : gG} {Q : gK} {σ : gM} {a0 : Nat} (h0 : isX8 G a0) : gw C G mX8_init Q 20 [.ref a0] [] σ = Q none σ := by
  exact e_ret dX8_init_20 rfl
theorem BX1_init_13 {C : gC} {G : gG} {Q : gK} {σ : gM} {a0 : Nat} (h0 : isX1 G a0) : gw C G mX1_init Q 13 [.ref a0] [] σ = (g_inv C mX1_release [.ref a0, .int 0, .int 240] σ fun r σ' => gw C G mX1_init Q 21 [.ref a0] (r.toList ++ []) σ') := by
  refine Eq.trans (e_aload_n dX1_init_13 rfl) ?_
  refine Eq.trans (e_iconst (x := 0) dX1_init_14 (by decide)) ?_
  refine Eq.trans (e_sipush (x := 240) dX1_init_15 (by decide)) ?_
  exact e_invv dX1_init_18 cl_1_15 (kX1 h0) (by simp) rfl rfl (by simp)
theorem BX1_init_21 {C : gC} {G : gG} {Q : gK} {σ : gM} {a0 : Nat} (h0 : isX1 G a0) : gw C G mX1_init Q 21 [.ref a0] [] σ = Q none σ := by
  exact e_ret dX1_init_21 rfl
theorem BX3_init_73 {C : gC} {G : gG} {Q : gK} {σ : gM} {a0 : Nat} (h0 : isX3 G a0) : gw C G mX3_init Q 73 [.ref a0] [] σ = (g_inv C mX9_fill [.ref (a0 + 20), .int 0, .int 10, .int 240] σ fun r σ' => gw C G mX3_init Q 86 [.ref a0] (r.toList ++ []) σ') := by
  refine Eq.trans (e_aload_n dX3_init_73 rfl) ?_
  refine Eq.trans (e_getr (b := a0 + 20) dX3_init_74 fl_3_43 (kX3 h0) (sX3_6 h0)) ?_
  refine Eq.trans (e_iconst (x := 0) dX3_init_77 (by decide)) ?_
  refine Eq.trans (e_bipush (x := 10) dX3_init_78 (by decide)) ?_
  refine Eq.trans (e_sipush (x := 240) dX3_init_80 (by decide)) ?_
  exact e_invs dX3_init_83 cl_3_49 (by decide) (by simp) rfl rfl (by simp)
theorem BX3_init_86 {C : gC} {G : gG} {Q : gK} {σ : gM} {a0 : Nat} (h0 : isX3 G a0) : gw C G mX3_init Q 86 [.ref a0] [] σ = (g_inv C mX9_fill [.ref (a0 + 21), .int 0, .int 6, .int (-1)] σ fun r σ' => gw C G mX3_init Q 97 [.ref a0] (r.toList ++ []) σ') := by
  refine Eq.trans (e_aload_n dX3_init_86 rfl) ?_
  refine Eq.trans (e_getr (b := a0 + 21) dX3_init_87 fl_3_46 (kX3 h0) (sX3_7 h0)) ?_
  refine Eq.trans (e_iconst (x := 0) dX3_init_90 (by decide)) ?_
  refine Eq.trans (e_bipush (x := 6) dX3_init_91 (by decide)) ?_
  refine Eq.trans (e_iconst (x := (-1)) dX3_init_93 (by decide)) ?_
  exact e_invs dX3_init_94 cl_3_49 (by decide) (by simp) rfl rfl (by simp)
theorem BX3_init_97 {C : gC} {G : gG} {Q : gK} {σ : gM} {a0 : Nat} (h0 : isX3 G a0) : gw C G mX3_init Q 97 [.ref a0] [] σ = Q none σ := by
  exact e_ret dX3_init_97 rfl
theorem BX9_init_92 {C : gC} {G : gG} {Q : gK} {σ : gM} {a0 : Nat} (h0 : isX9 G a0) : gw C G mX9_init Q 92 [.ref a0] [] σ = Q none (g_up σ a0 8 0) := by
  refine Eq.trans (e_aload_n dX9_init_92 rfl) ?_
  refine Eq.trans (e_iconst (x := 0) dX9_init_93 (by decide)) ?_
  refine Eq.trans (e_putz dX9_init_94 fl_9_53 (kX9 h0)) ?_
  refine Eq.trans (g_and (by decide)) ?_
  exact e_ret dX9_init_97 rfl
theorem BX10_init_133 {C : gC} {G : gG} {Q : gK} {σ : gM} {a0 : Nat} {wv1 : Value} (h0 : isX10 G a0) : gw C G mX10_init Q 133 [.ref a0, wv1] [] σ = gw C G mX10_init Q 135 [.ref a0, .int 0] [] σ := by
  refine Eq.trans (e_iconst (x := 0) dX10_init_133 (by decide)) ?_
  refine Eq.trans (e_istore_n dX10_init_134 (Nat.le_of_ble_eq_true rfl)) ?_
  rfl
theorem BX10_init_135 {C : gC} {G : gG} {Q : gK} {σ : gM} {a0 : Nat} {v1 : Int32} (h0 : isX10 G a0) : gw C G mX10_init Q 135 [.ref a0, .int v1] [] σ = (if v1 < 10 then (vp_in (589 + v1) 607 ∧ gw C G mX10_init Q 135 [.ref a0, .int (v1 + 1)] [] (g_up σ (a0 + 1) (589 + v1).toNatClampNeg 240)) else gw C G mX10_init Q 162 [.ref a0, .int 0] [] σ) := by
  refine Eq.trans (e_iload_n dX10_init_135 rfl) ?_
  refine Eq.trans (e_bipush (x := 10) dX10_init_136 (by decide)) ?_
  refine Eq.trans (e_ic_ge (t := 160) dX10_init_138 (by decide)) (g_ite ?_ ?_)
  · refine Eq.trans (e_aload_n dX10_init_141 rfl) ?_
    refine Eq.trans (e_getr (b := a0 + 1) dX10_init_142 fl_10_9 (kX10 h0) (sX10_0 h0)) ?_
    refine Eq.trans (e_sipush (x := 589) dX10_init_145 (by decide)) ?_
    refine Eq.trans (e_iload_n dX10_init_148 rfl) ?_
    refine Eq.trans (e_iadd dX10_init_149) ?_
    refine Eq.trans (e_sipush (x := 240) dX10_init_150 (by decide)) ?_
    refine Eq.trans (e_iast dX10_init_153 (aX10_0 h0) (nX10_0 h0)) (g_cj ?_)
    refine Eq.trans (e_iinc (y := 1) dX10_init_154 rfl (by decide)) ?_
    refine Eq.trans (e_goto (t := 135) dX10_init_157 (by decide)) ?_
    rfl
  · refine Eq.trans (e_iconst (x := 0) dX10_init_160 (by decide)) ?_
    refine Eq.trans (e_istore_n dX10_init_161 (Nat.le_of_ble_eq_true rfl)) ?_
    rfl
theorem BX10_init_162 {C : gC} {G : gG} {Q : gK} {σ : gM} {a0 : Nat} {v1 : Int32} (h0 : isX10 G a0) : gw C G mX10_init Q 162 [.ref a0, .int v1] [] σ = (if v1 < 6 then (vp_in (599 + v1) 607 ∧ gw C G mX10_init Q 162 [.ref a0, .int (v1 + 1)] [] (g_up σ (a0 + 1) (599 + v1).toNatClampNeg (-1))) else Q none σ) := by
  refine Eq.trans (e_iload_n dX10_init_162 rfl) ?_
  refine Eq.trans (e_bipush (x := 6) dX10_init_163 (by decide)) ?_
  refine Eq.trans (e_ic_ge (t := 185) dX10_init_165 (by decide)) (g_ite ?_ ?_)
  · refine Eq.trans (e_aload_n dX10_init_168 rfl) ?_
    refine Eq.trans (e_getr (b := a0 + 1) dX10_init_169 fl_10_9 (kX10 h0) (sX10_0 h0)) ?_
    refine Eq.trans (e_sipush (x := 599) dX10_init_172 (by decide)) ?_
    refine Eq.trans (e_iload_n dX10_init_175 rfl) ?_
    refine Eq.trans (e_iadd dX10_init_176) ?_
    refine Eq.trans (e_iconst (x := (-1)) dX10_init_177 (by decide)) ?_
    refine Eq.trans (e_iast dX10_init_178 (aX10_0 h0) (nX10_0 h0)) (g_cj ?_)
    refine Eq.trans (e_iinc (y := 1) dX10_init_179 rfl (by decide)) ?_
    refine Eq.trans (e_goto (t := 162) dX10_init_182 (by decide)) ?_
    rfl
  · exact e_ret dX10_init_185 rfl
