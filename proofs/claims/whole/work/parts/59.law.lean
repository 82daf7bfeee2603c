/-! the law, behind its beginning -/
def mL_law : gY := (x, cL_law, 4, some .boolean, 11)
theorem BL_law_18 {C : gC} {G : gG} {Q : gK} {σ : gM} {aS nS aX aM : Nat} {v3 : Int32} (hs : (G aS).1 = 13) (hn : (G aS).2.1 = nS) (hx : isX9 G aX) (hm : isX10 G aM) : gw C G mL_law Q 18 [.ref aS, .ref aX, .ref aM, .int v3] [] σ = (if ((Int32.ofNat nS) - 4) < v3 then Q (some (.int 1)) σ else (vp_in v3 nS ∧ (if ((Int32.ofNat ((G aS).2.2 v3.toNatClampNeg)) &&& 63) = 0 then gw C G mL_law Q 192 [.ref aS, .ref aX, .ref aM, .int v3] [] σ else (if ((Int32.ofNat ((G aS).2.2 v3.toNatClampNeg)) &&& 63) = 1 then gw C G mL_law Q 225 [.ref aS, .ref aX, .ref aM, .int v3] [] σ else (if ((Int32.ofNat ((G aS).2.2 v3.toNatClampNeg)) &&& 63) = 2 then gw C G mL_law Q 268 [.ref aS, .ref aX, .ref aM, .int v3] [] σ else (if ((Int32.ofNat ((G aS).2.2 v3.toNatClampNeg)) &&& 63) = 3 then gw C G mL_law Q 291 [.ref aS, .ref aX, .ref aM, .int v3] [] σ else (if ((Int32.ofNat ((G aS).2.2 v3.toNatClampNeg)) &&& 63) = 4 then gw C G mL_law Q 324 [.ref aS, .ref aX, .ref aM, .int v3] [] σ else (if ((Int32.ofNat ((G aS).2.2 v3.toNatClampNeg)) &&& 63) = 5 then gw C G mL_law Q 357 [.ref aS, .ref aX, .ref aM, .int v3] [] σ else (if ((Int32.ofNat ((G aS).2.2 v3.toNatClampNeg)) &&& 63) = 6 then gw C G mL_law Q 390 [.ref aS, .ref aX, .ref aM, .int v3] [] σ else (if ((Int32.ofNat ((G aS).2.2 v3.toNatClampNeg)) &&& 63) = 7 then gw C G mL_law Q 433 [.ref aS, .ref aX, .ref aM, .int v3] [] σ else (if ((Int32.ofNat ((G aS).2.2 v3.toNatClampNeg)) &&& 63) = 8 then gw C G mL_law Q 466 [.ref aS, .ref aX, .ref aM, .int v3] [] σ else (if ((Int32.ofNat ((G aS).2.2 v3.toNatClampNeg)) &&& 63) = 9 then gw C G mL_law Q 509 [.ref aS, .ref aX, .ref aM, .int v3] [] σ else (if ((Int32.ofNat ((G aS).2.2 v3.toNatClampNeg)) &&& 63) = 10 then gw C G mL_law Q 542 [.ref aS, .ref aX, .ref aM, .int v3] [] σ else (if ((Int32.ofNat ((G aS).2.2 v3.toNatClampNeg)) &&& 63) = 11 then gw C G mL_law Q 575 [.ref aS, .ref aX, .ref aM, .int v3] [] σ else (if ((Int32.ofNat ((G aS).2.2 v3.toNatClampNeg)) &&& 63) = 12 then gw C G mL_law Q 598 [.ref aS, .ref aX, .ref aM, .int v3] [] σ else (if ((Int32.ofNat ((G aS).2.2 v3.toNatClampNeg)) &&& 63) = 13 then gw C G mL_law Q 631 [.ref aS, .ref aX, .ref aM, .int v3] [] σ else (if ((Int32.ofNat ((G aS).2.2 v3.toNatClampNeg)) &&& 63) = 14 then gw C G mL_law Q 654 [.ref aS, .ref aX, .ref aM, .int v3] [] σ else (if ((Int32.ofNat ((G aS).2.2 v3.toNatClampNeg)) &&& 63) = 15 then gw C G mL_law Q 677 [.ref aS, .ref aX, .ref aM, .int v3] [] σ else (if ((Int32.ofNat ((G aS).2.2 v3.toNatClampNeg)) &&& 63) = 16 then gw C G mL_law Q 710 [.ref aS, .ref aX, .ref aM, .int v3] [] σ else (if ((Int32.ofNat ((G aS).2.2 v3.toNatClampNeg)) &&& 63) = 17 then gw C G mL_law Q 743 [.ref aS, .ref aX, .ref aM, .int v3] [] σ else (if ((Int32.ofNat ((G aS).2.2 v3.toNatClampNeg)) &&& 63) = 18 then gw C G mL_law Q 766 [.ref aS, .ref aX, .ref aM, .int v3] [] σ else (if ((Int32.ofNat ((G aS).2.2 v3.toNatClampNeg)) &&& 63) = 19 then gw C G mL_law Q 789 [.ref aS, .ref aX, .ref aM, .int v3] [] σ else (if ((Int32.ofNat ((G aS).2.2 v3.toNatClampNeg)) &&& 63) = 20 then gw C G mL_law Q 802 [.ref aS, .ref aX, .ref aM, .int v3] [] σ else (if ((Int32.ofNat ((G aS).2.2 v3.toNatClampNeg)) &&& 63) = 21 then gw C G mL_law Q 845 [.ref aS, .ref aX, .ref aM, .int v3] [] σ else (if ((Int32.ofNat ((G aS).2.2 v3.toNatClampNeg)) &&& 63) = 22 then gw C G mL_law Q 878 [.ref aS, .ref aX, .ref aM, .int v3] [] σ else (if ((Int32.ofNat ((G aS).2.2 v3.toNatClampNeg)) &&& 63) = 23 then gw C G mL_law Q 901 [.ref aS, .ref aX, .ref aM, .int v3] [] σ else (if ((Int32.ofNat ((G aS).2.2 v3.toNatClampNeg)) &&& 63) = 24 then gw C G mL_law Q 934 [.ref aS, .ref aX, .ref aM, .int v3] [] σ else (if ((Int32.ofNat ((G aS).2.2 v3.toNatClampNeg)) &&& 63) = 25 then gw C G mL_law Q 957 [.ref aS, .ref aX, .ref aM, .int v3] [] σ else (if ((Int32.ofNat ((G aS).2.2 v3.toNatClampNeg)) &&& 63) = 26 then gw C G mL_law Q 990 [.ref aS, .ref aX, .ref aM, .int v3] [] σ else (if ((Int32.ofNat ((G aS).2.2 v3.toNatClampNeg)) &&& 63) = 27 then gw C G mL_law Q 1023 [.ref aS, .ref aX, .ref aM, .int v3] [] σ else (if ((Int32.ofNat ((G aS).2.2 v3.toNatClampNeg)) &&& 63) = 28 then gw C G mL_law Q 1046 [.ref aS, .ref aX, .ref aM, .int v3] [] σ else (if ((Int32.ofNat ((G aS).2.2 v3.toNatClampNeg)) &&& 63) = 29 then gw C G mL_law Q 1059 [.ref aS, .ref aX, .ref aM, .int v3] [] σ else (if ((Int32.ofNat ((G aS).2.2 v3.toNatClampNeg)) &&& 63) = 30 then gw C G mL_law Q 1072 [.ref aS, .ref aX, .ref aM, .int v3] [] σ else (if ((Int32.ofNat ((G aS).2.2 v3.toNatClampNeg)) &&& 63) = 31 then gw C G mL_law Q 1085 [.ref aS, .ref aX, .ref aM, .int v3] [] σ else (if ((Int32.ofNat ((G aS).2.2 v3.toNatClampNeg)) &&& 63) = 32 then gw C G mL_law Q 1118 [.ref aS, .ref aX, .ref aM, .int v3] [] σ else (if ((Int32.ofNat ((G aS).2.2 v3.toNatClampNeg)) &&& 63) = 33 then gw C G mL_law Q 1151 [.ref aS, .ref aX, .ref aM, .int v3] [] σ else (if ((Int32.ofNat ((G aS).2.2 v3.toNatClampNeg)) &&& 63) = 34 then gw C G mL_law Q 1194 [.ref aS, .ref aX, .ref aM, .int v3] [] σ else (if ((Int32.ofNat ((G aS).2.2 v3.toNatClampNeg)) &&& 63) = 35 then gw C G mL_law Q 1227 [.ref aS, .ref aX, .ref aM, .int v3] [] σ else gw C G mL_law Q 1250 [.ref aS, .ref aX, .ref aM, .int v3] [] σ)))))))))))))))))))))))))))))))))))))) := by
  refine Eq.trans (e_iload_n dL_law_18 rfl) ?_
  refine Eq.trans (e_aload_n dL_law_19 rfl) ?_
  refine Eq.trans (e_alen dL_law_20 (Or.inr hs) hn) ?_
  refine Eq.trans (e_iconst (x := 4) dL_law_21 (by decide)) ?_
  refine Eq.trans (e_isub dL_law_22) ?_
  refine Eq.trans (e_ic_gt (t := 1256) dL_law_23 (by decide)) (g_ite ?_ ?_)
  · refine Eq.trans (e_iconst (x := 1) dL_law_1256 (by decide)) ?_
    exact Eq.trans (e_iretz dL_law_1257 rfl) (g_and (by decide))
  · refine Eq.trans (e_aload_n dL_law_26 rfl) ?_
    refine Eq.trans (e_iload_n dL_law_27 rfl) ?_
    refine Eq.trans (e_sald dL_law_28 hs hn) (g_cj ?_)
    refine Eq.trans (e_bipush (x := 63) dL_law_29 (by decide)) ?_
    refine Eq.trans (e_iand dL_law_31) ?_
    refine Eq.trans (e_switch dL_law_32 (by decide)) ?_
    refine Eq.trans (g_sw1 (y := 0) (t := 192) (by decide) (by decide) (g_sw1 (y := 1) (t := 225) (by decide) (by decide) (g_sw1 (y := 2) (t := 268) (by decide) (by decide) (g_sw1 (y := 3) (t := 291) (by decide) (by decide) (g_sw1 (y := 4) (t := 324) (by decide) (by decide) (g_sw1 (y := 5) (t := 357) (by decide) (by decide) (g_sw1 (y := 6) (t := 390) (by decide) (by decide) (g_sw1 (y := 7) (t := 433) (by decide) (by decide) (g_sw1 (y := 8) (t := 466) (by decide) (by decide) (g_sw1 (y := 9) (t := 509) (by decide) (by decide) (g_sw1 (y := 10) (t := 542) (by decide) (by decide) (g_sw1 (y := 11) (t := 575) (by decide) (by decide) (g_sw1 (y := 12) (t := 598) (by decide) (by decide) (g_sw1 (y := 13) (t := 631) (by decide) (by decide) (g_sw1 (y := 14) (t := 654) (by decide) (by decide) (g_sw1 (y := 15) (t := 677) (by decide) (by decide) (g_sw1 (y := 16) (t := 710) (by decide) (by decide) (g_sw1 (y := 17) (t := 743) (by decide) (by decide) (g_sw1 (y := 18) (t := 766) (by decide) (by decide) (g_sw1 (y := 19) (t := 789) (by decide) (by decide) (g_sw1 (y := 20) (t := 802) (by decide) (by decide) (g_sw1 (y := 21) (t := 845) (by decide) (by decide) (g_sw1 (y := 22) (t := 878) (by decide) (by decide) (g_sw1 (y := 23) (t := 901) (by decide) (by decide) (g_sw1 (y := 24) (t := 934) (by decide) (by decide) (g_sw1 (y := 25) (t := 957) (by decide) (by decide) (g_sw1 (y := 26) (t := 990) (by decide) (by decide) (g_sw1 (y := 27) (t := 1023) (by decide) (by decide) (g_sw1 (y := 28) (t := 1046) (by decide) (by decide) (g_sw1 (y := 29) (t := 1059) (by decide) (by decide) (g_sw1 (y := 30) (t := 1072) (by decide) (by decide) (g_sw1 (y := 31) (t := 1085) (by decide) (by decide) (g_sw1 (y := 32) (t := 1118) (by decide) (by decide) (g_sw1 (y := 33) (t := 1151) (by decide) (by decide) (g_sw1 (y := 34) (t := 1194) (by decide) (by decide) (g_sw1 (y := 35) (t := 1227) (by decide) (by decide) (g_sw0 (t := 1250) (by decide)))))))))))))))))))))))))))))))))))))) ?_
    refine g_ite ?_ (g_ite ?_ (g_ite ?_ (g_ite ?_ (g_ite ?_ (g_ite ?_ (g_ite ?_ (g_ite ?_ (g_ite ?_ (g_ite ?_ (g_ite ?_ (g_ite ?_ (g_ite ?_ (g_ite ?_ (g_ite ?_ (g_ite ?_ (g_ite ?_ (g_ite ?_ (g_ite ?_ (g_ite ?_ (g_ite ?_ (g_ite ?_ (g_ite ?_ (g_ite ?_ (g_ite ?_ (g_ite ?_ (g_ite ?_ (g_ite ?_ (g_ite ?_ (g_ite ?_ (g_ite ?_ (g_ite ?_ (g_ite ?_ (g_ite ?_ (g_ite ?_ (g_ite ?_ (?_))))))))))))))))))))))))))))))))))))
    · rfl
    · rfl
    · rfl
    · rfl
    · rfl
    · rfl
    · rfl
    · rfl
    · rfl
    · rfl
    · rfl
    · rfl
    · rfl
    · rfl
    · rfl
    · rfl
    · rfl
    · rfl
    · rfl
    · rfl
    · rfl
    · rfl
    · rfl
    · rfl
    · rfl
    · rfl
    · rfl
    · rfl
    · rfl
    · rfl
    · rfl
    · rfl
    · rfl
    · rfl
    · rfl
    · rfl
    · rfl
theorem BL_law_192 {C : gC} {G : gG} {Q : gK} {σ : gM} {aS nS aX aM : Nat} {v3 : Int32} (hs : (G aS).1 = 13) (hn : (G aS).2.1 = nS) (hx : isX9 G aX) (hm : isX10 G aM) : gw C G mL_law Q 192 [.ref aS, .ref aX, .ref aM, .int v3] [] σ = (vp_in (v3 + 1) nS ∧ (vp_in (v3 + 2) nS ∧ (g_inv C mX9_region [.ref aX, .int (Int32.ofNat ((G aS).2.2 (v3 + 1).toNatClampNeg)), .int (Int32.ofNat ((G aS).2.2 (v3 + 2).toNatClampNeg))] σ fun r σ' => gw C G mL_law Q 206 [.ref aS, .ref aX, .ref aM, .int v3] (r.toList ++ []) σ'))) := by
  refine Eq.trans (e_aload_n dL_law_192 rfl) ?_
  refine Eq.trans (e_aload_n dL_law_193 rfl) ?_
  refine Eq.trans (e_iload_n dL_law_194 rfl) ?_
  refine Eq.trans (e_iconst (x := 1) dL_law_195 (by decide)) ?_
  refine Eq.trans (e_iadd dL_law_196) ?_
  refine Eq.trans (e_sald dL_law_197 hs hn) (g_cj ?_)
  refine Eq.trans (e_aload_n dL_law_198 rfl) ?_
  refine Eq.trans (e_iload_n dL_law_199 rfl) ?_
  refine Eq.trans (e_iconst (x := 2) dL_law_200 (by decide)) ?_
  refine Eq.trans (e_iadd dL_law_201) ?_
  refine Eq.trans (e_sald dL_law_202 hs hn) (g_cj ?_)
  exact e_invv dL_law_203 cl_11_13 (kX9 hx) (by simp) rfl rfl (by simp)
theorem BL_law_206 {C : gC} {G : gG} {Q : gK} {σ : gM} {aS nS aX aM : Nat} {v3 : Int32} {s0 : Int32} (hs : (G aS).1 = 13) (hn : (G aS).2.1 = nS) (hx : isX9 G aX) (hm : isX10 G aM) : gw C G mL_law Q 206 [.ref aS, .ref aX, .ref aM, .int v3] [.int s0] σ = (vp_in (v3 + 1) nS ∧ (vp_in (v3 + 2) nS ∧ (g_inv C mX10_region [.ref aM, .int (Int32.ofNat ((G aS).2.2 (v3 + 1).toNatClampNeg)), .int (Int32.ofNat ((G aS).2.2 (v3 + 2).toNatClampNeg))] σ fun r σ' => gw C G mL_law Q 220 [.ref aS, .ref aX, .ref aM, .int v3] (r.toList ++ [.int s0]) σ'))) := by
  refine Eq.trans (e_aload_n dL_law_206 rfl) ?_
  refine Eq.trans (e_aload_n dL_law_207 rfl) ?_
  refine Eq.trans (e_iload_n dL_law_208 rfl) ?_
  refine Eq.trans (e_iconst (x := 1) dL_law_209 (by decide)) ?_
  refine Eq.trans (e_iadd dL_law_210) ?_
  refine Eq.trans (e_sald dL_law_211 hs hn) (g_cj ?_)
  refine Eq.trans (e_aload_n dL_law_212 rfl) ?_
  refine Eq.trans (e_iload_n dL_law_213 rfl) ?_
  refine Eq.trans (e_iconst (x := 2) dL_law_214 (by decide)) ?_
  refine Eq.trans (e_iadd dL_law_215) ?_
  refine Eq.trans (e_sald dL_law_216 hs hn) (g_cj ?_)
  exact e_invv dL_law_217 cl_11_17 (kX10 hm) (by simp) rfl rfl (by simp)
theorem BL_law_220 {C : gC} {G : gG} {Q : gK} {σ : gM} {aS nS aX aM : Nat} {v3 : Int32} {s0 : Int32} {s1 : Int32} (hs : (G aS).1 = 13) (hn : (G aS).2.1 = nS) (hx : isX9 G aX) (hm : isX10 G aM) : gw C G mL_law Q 220 [.ref aS, .ref aX, .ref aM, .int v3] [.int s1, .int s0] σ = (if s0 = s1 then gw C G mL_law Q 1250 [.ref aS, .ref aX, .ref aM, .int v3] [] σ else Q (some (.int 0)) σ) := by
  refine Eq.trans (e_ic_eq (t := 1250) dL_law_220 (by decide)) (g_ite ?_ ?_)
  · rfl
  · refine Eq.trans (e_iconst (x := 0) dL_law_223 (by decide)) ?_
    exact Eq.trans (e_iretz dL_law_224 rfl) (g_and (by decide))
theorem BL_law_225 {C : gC} {G : gG} {Q : gK} {σ : gM} {aS nS aX aM : Nat} {v3 : Int32} (hs : (G aS).1 = 13) (hn : (G aS).2.1 = nS) (hx : isX9 G aX) (hm : isX10 G aM) : gw C G mL_law Q 225 [.ref aS, .ref aX, .ref aM, .int v3] [] σ = (vp_in (v3 + 1) nS ∧ (vp_in (v3 + 2) nS ∧ (vp_in (v3 + 3) nS ∧ (g_inv C mX9_block [.ref aX, .int (Int32.ofNat ((G aS).2.2 (v3 + 1).toNatClampNeg)), .int (Int32.ofNat ((G aS).2.2 (v3 + 2).toNatClampNeg)), .int (Int32.ofNat ((G aS).2.2 (v3 + 3).toNatClampNeg))] σ fun r σ' => gw C G mL_law Q 244 [.ref aS, .ref aX, .ref aM, .int v3] (r.toList ++ []) σ')))) := by
  refine Eq.trans (e_aload_n dL_law_225 rfl) ?_
  refine Eq.trans (e_aload_n dL_law_226 rfl) ?_
  refine Eq.trans (e_iload_n dL_law_227 rfl) ?_
  refine Eq.trans (e_iconst (x := 1) dL_law_228 (by decide)) ?_
  refine Eq.trans (e_iadd dL_law_229) ?_
  refine Eq.trans (e_sald dL_law_230 hs hn) (g_cj ?_)
  refine Eq.trans (e_aload_n dL_law_231 rfl) ?_
  refine Eq.trans (e_iload_n dL_law_232 rfl) ?_
  refine Eq.trans (e_iconst (x := 2) dL_law_233 (by decide)) ?_
  refine Eq.trans (e_iadd dL_law_234) ?_
  refine Eq.trans (e_sald dL_law_235 hs hn) (g_cj ?_)
  refine Eq.trans (e_aload_n dL_law_236 rfl) ?_
  refine Eq.trans (e_iload_n dL_law_237 rfl) ?_
  refine Eq.trans (e_iconst (x := 3) dL_law_238 (by decide)) ?_
  refine Eq.trans (e_iadd dL_law_239) ?_
  refine Eq.trans (e_sald dL_law_240 hs hn) (g_cj ?_)
  exact e_invv dL_law_241 cl_11_18 (kX9 hx) (by simp) rfl rfl (by simp)
theorem BL_law_244 {C : gC} {G : gG} {Q : gK} {σ : gM} {aS nS aX aM : Nat} {v3 : Int32} {s0 : Int32} (hs : (G aS).1 = 13) (hn : (G aS).2.1 = nS) (hx : isX9 G aX) (hm : isX10 G aM) : gw C G mL_law Q 244 [.ref aS, .ref aX, .ref aM, .int v3] [.int s0] σ = (vp_in (v3 + 1) nS ∧ (vp_in (v3 + 2) nS ∧ (vp_in (v3 + 3) nS ∧ (g_inv C mX10_block [.ref aM, .int (Int32.ofNat ((G aS).2.2 (v3 + 1).toNatClampNeg)), .int (Int32.ofNat ((G aS).2.2 (v3 + 2).toNatClampNeg)), .int (Int32.ofNat ((G aS).2.2 (v3 + 3).toNatClampNeg))] σ fun r σ' => gw C G mL_law Q 263 [.ref aS, .ref aX, .ref aM, .int v3] (r.toList ++ [.int s0]) σ')))) := by
  refine Eq.trans (e_aload_n dL_law_244 rfl) ?_
  refine Eq.trans (e_aload_n dL_law_245 rfl) ?_
  refine Eq.trans (e_iload_n dL_law_246 rfl) ?_
  refine Eq.trans (e_iconst (x := 1) dL_law_247 (by decide)) ?_
  refine Eq.trans (e_iadd dL_law_248) ?_
  refine Eq.trans (e_sald dL_law_249 hs hn) (g_cj ?_)
  refine Eq.trans (e_aload_n dL_law_250 rfl) ?_
  refine Eq.trans (e_iload_n dL_law_251 rfl) ?_
  refine Eq.trans (e_iconst (x := 2) dL_law_252 (by decide)) ?_
  refine Eq.trans (e_iadd dL_law_253) ?_
  refine Eq.trans (e_sald dL_law_254 hs hn) (g_cj ?_)
  refine Eq.trans (e_aload_n dL_law_255 rfl) ?_
  refine Eq.trans (e_iload_n dL_law_256 rfl) ?_
  refine Eq.trans (e_iconst (x := 3) dL_law_257 (by decide)) ?_
  refine Eq.trans (e_iadd dL_law_258) ?_
  refine Eq.trans (e_sald dL_law_259 hs hn) (g_cj ?_)
  exact e_invv dL_law_260 cl_11_22 (kX10 hm) (by simp) rfl rfl (by simp)
theorem BL_law_263 {C : gC} {G : gG} {Q : gK} {σ : gM} {aS nS aX aM : Nat} {v3 : Int32} {s0 : Int32} {s1 : Int32} (hs : (G aS).1 = 13) (hn : (G aS).2.1 = nS) (hx : isX9 G aX) (hm : isX10 G aM) : gw C G mL_law Q 263 [.ref aS, .ref aX, .ref aM, .int v3] [.int s1, .int s0] σ = (if s0 = s1 then gw C G mL_law Q 1250 [.ref aS, .ref aX, .ref aM, .int v3] [] σ else Q (some (.int 0)) σ) := by
  refine Eq.trans (e_ic_eq (t := 1250) dL_law_263 (by decide)) (g_ite ?_ ?_)
  · rfl
  · refine Eq.trans (e_iconst (x := 0) dL_law_266 (by decide)) ?_
    exact Eq.trans (e_iretz dL_law_267 rfl) (g_and (by decide))
theorem BL_law_268 {C : gC} {G : gG} {Q : gK} {σ : gM} {aS nS aX aM : Nat} {v3 : Int32} (hs : (G aS).1 = 13) (hn : (G aS).2.1 = nS) (hx : isX9 G aX) (hm : isX10 G aM) : gw C G mL_law Q 268 [.ref aS, .ref aX, .ref aM, .int v3] [] σ = (vp_in (v3 + 1) nS ∧ (g_inv C mX9_free [.ref aX, .int (Int32.ofNat ((G aS).2.2 (v3 + 1).toNatClampNeg))] σ fun r σ' => gw C G mL_law Q 277 [.ref aS, .ref aX, .ref aM, .int v3] (r.toList ++ []) σ')) := by
  refine Eq.trans (e_aload_n dL_law_268 rfl) ?_
  refine Eq.trans (e_aload_n dL_law_269 rfl) ?_
  refine Eq.trans (e_iload_n dL_law_270 rfl) ?_
  refine Eq.trans (e_iconst (x := 1) dL_law_271 (by decide)) ?_
  refine Eq.trans (e_iadd dL_law_272) ?_
  refine Eq.trans (e_sald dL_law_273 hs hn) (g_cj ?_)
  exact e_invv dL_law_274 cl_11_23 (kX9 hx) (by simp) rfl rfl (by simp)
theorem BL_law_277 {C : gC} {G : gG} {Q : gK} {σ : gM} {aS nS aX aM : Nat} {v3 : Int32} {s0 : Int32} (hs : (G aS).1 = 13) (hn : (G aS).2.1 = nS) (hx : isX9 G aX) (hm : isX10 G aM) : gw C G mL_law Q 277 [.ref aS, .ref aX, .ref aM, .int v3] [.int s0] σ = (vp_in (v3 + 1) nS ∧ (g_inv C mX10_free [.ref aM, .int (Int32.ofNat ((G aS).2.2 (v3 + 1).toNatClampNeg))] σ fun r σ' => gw C G mL_law Q 286 [.ref aS, .ref aX, .ref aM, .int v3] (r.toList ++ [.int s0]) σ')) := by
  refine Eq.trans (e_aload_n dL_law_277 rfl) ?_
  refine Eq.trans (e_aload_n dL_law_278 rfl) ?_
  refine Eq.trans (e_iload_n dL_law_279 rfl) ?_
  refine Eq.trans (e_iconst (x := 1) dL_law_280 (by decide)) ?_
  refine Eq.trans (e_iadd dL_law_281) ?_
  refine Eq.trans (e_sald dL_law_282 hs hn) (g_cj ?_)
  exact e_invv dL_law_283 cl_11_27 (kX10 hm) (by simp) rfl rfl (by simp)
theorem BL_law_286 {C : gC} {G : gG} {Q : gK} {σ : gM} {aS nS aX aM : Nat} {v3 : Int32} {s0 : Int32} {s1 : Int32} (hs : (G aS).1 = 13) (hn : (G aS).2.1 = nS) (hx : isX9 G aX) (hm : isX10 G aM) : gw C G mL_law Q 286 [.ref aS, .ref aX, .ref aM, .int v3] [.int s1, .int s0] σ = (if s0 = s1 then gw C G mL_law Q 1250 [.ref aS, .ref aX, .ref aM, .int v3] [] σ else Q (some (.int 0)) σ) := by
  refine Eq.trans (e_ic_eq (t := 1250) dL_law_286 (by decide)) (g_ite ?_ ?_)
  · rfl
  · refine Eq.trans (e_iconst (x := 0) dL_law_289 (by decide)) ?_
    exact Eq.trans (e_iretz dL_law_290 rfl) (g_and (by decide))
theorem BL_law_291 {C : gC} {G : gG} {Q : gK} {σ : gM} {aS nS aX aM : Nat} {v3 : Int32} (hs : (G aS).1 = 13) (hn : (G aS).2.1 = nS) (hx : isX9 G aX) (hm : isX10 G aM) : gw C G mL_law Q 291 [.ref aS, .ref aX, .ref aM, .int v3] [] σ = (vp_in (v3 + 1) nS ∧ (vp_in (v3 + 2) nS ∧ (g_inv C mX9_pin [.ref aX, .int (Int32.ofNat ((G aS).2.2 (v3 + 1).toNatClampNeg)), .int (Int32.ofNat ((G aS).2.2 (v3 + 2).toNatClampNeg))] σ fun r σ' => gw C G mL_law Q 305 [.ref aS, .ref aX, .ref aM, .int v3] (r.toList ++ []) σ'))) := by
  refine Eq.trans (e_aload_n dL_law_291 rfl) ?_
  refine Eq.trans (e_aload_n dL_law_292 rfl) ?_
  refine Eq.trans (e_iload_n dL_law_293 rfl) ?_
  refine Eq.trans (e_iconst (x := 1) dL_law_294 (by decide)) ?_
  refine Eq.trans (e_iadd dL_law_295) ?_
  refine Eq.trans (e_sald dL_law_296 hs hn) (g_cj ?_)
  refine Eq.trans (e_aload_n dL_law_297 rfl) ?_
  refine Eq.trans (e_iload_n dL_law_298 rfl) ?_
  refine Eq.trans (e_iconst (x := 2) dL_law_299 (by decide)) ?_
  refine Eq.trans (e_iadd dL_law_300) ?_
  refine Eq.trans (e_sald dL_law_301 hs hn) (g_cj ?_)
  exact e_invv dL_law_302 cl_11_28 (kX9 hx) (by simp) rfl rfl (by simp)
theorem BL_law_305 {C : gC} {G : gG} {Q : gK} {σ : gM} {aS nS aX aM : Nat} {v3 : Int32} {s0 : Int32} (hs : (G aS).1 = 13) (hn : (G aS).2.1 = nS) (hx : isX9 G aX) (hm : isX10 G aM) : gw C G mL_law Q 305 [.ref aS, .ref aX, .ref aM, .int v3] [.int s0] σ = (vp_in (v3 + 1) nS ∧ (vp_in (v3 + 2) nS ∧ (g_inv C mX10_pin [.ref aM, .int (Int32.ofNat ((G aS).2.2 (v3 + 1).toNatClampNeg)), .int (Int32.ofNat ((G aS).2.2 (v3 + 2).toNatClampNeg))] σ fun r σ' => gw C G mL_law Q 319 [.ref aS, .ref aX, .ref aM, .int v3] (r.toList ++ [.int s0]) σ'))) := by
  refine Eq.trans (e_aload_n dL_law_305 rfl) ?_
  refine Eq.trans (e_aload_n dL_law_306 rfl) ?_
  refine Eq.trans (e_iload_n dL_law_307 rfl) ?_
  refine Eq.trans (e_iconst (x := 1) dL_law_308 (by decide)) ?_
  refine Eq.trans (e_iadd dL_law_309) ?_
  refine Eq.trans (e_sald dL_law_310 hs hn) (g_cj ?_)
  refine Eq.trans (e_aload_n dL_law_311 rfl) ?_
  refine Eq.trans (e_iload_n dL_law_312 rfl) ?_
  refine Eq.trans (e_iconst (x := 2) dL_law_313 (by decide)) ?_
  refine Eq.trans (e_iadd dL_law_314) ?_
  refine Eq.trans (e_sald dL_law_315 hs hn) (g_cj ?_)
  exact e_invv dL_law_316 cl_11_31 (kX10 hm) (by simp) rfl rfl (by simp)
theorem BL_law_319 {C : gC} {G : gG} {Q : gK} {σ : gM} {aS nS aX aM : Nat} {v3 : Int32} {s0 : Int32} {s1 : Int32} (hs : (G aS).1 = 13) (hn : (G aS).2.1 = nS) (hx : isX9 G aX) (hm : isX10 G aM) : gw C G mL_law Q 319 [.ref aS, .ref aX, .ref aM, .int v3] [.int s1, .int s0] σ = (if s0 = s1 then gw C G mL_law Q 1250 [.ref aS, .ref aX, .ref aM, .int v3] [] σ else Q (some (.int 0)) σ) := by
  refine Eq.trans (e_ic_eq (t := 1250) dL_law_319 (by decide)) (g_ite ?_ ?_)
  · rfl
  · refine Eq.trans (e_iconst (x := 0) dL_law_322 (by decide)) ?_
    exact Eq.trans (e_iretz dL_law_323 rfl) (g_and (by decide))
theorem BL_law_324 {C : gC} {G : gG} {Q : gK} {σ : gM} {aS nS aX aM : Nat} {v3 : Int32} (hs : (G aS).1 = 13) (hn : (G aS).2.1 = nS) (hx : isX9 G aX) (hm : isX10 G aM) : gw C G mL_law Q 324 [.ref aS, .ref aX, .ref aM, .int v3] [] σ = (vp_in (v3 + 1) nS ∧ (vp_in (v3 + 2) nS ∧ (g_inv C mX9_grow [.ref aX, .int (Int32.ofNat ((G aS).2.2 (v3 + 1).toNatClampNeg)), .int (Int32.ofNat ((G aS).2.2 (v3 + 2).toNatClampNeg))] σ fun r σ' => gw C G mL_law Q 338 [.ref aS, .ref aX, .ref aM, .int v3] (r.toList ++ []) σ'))) := by
  refine Eq.trans (e_aload_n dL_law_324 rfl) ?_
  refine Eq.trans (e_aload_n dL_law_325 rfl) ?_
  refine Eq.trans (e_iload_n dL_law_326 rfl) ?_
  refine Eq.trans (e_iconst (x := 1) dL_law_327 (by decide)) ?_
  refine Eq.trans (e_iadd dL_law_328) ?_
  refine Eq.trans (e_sald dL_law_329 hs hn) (g_cj ?_)
  refine Eq.trans (e_aload_n dL_law_330 rfl) ?_
  refine Eq.trans (e_iload_n dL_law_331 rfl) ?_
  refine Eq.trans (e_iconst (x := 2) dL_law_332 (by decide)) ?_
  refine Eq.trans (e_iadd dL_law_333) ?_
  refine Eq.trans (e_sald dL_law_334 hs hn) (g_cj ?_)
  exact e_invv dL_law_335 cl_11_32 (kX9 hx) (by simp) rfl rfl (by simp)
theorem BL_law_338 {C : gC} {G : gG} {Q : gK} {σ : gM} {aS nS aX aM : Nat} {v3 : Int32} {s0 : Int32} (hs : (G aS).1 = 13) (hn : (G aS).2.1 = nS) (hx : isX9 G aX) (hm : isX10 G aM) : gw C G mL_law Q 338 [.ref aS, .ref aX, .ref aM, .int v3] [.int s0] σ = (vp_in (v3 + 1) nS ∧ (vp_in (v3 + 2) nS ∧ (g_inv C mX10_grow [.ref aM, .int (Int32.ofNat ((G aS).2.2 (v3 + 1).toNatClampNeg)), .int (Int32.ofNat ((G aS).2.2 (v3 + 2).toNatClampNeg))] σ fun r σ' => gw C G mL_law Q 352 [.ref aS, .ref aX, .ref aM, .int v3] (r.toList ++ [.int s0]) σ'))) := by
  refine Eq.trans (e_aload_n dL_law_338 rfl) ?_
  refine Eq.trans (e_aload_n dL_law_339 rfl) ?_
  refine Eq.trans (e_iload_n dL_law_340 rfl) ?_
  refine Eq.trans (e_iconst (x := 1) dL_law_341 (by decide)) ?_
  refine Eq.trans (e_iadd dL_law_342) ?_
  refine Eq.trans (e_sald dL_law_343 hs hn) (g_cj ?_)
  refine Eq.trans (e_aload_n dL_law_344 rfl) ?_
  refine Eq.trans (e_iload_n dL_law_345 rfl) ?_
  refine Eq.trans (e_iconst (x := 2) dL_law_346 (by decide)) ?_
  refine Eq.trans (e_iadd dL_law_347) ?_
  refine Eq.trans (e_sald dL_law_348 hs hn) (g_cj ?_)
  exact e_invv dL_law_349 cl_11_35 (kX10 hm) (by simp) rfl rfl (by simp)
theorem BL_law_352 {C : gC} {G : gG} {Q : gK} {σ : gM} {aS nS aX aM : Nat} {v3 : Int32} {s0 : Int32} {s1 : Int32} (hs : (G aS).1 = 13) (hn : (G aS).2.1 = nS) (hx : isX9 G aX) (hm : isX10 G aM) : gw C G mL_law Q 352 [.ref aS, .ref aX, .ref aM, .int v3] [.int s1, .int s0] σ = (if s0 = s1 then gw C G mL_law Q 1250 [.ref aS, .ref aX, .ref aM, .int v3] [] σ else Q (some (.int 0)) σ) := by
  refine Eq.trans (e_ic_eq (t := 1250) dL_law_352 (by decide)) (g_ite ?_ ?_)
  · rfl
  · refine Eq.trans (e_iconst (x := 0) dL_law_355 (by decide)) ?_
    exact Eq.trans (e_iretz dL_law_356 rfl) (g_and (by decide))
theorem BL_law_357 {C : gC} {G : gG} {Q : gK} {σ : gM} {aS nS aX aM : Nat} {v3 : Int32} (hs : (G aS).1 = 13) (hn : (G aS).2.1 = nS) (hx : isX9 G aX) (hm : isX10 G aM) : gw C G mL_law Q 357 [.ref aS, .ref aX, .ref aM, .int v3] [] σ = (vp_in (v3 + 1) nS ∧ (vp_in (v3 + 2) nS ∧ (g_inv C mX9_moves [.ref aX, .int (Int32.ofNat ((G aS).2.2 (v3 + 1).toNatClampNeg)), .int (Int32.ofNat ((G aS).2.2 (v3 + 2).toNatClampNeg))] σ fun r σ' => gw C G mL_law Q 371 [.ref aS, .ref aX, .ref aM, .int v3] (r.toList ++ []) σ'))) := by
  refine Eq.trans (e_aload_n dL_law_357 rfl) ?_
  refine Eq.trans (e_aload_n dL_law_358 rfl) ?_
  refine Eq.trans (e_iload_n dL_law_359 rfl) ?_
  refine Eq.trans (e_iconst (x := 1) dL_law_360 (by decide)) ?_
  refine Eq.trans (e_iadd dL_law_361) ?_
  refine Eq.trans (e_sald dL_law_362 hs hn) (g_cj ?_)
  refine Eq.trans (e_aload_n dL_law_363 rfl) ?_
  refine Eq.trans (e_iload_n dL_law_364 rfl) ?_
  refine Eq.trans (e_iconst (x := 2) dL_law_365 (by decide)) ?_
  refine Eq.trans (e_iadd dL_law_366) ?_
  refine Eq.trans (e_sald dL_law_367 hs hn) (g_cj ?_)
  exact e_invv dL_law_368 cl_11_36 (kX9 hx) (by simp) rfl rfl (by simp)
theorem BL_law_371 {C : gC} {G : gG} {Q : gK} {σ : gM} {aS nS aX aM : Nat} {v3 : Int32} {s0 : Int32} (hs : (G aS).1 = 13) (hn : (G aS).2.1 = nS) (hx : isX9 G aX) (hm : isX10 G aM) : gw C G mL_law Q 371 [.ref aS, .ref aX, .ref aM, .int v3] [.int s0] σ = (vp_in (v3 + 1) nS ∧ (vp_in (v3 + 2) nS ∧ (g_inv C mX10_moves [.ref aM, .int (Int32.ofNat ((G aS).2.2 (v3 + 1).toNatClampNeg)), .int (Int32.ofNat ((G aS).2.2 (v3 + 2).toNatClampNeg))] σ fun r σ' => gw C G mL_law Q 385 [.ref aS, .ref aX, .ref aM, .int v3] (r.toList ++ [.int s0]) σ'))) := by
  refine Eq.trans (e_aload_n dL_law_371 rfl) ?_
  refine Eq.trans (e_aload_n dL_law_372 rfl) ?_
  refine Eq.trans (e_iload_n dL_law_373 rfl) ?_
  refine Eq.trans (e_iconst (x := 1) dL_law_374 (by decide)) ?_
  refine Eq.trans (e_iadd dL_law_375) ?_
  refine Eq.trans (e_sald dL_law_376 hs hn) (g_cj ?_)
  refine Eq.trans (e_aload_n dL_law_377 rfl) ?_
  refine Eq.trans (e_iload_n dL_law_378 rfl) ?_
  refine Eq.trans (e_iconst (x := 2) dL_law_379 (by decide)) ?_
  refine Eq.trans (e_iadd dL_law_380) ?_
  refine Eq.trans (e_sald dL_law_381 hs hn) (g_cj ?_)
  exact e_invv dL_law_382 cl_11_39 (kX10 hm) (by simp) rfl rfl (by simp)
theorem BL_law_385 {C : gC} {G : gG} {Q : gK} {σ : gM} {aS nS aX aM : Nat} {v3 : Int32} {s0 : Int32} {s1 : Int32} (hs : (G aS).1 = 13) (hn : (G aS).2.1 = nS) (hx : isX9 G aX) (hm : isX10 G aM) : gw C G mL_law Q 385 [.ref aS, .ref aX, .ref aM, .int v3] [.int s1, .int s0] σ = (if s0 = s1 then gw C G mL_law Q 1250 [.ref aS, .ref aX, .ref aM, .int v3] [] σ else Q (some (.int 0)) σ) := by
  refine Eq.trans (e_ic_eq (t := 1250) dL_law_385 (by decide)) (g_ite ?_ ?_)
  · rfl
  · refine Eq.trans (e_iconst (x := 0) dL_law_388 (by decide)) ?_
    exact Eq.trans (e_iretz dL_law_389 rfl) (g_and (by decide))
theorem BL_law_390 {C : gC} {G : gG} {Q : gK} {σ : gM} {aS nS aX aM : Nat} {v3 : Int32} (hs : (G aS).1 = 13) (hn : (G aS).2.1 = nS) (hx : isX9 G aX) (hm : isX10 G aM) : gw C G mL_law Q 390 [.ref aS, .ref aX, .ref aM, .int v3] [] σ = (vp_in (v3 + 1) nS ∧ (vp_in (v3 + 2) nS ∧ (vp_in (v3 + 3) nS ∧ (g_inv C mX9_write [.ref aX, .int (Int32.ofNat ((G aS).2.2 (v3 + 1).toNatClampNeg)), .int (Int32.ofNat ((G aS).2.2 (v3 + 2).toNatClampNeg)), .int (Int32.ofNat ((G aS).2.2 (v3 + 3).toNatClampNeg))] σ fun r σ' => gw C G mL_law Q 409 [.ref aS, .ref aX, .ref aM, .int v3] (r.toList ++ []) σ')))) := by
  refine Eq.trans (e_aload_n dL_law_390 rfl) ?_
  refine Eq.trans (e_aload_n dL_law_391 rfl) ?_
  refine Eq.trans (e_iload_n dL_law_392 rfl) ?_
  refine Eq.trans (e_iconst (x := 1) dL_law_393 (by decide)) ?_
  refine Eq.trans (e_iadd dL_law_394) ?_
  refine Eq.trans (e_sald dL_law_395 hs hn) (g_cj ?_)
  refine Eq.trans (e_aload_n dL_law_396 rfl) ?_
  refine Eq.trans (e_iload_n dL_law_397 rfl) ?_
  refine Eq.trans (e_iconst (x := 2) dL_law_398 (by decide)) ?_
  refine Eq.trans (e_iadd dL_law_399) ?_
  refine Eq.trans (e_sald dL_law_400 hs hn) (g_cj ?_)
  refine Eq.trans (e_aload_n dL_law_401 rfl) ?_
  refine Eq.trans (e_iload_n dL_law_402 rfl) ?_
  refine Eq.trans (e_iconst (x := 3) dL_law_403 (by decide)) ?_
  refine Eq.trans (e_iadd dL_law_404) ?_
  refine Eq.trans (e_sald dL_law_405 hs hn) (g_cj ?_)
  exact e_invv dL_law_406 cl_11_40 (kX9 hx) (by simp) rfl rfl (by simp)
theorem BL_law_409 {C : gC} {G : gG} {Q : gK} {σ : gM} {aS nS aX aM : Nat} {v3 : Int32} {s0 : Int32} (hs : (G aS).1 = 13) (hn : (G aS).2.1 = nS) (hx : isX9 G aX) (hm : isX10 G aM) : gw C G mL_law Q 409 [.ref aS, .ref aX, .ref aM, .int v3] [.int s0] σ = (vp_in (v3 + 1) nS ∧ (vp_in (v3 + 2) nS ∧ (vp_in (v3 + 3) nS ∧ (g_inv C mX10_write [.ref aM, .int (Int32.ofNat ((G aS).2.2 (v3 + 1).toNatClampNeg)), .int (Int32.ofNat ((G aS).2.2 (v3 + 2).toNatClampNeg)), .int (Int32.ofNat ((G aS).2.2 (v3 + 3).toNatClampNeg))] σ fun r σ' => gw C G mL_law Q 428 [.ref aS, .ref aX, .ref aM, .int v3] (r.toList ++ [.int s0]) σ')))) := by
  refine Eq.trans (e_aload_n dL_law_409 rfl) ?_
  refine Eq.trans (e_aload_n dL_law_410 rfl) ?_
  refine Eq.trans (e_iload_n dL_law_411 rfl) ?_
  refine Eq.trans (e_iconst (x := 1) dL_law_412 (by decide)) ?_
  refine Eq.trans (e_iadd dL_law_413) ?_
  refine Eq.trans (e_sald dL_law_414 hs hn) (g_cj ?_)
  refine Eq.trans (e_aload_n dL_law_415 rfl) ?_
  refine Eq.trans (e_iload_n dL_law_416 rfl) ?_
  refine Eq.trans (e_iconst (x := 2) dL_law_417 (by decide)) ?_
  refine Eq.trans (e_iadd dL_law_418) ?_
  refine Eq.trans (e_sald dL_law_419 hs hn) (g_cj ?_)
  refine Eq.trans (e_aload_n dL_law_420 rfl) ?_
  refine Eq.trans (e_iload_n dL_law_421 rfl) ?_
  refine Eq.trans (e_iconst (x := 3) dL_law_422 (by decide)) ?_
  refine Eq.trans (e_iadd dL_law_423) ?_
  refine Eq.trans (e_sald dL_law_424 hs hn) (g_cj ?_)
  exact e_invv dL_law_425 cl_11_43 (kX10 hm) (by simp) rfl rfl (by simp)
theorem BL_law_428 {C : gC} {G : gG} {Q : gK} {σ : gM} {aS nS aX aM : Nat} {v3 : Int32} {s0 : Int32} {s1 : Int32} (hs : (G aS).1 = 13) (hn : (G aS).2.1 = nS) (hx : isX9 G aX) (hm : isX10 G aM) : gw C G mL_law Q 428 [.ref aS, .ref aX, .ref aM, .int v3] [.int s1, .int s0] σ = (if s0 = s1 then gw C G mL_law Q 1250 [.ref aS, .ref aX, .ref aM, .int v3] [] σ else Q (some (.int 0)) σ) := by
  refine Eq.trans (e_ic_eq (t := 1250) dL_law_428 (by decide)) (g_ite ?_ ?_)
  · rfl
  · refine Eq.trans (e_iconst (x := 0) dL_law_431 (by decide)) ?_
    exact Eq.trans (e_iretz dL_law_432 rfl) (g_and (by decide))
theorem BL_law_433 {C : gC} {G : gG} {Q : gK} {σ : gM} {aS nS aX aM : Nat} {v3 : Int32} (hs : (G aS).1 = 13) (hn : (G aS).2.1 = nS) (hx : isX9 G aX) (hm : isX10 G aM) : gw C G mL_law Q 433 [.ref aS, .ref aX, .ref aM, .int v3] [] σ = (vp_in (v3 + 1) nS ∧ (vp_in (v3 + 2) nS ∧ (g_inv C mX9_read [.ref aX, .int (Int32.ofNat ((G aS).2.2 (v3 + 1).toNatClampNeg)), .int (Int32.ofNat ((G aS).2.2 (v3 + 2).toNatClampNeg))] σ fun r σ' => gw C G mL_law Q 447 [.ref aS, .ref aX, .ref aM, .int v3] (r.toList ++ []) σ'))) := by
  refine Eq.trans (e_aload_n dL_law_433 rfl) ?_
  refine Eq.trans (e_aload_n dL_law_434 rfl) ?_
  refine Eq.trans (e_iload_n dL_law_435 rfl) ?_
  refine Eq.trans (e_iconst (x := 1) dL_law_436 (by decide)) ?_
  refine Eq.trans (e_iadd dL_law_437) ?_
  refine Eq.trans (e_sald dL_law_438 hs hn) (g_cj ?_)
  refine Eq.trans (e_aload_n dL_law_439 rfl) ?_
  refine Eq.trans (e_iload_n dL_law_440 rfl) ?_
  refine Eq.trans (e_iconst (x := 2) dL_law_441 (by decide)) ?_
  refine Eq.trans (e_iadd dL_law_442) ?_
  refine Eq.trans (e_sald dL_law_443 hs hn) (g_cj ?_)
  exact e_invv dL_law_444 cl_11_44 (kX9 hx) (by simp) rfl rfl (by simp)
theorem BL_law_447 {C : gC} {G : gG} {Q : gK} {σ : gM} {aS nS aX aM : Nat} {v3 : Int32} {s0 : Int32} (hs : (G aS).1 = 13) (hn : (G aS).2.1 = nS) (hx : isX9 G aX) (hm : isX10 G aM) : gw C G mL_law Q 447 [.ref aS, .ref aX, .ref aM, .int v3] [.int s0] σ = (vp_in (v3 + 1) nS ∧ (vp_in (v3 + 2) nS ∧ (g_inv C mX10_read [.ref aM, .int (Int32.ofNat ((G aS).2.2 (v3 + 1).toNatClampNeg)), .int (Int32.ofNat ((G aS).2.2 (v3 + 2).toNatClampNeg))] σ fun r σ' => gw C G mL_law Q 461 [.ref aS, .ref aX, .ref aM, .int v3] (r.toList ++ [.int s0]) σ'))) := by
  refine Eq.trans (e_aload_n dL_law_447 rfl) ?_
  refine Eq.trans (e_aload_n dL_law_448 rfl) ?_
  refine Eq.trans (e_iload_n dL_law_449 rfl) ?_
  refine Eq.trans (e_iconst (x := 1) dL_law_450 (by decide)) ?_
  refine Eq.trans (e_iadd dL_law_451) ?_
  refine Eq.trans (e_sald dL_law_452 hs hn) (g_cj ?_)
  refine Eq.trans (e_aload_n dL_law_453 rfl) ?_
  refine Eq.trans (e_iload_n dL_law_454 rfl) ?_
  refine Eq.trans (e_iconst (x := 2) dL_law_455 (by decide)) ?_
  refine Eq.trans (e_iadd dL_law_456) ?_
  refine Eq.trans (e_sald dL_law_457 hs hn) (g_cj ?_)
  exact e_invv dL_law_458 cl_11_47 (kX10 hm) (by simp) rfl rfl (by simp)
theorem BL_law_461 {C : gC} {G : gG} {Q : gK} {σ : gM} {aS nS aX aM : Nat} {v3 : Int32} {s0 : Int32} {s1 : Int32} (hs : (G aS).1 = 13) (hn : (G aS).2.1 = nS) (hx : isX9 G aX) (hm : isX10 G aM) : gw C G mL_law Q 461 [.ref aS, .ref aX, .ref aM, .int v3] [.int s1, .int s0] σ = (if s0 = s1 then gw C G mL_law Q 1250 [.ref aS, .ref aX, .ref aM, .int v3] [] σ else Q (some (.int 0)) σ) := by
  refine Eq.trans (e_ic_eq (t := 1250) dL_law_461 (by decide)) (g_ite ?_ ?_)
  · rfl
  · refine Eq.trans (e_iconst (x := 0) dL_law_464 (by decide)) ?_
    exact Eq.trans (e_iretz dL_law_465 rfl) (g_and (by decide))
theorem BL_law_466 {C : gC} {G : gG} {Q : gK} {σ : gM} {aS nS aX aM : Nat} {v3 : Int32} (hs : (G aS).1 = 13) (hn : (G aS).2.1 = nS) (hx : isX9 G aX) (hm : isX10 G aM) : gw C G mL_law Q 466 [.ref aS, .ref aX, .ref aM, .int v3] [] σ = (vp_in (v3 + 1) nS ∧ (vp_in (v3 + 2) nS ∧ (vp_in (v3 + 3) nS ∧ (g_inv C mX9_peek [.ref aX, .int (Int32.ofNat ((G aS).2.2 (v3 + 1).toNatClampNeg)), .int (Int32.ofNat ((G aS).2.2 (v3 + 2).toNatClampNeg)), .int (Int32.ofNat ((G aS).2.2 (v3 + 3).toNatClampNeg))] σ fun r σ' => gw C G mL_law Q 485 [.ref aS, .ref aX, .ref aM, .int v3] (r.toList ++ []) σ')))) := by
  refine Eq.trans (e_aload_n dL_law_466 rfl) ?_
  refine Eq.trans (e_aload_n dL_law_467 rfl) ?_
  refine Eq.trans (e_iload_n dL_law_468 rfl) ?_
  refine Eq.trans (e_iconst (x := 1) dL_law_469 (by decide)) ?_
  refine Eq.trans (e_iadd dL_law_470) ?_
  refine Eq.trans (e_sald dL_law_471 hs hn) (g_cj ?_)
  refine Eq.trans (e_aload_n dL_law_472 rfl) ?_
  refine Eq.trans (e_iload_n dL_law_473 rfl) ?_
  refine Eq.trans (e_iconst (x := 2) dL_law_474 (by decide)) ?_
  refine Eq.trans (e_iadd dL_law_475) ?_
  refine Eq.trans (e_sald dL_law_476 hs hn) (g_cj ?_)
  refine Eq.trans (e_aload_n dL_law_477 rfl) ?_
  refine Eq.trans (e_iload_n dL_law_478 rfl) ?_
  refine Eq.trans (e_iconst (x := 3) dL_law_479 (by decide)) ?_
  refine Eq.trans (e_iadd dL_law_480) ?_
  refine Eq.trans (e_sald dL_law_481 hs hn) (g_cj ?_)
  exact e_invv dL_law_482 cl_11_48 (kX9 hx) (by simp) rfl rfl (by simp)
theorem BL_law_485 {C : gC} {G : gG} {Q : gK} {σ : gM} {aS nS aX aM : Nat} {v3 : Int32} {s0 : Int32} (hs : (G aS).1 = 13) (hn : (G aS).2.1 = nS) (hx : isX9 G aX) (hm : isX10 G aM) : gw C G mL_law Q 485 [.ref aS, .ref aX, .ref aM, .int v3] [.int s0] σ = (vp_in (v3 + 1) nS ∧ (vp_in (v3 + 2) nS ∧ (vp_in (v3 + 3) nS ∧ (g_inv C mX10_peek [.ref aM, .int (Int32.ofNat ((G aS).2.2 (v3 + 1).toNatClampNeg)), .int (Int32.ofNat ((G aS).2.2 (v3 + 2).toNatClampNeg)), .int (Int32.ofNat ((G aS).2.2 (v3 + 3).toNatClampNeg))] σ fun r σ' => gw C G mL_law Q 504 [.ref aS, .ref aX, .ref aM, .int v3] (r.toList ++ [.int s0]) σ')))) := by
  refine Eq.trans (e_aload_n dL_law_485 rfl) ?_
  refine Eq.trans (e_aload_n dL_law_486 rfl) ?_
  refine Eq.trans (e_iload_n dL_law_487 rfl) ?_
  refine Eq.trans (e_iconst (x := 1) dL_law_488 (by decide)) ?_
  refine Eq.trans (e_iadd dL_law_489) ?_
  refine Eq.trans (e_sald dL_law_490 hs hn) (g_cj ?_)
  refine Eq.trans (e_aload_n dL_law_491 rfl) ?_
  refine Eq.trans (e_iload_n dL_law_492 rfl) ?_
  refine Eq.trans (e_iconst (x := 2) dL_law_493 (by decide)) ?_
  refine Eq.trans (e_iadd dL_law_494) ?_
  refine Eq.trans (e_sald dL_law_495 hs hn) (g_cj ?_)
  refine Eq.trans (e_aload_n dL_law_496 rfl) ?_
  refine Eq.trans (e_iload_n dL_law_497 rfl) ?_
  refine Eq.trans (e_iconst (x := 3) dL_law_498 (by decide)) ?_
  refine Eq.trans (e_iadd dL_law_499) ?_
  refine Eq.trans (e_sald dL_law_500 hs hn) (g_cj ?_)
  exact e_invv dL_law_501 cl_11_51 (kX10 hm) (by simp) rfl rfl (by simp)
theorem BL_law_504 {C : gC} {G : gG} {Q : gK} {σ : gM} {aS nS aX aM : Nat} {v3 : Int32} {s0 : Int32} {s1 : Int32} (hs : (G aS).1 = 13) (hn : (G aS).2.1 = nS) (hx : isX9 G aX) (hm : isX10 G aM) : gw C G mL_law Q 504 [.ref aS, .ref aX, .ref aM, .int v3] [.int s1, .int s0] σ = (if s0 = s1 then gw C G mL_law Q 1250 [.ref aS, .ref aX, .ref aM, .int v3] [] σ else Q (some (.int 0)) σ) := by
  refine Eq.trans (e_ic_eq (t := 1250) dL_law_504 (by decide)) (g_ite ?_ ?_)
  · rfl
  · refine Eq.trans (e_iconst (x := 0) dL_law_507 (by decide)) ?_
    exact Eq.trans (e_iretz dL_law_508 rfl) (g_and (by decide))
theorem BL_law_509 {C : gC} {G : gG} {Q : gK} {σ : gM} {aS nS aX aM : Nat} {v3 : Int32} (hs : (G aS).1 = 13) (hn : (G aS).2.1 = nS) (hx : isX9 G aX) (hm : isX10 G aM) : gw C G mL_law Q 509 [.ref aS, .ref aX, .ref aM, .int v3] [] σ = (vp_in (v3 + 1) nS ∧ (vp_in (v3 + 2) nS ∧ (g_inv C mX9_of [.ref aX, .int (Int32.ofNat ((G aS).2.2 (v3 + 1).toNatClampNeg)), .int (Int32.ofNat ((G aS).2.2 (v3 + 2).toNatClampNeg))] σ fun r σ' => gw C G mL_law Q 523 [.ref aS, .ref aX, .ref aM, .int v3] (r.toList ++ []) σ'))) := by
  refine Eq.trans (e_aload_n dL_law_509 rfl) ?_
  refine Eq.trans (e_aload_n dL_law_510 rfl) ?_
  refine Eq.trans (e_iload_n dL_law_511 rfl) ?_
  refine Eq.trans (e_iconst (x := 1) dL_law_512 (by decide)) ?_
  refine Eq.trans (e_iadd dL_law_513) ?_
  refine Eq.trans (e_sald dL_law_514 hs hn) (g_cj ?_)
  refine Eq.trans (e_aload_n dL_law_515 rfl) ?_
  refine Eq.trans (e_iload_n dL_law_516 rfl) ?_
  refine Eq.trans (e_iconst (x := 2) dL_law_517 (by decide)) ?_
  refine Eq.trans (e_iadd dL_law_518) ?_
  refine Eq.trans (e_sald dL_law_519 hs hn) (g_cj ?_)
  exact e_invv dL_law_520 cl_11_52 (kX9 hx) (by simp) rfl rfl (by simp)
theorem BL_law_523 {C : gC} {G : gG} {Q : gK} {σ : gM} {aS nS aX aM : Nat} {v3 : Int32} {s0 : Int32} (hs : (G aS).1 = 13) (hn : (G aS).2.1 = nS) (hx : isX9 G aX) (hm : isX10 G aM) : gw C G mL_law Q 523 [.ref aS, .ref aX, .ref aM, .int v3] [.int s0] σ = (vp_in (v3 + 1) nS ∧ (vp_in (v3 + 2) nS ∧ (g_inv C mX10_of [.ref aM, .int (Int32.ofNat ((G aS).2.2 (v3 + 1).toNatClampNeg)), .int (Int32.ofNat ((G aS).2.2 (v3 + 2).toNatClampNeg))] σ fun r σ' => gw C G mL_law Q 537 [.ref aS, .ref aX, .ref aM, .int v3] (r.toList ++ [.int s0]) σ'))) := by
  refine Eq.trans (e_aload_n dL_law_523 rfl) ?_
  refine Eq.trans (e_aload_n dL_law_524 rfl) ?_
  refine Eq.trans (e_iload_n dL_law_525 rfl) ?_
  refine Eq.trans (e_iconst (x := 1) dL_law_526 (by decide)) ?_
  refine Eq.trans (e_iadd dL_law_527) ?_
  refine Eq.trans (e_sald dL_law_528 hs hn) (g_cj ?_)
  refine Eq.trans (e_aload_n dL_law_529 rfl) ?_
  refine Eq.trans (e_iload_n dL_law_530 rfl) ?_
  refine Eq.trans (e_iconst (x := 2) dL_law_531 (by decide)) ?_
  refine Eq.trans (e_iadd dL_law_532) ?_
  refine Eq.trans (e_sald dL_law_533 hs hn) (g_cj ?_)
  exact e_invv dL_law_534 cl_11_55 (kX10 hm) (by simp) rfl rfl (by simp)
theorem BL_law_537 {C : gC} {G : gG} {Q : gK} {σ : gM} {aS nS aX aM : Nat} {v3 : Int32} {s0 : Int32} {s1 : Int32} (hs : (G aS).1 = 13) (hn : (G aS).2.1 = nS) (hx : isX9 G aX) (hm : isX10 G aM) : gw C G mL_law Q 537 [.ref aS, .ref aX, .ref aM, .int v3] [.int s1, .int s0] σ = (if s0 = s1 then gw C G mL_law Q 1250 [.ref aS, .ref aX, .ref aM, .int v3] [] σ else Q (some (.int 0)) σ) := by
  refine Eq.trans (e_ic_eq (t := 1250) dL_law_537 (by decide)) (g_ite ?_ ?_)
  · rfl
  · refine Eq.trans (e_iconst (x := 0) dL_law_540 (by decide)) ?_
    exact Eq.trans (e_iretz dL_law_541 rfl) (g_and (by decide))
theorem BL_law_542 {C : gC} {G : gG} {Q : gK} {σ : gM} {aS nS aX aM : Nat} {v3 : Int32} (hs : (G aS).1 = 13) (hn : (G aS).2.1 = nS) (hx : isX9 G aX) (hm : isX10 G aM) : gw C G mL_law Q 542 [.ref aS, .ref aX, .ref aM, .int v3] [] σ = (vp_in (v3 + 1) nS ∧ (vp_in (v3 + 2) nS ∧ (g_inv C mX9_slot [.ref aX, .int (Int32.ofNat ((G aS).2.2 (v3 + 1).toNatClampNeg)), .int (Int32.ofNat ((G aS).2.2 (v3 + 2).toNatClampNeg))] σ fun r σ' => gw C G mL_law Q 556 [.ref aS, .ref aX, .ref aM, .int v3] (r.toList ++ []) σ'))) := by
  refine Eq.trans (e_aload_n dL_law_542 rfl) ?_
  refine Eq.trans (e_aload_n dL_law_543 rfl) ?_
  refine Eq.trans (e_iload_n dL_law_544 rfl) ?_
  refine Eq.trans (e_iconst (x := 1) dL_law_545 (by decide)) ?_
  refine Eq.trans (e_iadd dL_law_546) ?_
  refine Eq.trans (e_sald dL_law_547 hs hn) (g_cj ?_)
  refine Eq.trans (e_aload_n dL_law_548 rfl) ?_
  refine Eq.trans (e_iload_n dL_law_549 rfl) ?_
  refine Eq.trans (e_iconst (x := 2) dL_law_550 (by decide)) ?_
  refine Eq.trans (e_iadd dL_law_551) ?_
  refine Eq.trans (e_sald dL_law_552 hs hn) (g_cj ?_)
  exact e_invv dL_law_553 cl_11_56 (kX9 hx) (by simp) rfl rfl (by simp)
theorem BL_law_556 {C : gC} {G : gG} {Q : gK} {σ : gM} {aS nS aX aM : Nat} {v3 : Int32} {s0 : Int32} (hs : (G aS).1 = 13) (hn : (G aS).2.1 = nS) (hx : isX9 G aX) (hm : isX10 G aM) : gw C G mL_law Q 556 [.ref aS, .ref aX, .ref aM, .int v3] [.int s0] σ = (vp_in (v3 + 1) nS ∧ (vp_in (v3 + 2) nS ∧ (g_inv C mX10_slot [.ref aM, .int (Int32.ofNat ((G aS).2.2 (v3 + 1).toNatClampNeg)), .int (Int32.ofNat ((G aS).2.2 (v3 + 2).toNatClampNeg))] σ fun r σ' => gw C G mL_law Q 570 [.ref aS, .ref aX, .ref aM, .int v3] (r.toList ++ [.int s0]) σ'))) := by
  refine Eq.trans (e_aload_n dL_law_556 rfl) ?_
  refine Eq.trans (e_aload_n dL_law_557 rfl) ?_
  refine Eq.trans (e_iload_n dL_law_558 rfl) ?_
  refine Eq.trans (e_iconst (x := 1) dL_law_559 (by decide)) ?_
  refine Eq.trans (e_iadd dL_law_560) ?_
  refine Eq.trans (e_sald dL_law_561 hs hn) (g_cj ?_)
  refine Eq.trans (e_aload_n dL_law_562 rfl) ?_
  refine Eq.trans (e_iload_n dL_law_563 rfl) ?_
  refine Eq.trans (e_iconst (x := 2) dL_law_564 (by decide)) ?_
  refine Eq.trans (e_iadd dL_law_565) ?_
  refine Eq.trans (e_sald dL_law_566 hs hn) (g_cj ?_)
  exact e_invv dL_law_567 cl_11_59 (kX10 hm) (by simp) rfl rfl (by simp)
theorem BL_law_570 {C : gC} {G : gG} {Q : gK} {σ : gM} {aS nS aX aM : Nat} {v3 : Int32} {s0 : Int32} {s1 : Int32} (hs : (G aS).1 = 13) (hn : (G aS).2.1 = nS) (hx : isX9 G aX) (hm : isX10 G aM) : gw C G mL_law Q 570 [.ref aS, .ref aX, .ref aM, .int v3] [.int s1, .int s0] σ = (if s0 = s1 then gw C G mL_law Q 1250 [.ref aS, .ref aX, .ref aM, .int v3] [] σ else Q (some (.int 0)) σ) := by
  refine Eq.trans (e_ic_eq (t := 1250) dL_law_570 (by decide)) (g_ite ?_ ?_)
  · rfl
  · refine Eq.trans (e_iconst (x := 0) dL_law_573 (by decide)) ?_
    exact Eq.trans (e_iretz dL_law_574 rfl) (g_and (by decide))
theorem BL_law_575 {C : gC} {G : gG} {Q : gK} {σ : gM} {aS nS aX aM : Nat} {v3 : Int32} (hs : (G aS).1 = 13) (hn : (G aS).2.1 = nS) (hx : isX9 G aX) (hm : isX10 G aM) : gw C G mL_law Q 575 [.ref aS, .ref aX, .ref aM, .int v3] [] σ = (vp_in (v3 + 1) nS ∧ (g_inv C mX9_lies [.ref aX, .int (Int32.ofNat ((G aS).2.2 (v3 + 1).toNatClampNeg))] σ fun r σ' => gw C G mL_law Q 584 [.ref aS, .ref aX, .ref aM, .int v3] (r.toList ++ []) σ')) := by
  refine Eq.trans (e_aload_n dL_law_575 rfl) ?_
  refine Eq.trans (e_aload_n dL_law_576 rfl) ?_
  refine Eq.trans (e_iload_n dL_law_577 rfl) ?_
  refine Eq.trans (e_iconst (x := 1) dL_law_578 (by decide)) ?_
  refine Eq.trans (e_iadd dL_law_579) ?_
  refine Eq.trans (e_sald dL_law_580 hs hn) (g_cj ?_)
  exact e_invv dL_law_581 cl_11_60 (kX9 hx) (by simp) rfl rfl (by simp)
theorem BL_law_584 {C : gC} {G : gG} {Q : gK} {σ : gM} {aS nS aX aM : Nat} {v3 : Int32} {s0 : Int32} (hs : (G aS).1 = 13) (hn : (G aS).2.1 = nS) (hx : isX9 G aX) (hm : isX10 G aM) : gw C G mL_law Q 584 [.ref aS, .ref aX, .ref aM, .int v3] [.int s0] σ = (vp_in (v3 + 1) nS ∧ (g_inv C mX10_lies [.ref aM, .int (Int32.ofNat ((G aS).2.2 (v3 + 1).toNatClampNeg))] σ fun r σ' => gw C G mL_law Q 593 [.ref aS, .ref aX, .ref aM, .int v3] (r.toList ++ [.int s0]) σ')) := by
  refine Eq.trans (e_aload_n dL_law_584 rfl) ?_
  refine Eq.trans (e_aload_n dL_law_585 rfl) ?_
  refine Eq.trans (e_iload_n dL_law_586 rfl) ?_
  refine Eq.trans (e_iconst (x := 1) dL_law_587 (by decide)) ?_
  refine Eq.trans (e_iadd dL_law_588) ?_
  refine Eq.trans (e_sald dL_law_589 hs hn) (g_cj ?_)
  exact e_invv dL_law_590 cl_11_63 (kX10 hm) (by simp) rfl rfl (by simp)
theorem BL_law_593 {C : gC} {G : gG} {Q : gK} {σ : gM} {aS nS aX aM : Nat} {v3 : Int32} {s0 : Int32} {s1 : Int32} (hs : (G aS).1 = 13) (hn : (G aS).2.1 = nS) (hx : isX9 G aX) (hm : isX10 G aM) : gw C G mL_law Q 593 [.ref aS, .ref aX, .ref aM, .int v3] [.int s1, .int s0] σ = (if s0 = s1 then gw C G mL_law Q 1250 [.ref aS, .ref aX, .ref aM, .int v3] [] σ else Q (some (.int 0)) σ) := by
  refine Eq.trans (e_ic_eq (t := 1250) dL_law_593 (by decide)) (g_ite ?_ ?_)
  · rfl
  · refine Eq.trans (e_iconst (x := 0) dL_law_596 (by decide)) ?_
    exact Eq.trans (e_iretz dL_law_597 rfl) (g_and (by decide))
theorem BL_law_598 {C : gC} {G : gG} {Q : gK} {σ : gM} {aS nS aX aM : Nat} {v3 : Int32} (hs : (G aS).1 = 13) (hn : (G aS).2.1 = nS) (hx : isX9 G aX) (hm : isX10 G aM) : gw C G mL_law Q 598 [.ref aS, .ref aX, .ref aM, .int v3] [] σ = (vp_in (v3 + 1) nS ∧ (vp_in (v3 + 2) nS ∧ (g_inv C mX9_tag [.ref aX, .int (Int32.ofNat ((G aS).2.2 (v3 + 1).toNatClampNeg)), .int (Int32.ofNat ((G aS).2.2 (v3 + 2).toNatClampNeg))] σ fun r σ' => gw C G mL_law Q 612 [.ref aS, .ref aX, .ref aM, .int v3] (r.toList ++ []) σ'))) := by
  refine Eq.trans (e_aload_n dL_law_598 rfl) ?_
  refine Eq.trans (e_aload_n dL_law_599 rfl) ?_
  refine Eq.trans (e_iload_n dL_law_600 rfl) ?_
  refine Eq.trans (e_iconst (x := 1) dL_law_601 (by decide)) ?_
  refine Eq.trans (e_iadd dL_law_602) ?_
  refine Eq.trans (e_sald dL_law_603 hs hn) (g_cj ?_)
  refine Eq.trans (e_aload_n dL_law_604 rfl) ?_
  refine Eq.trans (e_iload_n dL_law_605 rfl) ?_
  refine Eq.trans (e_iconst (x := 2) dL_law_606 (by decide)) ?_
  refine Eq.trans (e_iadd dL_law_607) ?_
  refine Eq.trans (e_sald dL_law_608 hs hn) (g_cj ?_)
  exact e_invv dL_law_609 cl_11_64 (kX9 hx) (by simp) rfl rfl (by simp)
theorem BL_law_612 {C : gC} {G : gG} {Q : gK} {σ : gM} {aS nS aX aM : Nat} {v3 : Int32} {s0 : Int32} (hs : (G aS).1 = 13) (hn : (G aS).2.1 = nS) (hx : isX9 G aX) (hm : isX10 G aM) : gw C G mL_law Q 612 [.ref aS, .ref aX, .ref aM, .int v3] [.int s0] σ = (vp_in (v3 + 1) nS ∧ (vp_in (v3 + 2) nS ∧ (g_inv C mX10_tag [.ref aM, .int (Int32.ofNat ((G aS).2.2 (v3 + 1).toNatClampNeg)), .int (Int32.ofNat ((G aS).2.2 (v3 + 2).toNatClampNeg))] σ fun r σ' => gw C G mL_law Q 626 [.ref aS, .ref aX, .ref aM, .int v3] (r.toList ++ [.int s0]) σ'))) := by
  refine Eq.trans (e_aload_n dL_law_612 rfl) ?_
  refine Eq.trans (e_aload_n dL_law_613 rfl) ?_
  refine Eq.trans (e_iload_n dL_law_614 rfl) ?_
  refine Eq.trans (e_iconst (x := 1) dL_law_615 (by decide)) ?_
  refine Eq.trans (e_iadd dL_law_616) ?_
  refine Eq.trans (e_sald dL_law_617 hs hn) (g_cj ?_)
  refine Eq.trans (e_aload_n dL_law_618 rfl) ?_
  refine Eq.trans (e_iload_n dL_law_619 rfl) ?_
  refine Eq.trans (e_iconst (x := 2) dL_law_620 (by decide)) ?_
  refine Eq.trans (e_iadd dL_law_621) ?_
  refine Eq.trans (e_sald dL_law_622 hs hn) (g_cj ?_)
  exact e_invv dL_law_623 cl_11_67 (kX10 hm) (by simp) rfl rfl (by simp)
theorem BL_law_626 {C : gC} {G : gG} {Q : gK} {σ : gM} {aS nS aX aM : Nat} {v3 : Int32} {s0 : Int32} {s1 : Int32} (hs : (G aS).1 = 13) (hn : (G aS).2.1 = nS) (hx : isX9 G aX) (hm : isX10 G aM) : gw C G mL_law Q 626 [.ref aS, .ref aX, .ref aM, .int v3] [.int s1, .int s0] σ = (if s0 = s1 then gw C G mL_law Q 1250 [.ref aS, .ref aX, .ref aM, .int v3] [] σ else Q (some (.int 0)) σ) := by
  refine Eq.trans (e_ic_eq (t := 1250) dL_law_626 (by decide)) (g_ite ?_ ?_)
  · rfl
  · refine Eq.trans (e_iconst (x := 0) dL_law_629 (by decide)) ?_
    exact Eq.trans (e_iretz dL_law_630 rfl) (g_and (by decide))
theorem BL_law_631 {C : gC} {G : gG} {Q : gK} {σ : gM} {aS nS aX aM : Nat} {v3 : Int32} (hs : (G aS).1 = 13) (hn : (G aS).2.1 = nS) (hx : isX9 G aX) (hm : isX10 G aM) : gw C G mL_law Q 631 [.ref aS, .ref aX, .ref aM, .int v3] [] σ = (vp_in (v3 + 1) nS ∧ (g_inv C mX9_find [.ref aX, .int (Int32.ofNat ((G aS).2.2 (v3 + 1).toNatClampNeg))] σ fun r σ' => gw C G mL_law Q 640 [.ref aS, .ref aX, .ref aM, .int v3] (r.toList ++ []) σ')) := by
  refine Eq.trans (e_aload_n dL_law_631 rfl) ?_
  refine Eq.trans (e_aload_n dL_law_632 rfl) ?_
  refine Eq.trans (e_iload_n dL_law_633 rfl) ?_
  refine Eq.trans (e_iconst (x := 1) dL_law_634 (by decide)) ?_
  refine Eq.trans (e_iadd dL_law_635) ?_
  refine Eq.trans (e_sald dL_law_636 hs hn) (g_cj ?_)
  exact e_invv dL_law_637 cl_11_68 (kX9 hx) (by simp) rfl rfl (by simp)
theorem BL_law_640 {C : gC} {G : gG} {Q : gK} {σ : gM} {aS nS aX aM : Nat} {v3 : Int32} {s0 : Int32} (hs : (G aS).1 = 13) (hn : (G aS).2.1 = nS) (hx : isX9 G aX) (hm : isX10 G aM) : gw C G mL_law Q 640 [.ref aS, .ref aX, .ref aM, .int v3] [.int s0] σ = (vp_in (v3 + 1) nS ∧ (g_inv C mX10_find [.ref aM, .int (Int32.ofNat ((G aS).2.2 (v3 + 1).toNatClampNeg))] σ fun r σ' => gw C G mL_law Q 649 [.ref aS, .ref aX, .ref aM, .int v3] (r.toList ++ [.int s0]) σ')) := by
  refine Eq.trans (e_aload_n dL_law_640 rfl) ?_
  refine Eq.trans (e_aload_n dL_law_641 rfl) ?_
  refine Eq.trans (e_iload_n dL_law_642 rfl) ?_
  refine Eq.trans (e_iconst (x := 1) dL_law_643 (by decide)) ?_
  refine Eq.trans (e_iadd dL_law_644) ?_
  refine Eq.trans (e_sald dL_law_645 hs hn) (g_cj ?_)
  exact e_invv dL_law_646 cl_11_71 (kX10 hm) (by simp) rfl rfl (by simp)
theorem BL_law_649 {C : gC} {G : gG} {Q : gK} {σ : gM} {aS nS aX aM : Nat} {v3 : Int32} {s0 : Int32} {s1 : Int32} (hs : (G aS).1 = 13) (hn : (G aS).2.1 = nS) (hx : isX9 G aX) (hm : isX10 G aM) : gw C G mL_law Q 649 [.ref aS, .ref aX, .ref aM, .int v3] [.int s1, .int s0] σ = (if s0 = s1 then gw C G mL_law Q 1250 [.ref aS, .ref aX, .ref aM, .int v3] [] σ else Q (some (.int 0)) σ) := by
  refine Eq.trans (e_ic_eq (t := 1250) dL_law_649 (by decide)) (g_ite ?_ ?_)
  · rfl
  · refine Eq.trans (e_iconst (x := 0) dL_law_652 (by decide)) ?_
    exact Eq.trans (e_iretz dL_law_653 rfl) (g_and (by decide))
theorem BL_law_654 {C : gC} {G : gG} {Q : gK} {σ : gM} {aS nS aX aM : Nat} {v3 : Int32} (hs : (G aS).1 = 13) (hn : (G aS).2.1 = nS) (hx : isX9 G aX) (hm : isX10 G aM) : gw C G mL_law Q 654 [.ref aS, .ref aX, .ref aM, .int v3] [] σ = (vp_in (v3 + 1) nS ∧ (g_inv C mX9_tagged [.ref aX, .int (Int32.ofNat ((G aS).2.2 (v3 + 1).toNatClampNeg))] σ fun r σ' => gw C G mL_law Q 663 [.ref aS, .ref aX, .ref aM, .int v3] (r.toList ++ []) σ')) := by
  refine Eq.trans (e_aload_n dL_law_654 rfl) ?_
  refine Eq.trans (e_aload_n dL_law_655 rfl) ?_
  refine Eq.trans (e_iload_n dL_law_656 rfl) ?_
  refine Eq.trans (e_iconst (x := 1) dL_law_657 (by decide)) ?_
  refine Eq.trans (e_iadd dL_law_658) ?_
  refine Eq.trans (e_sald dL_law_659 hs hn) (g_cj ?_)
  exact e_invv dL_law_660 cl_11_72 (kX9 hx) (by simp) rfl rfl (by simp)
theorem BL_law_663 {C : gC} {G : gG} {Q : gK} {σ : gM} {aS nS aX aM : Nat} {v3 : Int32} {s0 : Int32} (hs : (G aS).1 = 13) (hn : (G aS).2.1 = nS) (hx : isX9 G aX) (hm : isX10 G aM) : gw C G mL_law Q 663 [.ref aS, .ref aX, .ref aM, .int v3] [.int s0] σ = (vp_in (v3 + 1) nS ∧ (g_inv C mX10_tagged [.ref aM, .int (Int32.ofNat ((G aS).2.2 (v3 + 1).toNatClampNeg))] σ fun r σ' => gw C G mL_law Q 672 [.ref aS, .ref aX, .ref aM, .int v3] (r.toList ++ [.int s0]) σ')) := by
  refine Eq.trans (e_aload_n dL_law_663 rfl) ?_
  refine Eq.trans (e_aload_n dL_law_664 rfl) ?_
  refine Eq.trans (e_iload_n dL_law_665 rfl) ?_
  refine Eq.trans (e_iconst (x := 1) dL_law_666 (by decide)) ?_
  refine Eq.trans (e_iadd dL_law_667) ?_
  refine Eq.trans (e_sald dL_law_668 hs hn) (g_cj ?_)
  exact e_invv dL_law_669 cl_11_75 (kX10 hm) (by simp) rfl rfl (by simp)
theorem BL_law_672 {C : gC} {G : gG} {Q : gK} {σ : gM} {aS nS aX aM : Nat} {v3 : Int32} {s0 : Int32} {s1 : Int32} (hs : (G aS).1 = 13) (hn : (G aS).2.1 = nS) (hx : isX9 G aX) (hm : isX10 G aM) : gw C G mL_law Q 672 [.ref aS, .ref aX, .ref aM, .int v3] [.int s1, .int s0] σ = (if s0 = s1 then gw C G mL_law Q 1250 [.ref aS, .ref aX, .ref aM, .int v3] [] σ else Q (some (.int 0)) σ) := by
  refine Eq.trans (e_ic_eq (t := 1250) dL_law_672 (by decide)) (g_ite ?_ ?_)
  · rfl
  · refine Eq.trans (e_iconst (x := 0) dL_law_675 (by decide)) ?_
    exact Eq.trans (e_iretz dL_law_676 rfl) (g_and (by decide))
theorem BL_law_677 {C : gC} {G : gG} {Q : gK} {σ : gM} {aS nS aX aM : Nat} {v3 : Int32} (hs : (G aS).1 = 13) (hn : (G aS).2.1 = nS) (hx : isX9 G aX) (hm : isX10 G aM) : gw C G mL_law Q 677 [.ref aS, .ref aX, .ref aM, .int v3] [] σ = (vp_in (v3 + 1) nS ∧ (vp_in (v3 + 2) nS ∧ (g_inv C mX9_quota [.ref aX, .int (Int32.ofNat ((G aS).2.2 (v3 + 1).toNatClampNeg)), .int (Int32.ofNat ((G aS).2.2 (v3 + 2).toNatClampNeg))] σ fun r σ' => gw C G mL_law Q 691 [.ref aS, .ref aX, .ref aM, .int v3] (r.toList ++ []) σ'))) := by
  refine Eq.trans (e_aload_n dL_law_677 rfl) ?_
  refine Eq.trans (e_aload_n dL_law_678 rfl) ?_
  refine Eq.trans (e_iload_n dL_law_679 rfl) ?_
  refine Eq.trans (e_iconst (x := 1) dL_law_680 (by decide)) ?_
  refine Eq.trans (e_iadd dL_law_681) ?_
  refine Eq.trans (e_sald dL_law_682 hs hn) (g_cj ?_)
  refine Eq.trans (e_aload_n dL_law_683 rfl) ?_
  refine Eq.trans (e_iload_n dL_law_684 rfl) ?_
  refine Eq.trans (e_iconst (x := 2) dL_law_685 (by decide)) ?_
  refine Eq.trans (e_iadd dL_law_686) ?_
  refine Eq.trans (e_sald dL_law_687 hs hn) (g_cj ?_)
  exact e_invv dL_law_688 cl_11_76 (kX9 hx) (by simp) rfl rfl (by simp)
theorem BL_law_691 {C : gC} {G : gG} {Q : gK} {σ : gM} {aS nS aX aM : Nat} {v3 : Int32} {s0 : Int32} (hs : (G aS).1 = 13) (hn : (G aS).2.1 = nS) (hx : isX9 G aX) (hm : isX10 G aM) : gw C G mL_law Q 691 [.ref aS, .ref aX, .ref aM, .int v3] [.int s0] σ = (vp_in (v3 + 1) nS ∧ (vp_in (v3 + 2) nS ∧ (g_inv C mX10_quota [.ref aM, .int (Int32.ofNat ((G aS).2.2 (v3 + 1).toNatClampNeg)), .int (Int32.ofNat ((G aS).2.2 (v3 + 2).toNatClampNeg))] σ fun r σ' => gw C G mL_law Q 705 [.ref aS, .ref aX, .ref aM, .int v3] (r.toList ++ [.int s0]) σ'))) := by
  refine Eq.trans (e_aload_n dL_law_691 rfl) ?_
  refine Eq.trans (e_aload_n dL_law_692 rfl) ?_
  refine Eq.trans (e_iload_n dL_law_693 rfl) ?_
  refine Eq.trans (e_iconst (x := 1) dL_law_694 (by decide)) ?_
  refine Eq.trans (e_iadd dL_law_695) ?_
  refine Eq.trans (e_sald dL_law_696 hs hn) (g_cj ?_)
  refine Eq.trans (e_aload_n dL_law_697 rfl) ?_
  refine Eq.trans (e_iload_n dL_law_698 rfl) ?_
  refine Eq.trans (e_iconst (x := 2) dL_law_699 (by decide)) ?_
  refine Eq.trans (e_iadd dL_law_700) ?_
  refine Eq.trans (e_sald dL_law_701 hs hn) (g_cj ?_)
  exact e_invv dL_law_702 cl_11_79 (kX10 hm) (by simp) rfl rfl (by simp)
theorem BL_law_705 {C : gC} {G : gG} {Q : gK} {σ : gM} {aS nS aX aM : Nat} {v3 : Int32} {s0 : Int32} {s1 : Int32} (hs : (G aS).1 = 13) (hn : (G aS).2.1 = nS) (hx : isX9 G aX) (hm : isX10 G aM) : gw C G mL_law Q 705 [.ref aS, .ref aX, .ref aM, .int v3] [.int s1, .int s0] σ = (if s0 = s1 then gw C G mL_law Q 1250 [.ref aS, .ref aX, .ref aM, .int v3] [] σ else Q (some (.int 0)) σ) := by
  refine Eq.trans (e_ic_eq (t := 1250) dL_law_705 (by decide)) (g_ite ?_ ?_)
  · rfl
  · refine Eq.trans (e_iconst (x := 0) dL_law_708 (by decide)) ?_
    exact Eq.trans (e_iretz dL_law_709 rfl) (g_and (by decide))
theorem BL_law_710 {C : gC} {G : gG} {Q : gK} {σ : gM} {aS nS aX aM : Nat} {v3 : Int32} (hs : (G aS).1 = 13) (hn : (G aS).2.1 = nS) (hx : isX9 G aX) (hm : isX10 G aM) : gw C G mL_law Q 710 [.ref aS, .ref aX, .ref aM, .int v3] [] σ = (vp_in (v3 + 1) nS ∧ (vp_in (v3 + 2) nS ∧ (g_inv C mX9_owner [.ref aX, .int (Int32.ofNat ((G aS).2.2 (v3 + 1).toNatClampNeg)), .int (Int32.ofNat ((G aS).2.2 (v3 + 2).toNatClampNeg))] σ fun r σ' => gw C G mL_law Q 724 [.ref aS, .ref aX, .ref aM, .int v3] (r.toList ++ []) σ'))) := by
  refine Eq.trans (e_aload_n dL_law_710 rfl) ?_
  refine Eq.trans (e_aload_n dL_law_711 rfl) ?_
  refine Eq.trans (e_iload_n dL_law_712 rfl) ?_
  refine Eq.trans (e_iconst (x := 1) dL_law_713 (by decide)) ?_
  refine Eq.trans (e_iadd dL_law_714) ?_
  refine Eq.trans (e_sald dL_law_715 hs hn) (g_cj ?_)
  refine Eq.trans (e_aload_n dL_law_716 rfl) ?_
  refine Eq.trans (e_iload_n dL_law_717 rfl) ?_
  refine Eq.trans (e_iconst (x := 2) dL_law_718 (by decide)) ?_
  refine Eq.trans (e_iadd dL_law_719) ?_
  refine Eq.trans (e_sald dL_law_720 hs hn) (g_cj ?_)
  exact e_invv dL_law_721 cl_11_80 (kX9 hx) (by simp) rfl rfl (by simp)
theorem BL_law_724 {C : gC} {G : gG} {Q : gK} {σ : gM} {aS nS aX aM : Nat} {v3 : Int32} {s0 : Int32} (hs : (G aS).1 = 13) (hn : (G aS).2.1 = nS) (hx : isX9 G aX) (hm : isX10 G aM) : gw C G mL_law Q 724 [.ref aS, .ref aX, .ref aM, .int v3] [.int s0] σ = (vp_in (v3 + 1) nS ∧ (vp_in (v3 + 2) nS ∧ (g_inv C mX10_owner [.ref aM, .int (Int32.ofNat ((G aS).2.2 (v3 + 1).toNatClampNeg)), .int (Int32.ofNat ((G aS).2.2 (v3 + 2).toNatClampNeg))] σ fun r σ' => gw C G mL_law Q 738 [.ref aS, .ref aX, .ref aM, .int v3] (r.toList ++ [.int s0]) σ'))) := by
  refine Eq.trans (e_aload_n dL_law_724 rfl) ?_
  refine Eq.trans (e_aload_n dL_law_725 rfl) ?_
  refine Eq.trans (e_iload_n dL_law_726 rfl) ?_
  refine Eq.trans (e_iconst (x := 1) dL_law_727 (by decide)) ?_
  refine Eq.trans (e_iadd dL_law_728) ?_
  refine Eq.trans (e_sald dL_law_729 hs hn) (g_cj ?_)
  refine Eq.trans (e_aload_n dL_law_730 rfl) ?_
  refine Eq.trans (e_iload_n dL_law_731 rfl) ?_
  refine Eq.trans (e_iconst (x := 2) dL_law_732 (by decide)) ?_
  refine Eq.trans (e_iadd dL_law_733) ?_
  refine Eq.trans (e_sald dL_law_734 hs hn) (g_cj ?_)
  exact e_invv dL_law_735 cl_11_83 (kX10 hm) (by simp) rfl rfl (by simp)
theorem BL_law_738 {C : gC} {G : gG} {Q : gK} {σ : gM} {aS nS aX aM : Nat} {v3 : Int32} {s0 : Int32} {s1 : Int32} (hs : (G aS).1 = 13) (hn : (G aS).2.1 = nS) (hx : isX9 G aX) (hm : isX10 G aM) : gw C G mL_law Q 738 [.ref aS, .ref aX, .ref aM, .int v3] [.int s1, .int s0] σ = (if s0 = s1 then gw C G mL_law Q 1250 [.ref aS, .ref aX, .ref aM, .int v3] [] σ else Q (some (.int 0)) σ) := by
  refine Eq.trans (e_ic_eq (t := 1250) dL_law_738 (by decide)) (g_ite ?_ ?_)
  · rfl
  · refine Eq.trans (e_iconst (x := 0) dL_law_741 (by decide)) ?_
    exact Eq.trans (e_iretz dL_law_742 rfl) (g_and (by decide))
theorem BL_law_743 {C : gC} {G : gG} {Q : gK} {σ : gM} {aS nS aX aM : Nat} {v3 : Int32} (hs : (G aS).1 = 13) (hn : (G aS).2.1 = nS) (hx : isX9 G aX) (hm : isX10 G aM) : gw C G mL_law Q 743 [.ref aS, .ref aX, .ref aM, .int v3] [] σ = (vp_in (v3 + 1) nS ∧ (g_inv C mX9_enter [.ref aX, .int (Int32.ofNat ((G aS).2.2 (v3 + 1).toNatClampNeg))] σ fun r σ' => gw C G mL_law Q 752 [.ref aS, .ref aX, .ref aM, .int v3] (r.toList ++ []) σ')) := by
  refine Eq.trans (e_aload_n dL_law_743 rfl) ?_
  refine Eq.trans (e_aload_n dL_law_744 rfl) ?_
  refine Eq.trans (e_iload_n dL_law_745 rfl) ?_
  refine Eq.trans (e_iconst (x := 1) dL_law_746 (by decide)) ?_
  refine Eq.trans (e_iadd dL_law_747) ?_
  refine Eq.trans (e_sald dL_law_748 hs hn) (g_cj ?_)
  exact e_invv dL_law_749 cl_11_84 (kX9 hx) (by simp) rfl rfl (by simp)
theorem BL_law_752 {C : gC} {G : gG} {Q : gK} {σ : gM} {aS nS aX aM : Nat} {v3 : Int32} {s0 : Int32} (hs : (G aS).1 = 13) (hn : (G aS).2.1 = nS) (hx : isX9 G aX) (hm : isX10 G aM) : gw C G mL_law Q 752 [.ref aS, .ref aX, .ref aM, .int v3] [.int s0] σ = (vp_in (v3 + 1) nS ∧ (g_inv C mX10_enter [.ref aM, .int (Int32.ofNat ((G aS).2.2 (v3 + 1).toNatClampNeg))] σ fun r σ' => gw C G mL_law Q 761 [.ref aS, .ref aX, .ref aM, .int v3] (r.toList ++ [.int s0]) σ')) := by
  refine Eq.trans (e_aload_n dL_law_752 rfl) ?_
  refine Eq.trans (e_aload_n dL_law_753 rfl) ?_
  refine Eq.trans (e_iload_n dL_law_754 rfl) ?_
  refine Eq.trans (e_iconst (x := 1) dL_law_755 (by decide)) ?_
  refine Eq.trans (e_iadd dL_law_756) ?_
  refine Eq.trans (e_sald dL_law_757 hs hn) (g_cj ?_)
  exact e_invv dL_law_758 cl_11_87 (kX10 hm) (by simp) rfl rfl (by simp)
theorem BL_law_761 {C : gC} {G : gG} {Q : gK} {σ : gM} {aS nS aX aM : Nat} {v3 : Int32} {s0 : Int32} {s1 : Int32} (hs : (G aS).1 = 13) (hn : (G aS).2.1 = nS) (hx : isX9 G aX) (hm : isX10 G aM) : gw C G mL_law Q 761 [.ref aS, .ref aX, .ref aM, .int v3] [.int s1, .int s0] σ = (if s0 = s1 then gw C G mL_law Q 1250 [.ref aS, .ref aX, .ref aM, .int v3] [] σ else Q (some (.int 0)) σ) := by
  refine Eq.trans (e_ic_eq (t := 1250) dL_law_761 (by decide)) (g_ite ?_ ?_)
  · rfl
  · refine Eq.trans (e_iconst (x := 0) dL_law_764 (by decide)) ?_
    exact Eq.trans (e_iretz dL_law_765 rfl) (g_and (by decide))
theorem BL_law_766 {C : gC} {G : gG} {Q : gK} {σ : gM} {aS nS aX aM : Nat} {v3 : Int32} (hs : (G aS).1 = 13) (hn : (G aS).2.1 = nS) (hx : isX9 G aX) (hm : isX10 G aM) : gw C G mL_law Q 766 [.ref aS, .ref aX, .ref aM, .int v3] [] σ = (vp_in (v3 + 1) nS ∧ (g_inv C mX9_leave [.ref aX, .int (Int32.ofNat ((G aS).2.2 (v3 + 1).toNatClampNeg))] σ fun r σ' => gw C G mL_law Q 775 [.ref aS, .ref aX, .ref aM, .int v3] (r.toList ++ []) σ')) := by
  refine Eq.trans (e_aload_n dL_law_766 rfl) ?_
  refine Eq.trans (e_aload_n dL_law_767 rfl) ?_
  refine Eq.trans (e_iload_n dL_law_768 rfl) ?_
  refine Eq.trans (e_iconst (x := 1) dL_law_769 (by decide)) ?_
  refine Eq.trans (e_iadd dL_law_770) ?_
  refine Eq.trans (e_sald dL_law_771 hs hn) (g_cj ?_)
  exact e_invv dL_law_772 cl_11_88 (kX9 hx) (by simp) rfl rfl (by simp)
theorem BL_law_775 {C : gC} {G : gG} {Q : gK} {σ : gM} {aS nS aX aM : Nat} {v3 : Int32} {s0 : Int32} (hs : (G aS).1 = 13) (hn : (G aS).2.1 = nS) (hx : isX9 G aX) (hm : isX10 G aM) : gw C G mL_law Q 775 [.ref aS, .ref aX, .ref aM, .int v3] [.int s0] σ = (vp_in (v3 + 1) nS ∧ (g_inv C mX10_leave [.ref aM, .int (Int32.ofNat ((G aS).2.2 (v3 + 1).toNatClampNeg))] σ fun r σ' => gw C G mL_law Q 784 [.ref aS, .ref aX, .ref aM, .int v3] (r.toList ++ [.int s0]) σ')) := by
  refine Eq.trans (e_aload_n dL_law_775 rfl) ?_
  refine Eq.trans (e_aload_n dL_law_776 rfl) ?_
  refine Eq.trans (e_iload_n dL_law_777 rfl) ?_
  refine Eq.trans (e_iconst (x := 1) dL_law_778 (by decide)) ?_
  refine Eq.trans (e_iadd dL_law_779) ?_
  refine Eq.trans (e_sald dL_law_780 hs hn) (g_cj ?_)
  exact e_invv dL_law_781 cl_11_91 (kX10 hm) (by simp) rfl rfl (by simp)
theorem BL_law_784 {C : gC} {G : gG} {Q : gK} {σ : gM} {aS nS aX aM : Nat} {v3 : Int32} {s0 : Int32} {s1 : Int32} (hs : (G aS).1 = 13) (hn : (G aS).2.1 = nS) (hx : isX9 G aX) (hm : isX10 G aM) : gw C G mL_law Q 784 [.ref aS, .ref aX, .ref aM, .int v3] [.int s1, .int s0] σ = (if s0 = s1 then gw C G mL_law Q 1250 [.ref aS, .ref aX, .ref aM, .int v3] [] σ else Q (some (.int 0)) σ) := by
  refine Eq.trans (e_ic_eq (t := 1250) dL_law_784 (by decide)) (g_ite ?_ ?_)
  · rfl
  · refine Eq.trans (e_iconst (x := 0) dL_law_787 (by decide)) ?_
    exact Eq.trans (e_iretz dL_law_788 rfl) (g_and (by decide))
theorem BL_law_789 {C : gC} {G : gG} {Q : gK} {σ : gM} {aS nS aX aM : Nat} {v3 : Int32} (hs : (G aS).1 = 13) (hn : (G aS).2.1 = nS) (hx : isX9 G aX) (hm : isX10 G aM) : gw C G mL_law Q 789 [.ref aS, .ref aX, .ref aM, .int v3] [] σ = (g_inv C mX9_advance [.ref aX] σ fun r σ' => gw C G mL_law Q 793 [.ref aS, .ref aX, .ref aM, .int v3] (r.toList ++ []) σ') := by
  refine Eq.trans (e_aload_n dL_law_789 rfl) ?_
  exact e_invv dL_law_790 cl_11_92 (kX9 hx) (by simp) rfl rfl (by simp)
theorem BL_law_793 {C : gC} {G : gG} {Q : gK} {σ : gM} {aS nS aX aM : Nat} {v3 : Int32} {s0 : Int32} (hs : (G aS).1 = 13) (hn : (G aS).2.1 = nS) (hx : isX9 G aX) (hm : isX10 G aM) : gw C G mL_law Q 793 [.ref aS, .ref aX, .ref aM, .int v3] [.int s0] σ = (g_inv C mX10_advance [.ref aM] σ fun r σ' => gw C G mL_law Q 797 [.ref aS, .ref aX, .ref aM, .int v3] (r.toList ++ [.int s0]) σ') := by
  refine Eq.trans (e_aload_n dL_law_793 rfl) ?_
  exact e_invv dL_law_794 cl_11_96 (kX10 hm) (by simp) rfl rfl (by simp)
theorem BL_law_797 {C : gC} {G : gG} {Q : gK} {σ : gM} {aS nS aX aM : Nat} {v3 : Int32} {s0 : Int32} {s1 : Int32} (hs : (G aS).1 = 13) (hn : (G aS).2.1 = nS) (hx : isX9 G aX) (hm : isX10 G aM) : gw C G mL_law Q 797 [.ref aS, .ref aX, .ref aM, .int v3] [.int s1, .int s0] σ = (if s0 = s1 then gw C G mL_law Q 1250 [.ref aS, .ref aX, .ref aM, .int v3] [] σ else Q (some (.int 0)) σ) := by
  refine Eq.trans (e_ic_eq (t := 1250) dL_law_797 (by decide)) (g_ite ?_ ?_)
  · rfl
  · refine Eq.trans (e_iconst (x := 0) dL_law_800 (by decide)) ?_
    exact Eq.trans (e_iretz dL_law_801 rfl) (g_and (by decide))
theorem BL_law_802 {C : gC} {G : gG} {Q : gK} {σ : gM} {aS nS aX aM : Nat} {v3 : Int32} (hs : (G aS).1 = 13) (hn : (G aS).2.1 = nS) (hx : isX9 G aX) (hm : isX10 G aM) : gw C G mL_law Q 802 [.ref aS, .ref aX, .ref aM, .int v3] [] σ = (vp_in (v3 + 1) nS ∧ (vp_in (v3 + 2) nS ∧ (vp_in (v3 + 3) nS ∧ (g_inv C mX9_would [.ref aX, .int (Int32.ofNat ((G aS).2.2 (v3 + 1).toNatClampNeg)), .int (Int32.ofNat ((G aS).2.2 (v3 + 2).toNatClampNeg)), .int (Int32.ofNat ((G aS).2.2 (v3 + 3).toNatClampNeg))] σ fun r σ' => gw C G mL_law Q 821 [.ref aS, .ref aX, .ref aM, .int v3] (r.toList ++ []) σ')))) := by
  refine Eq.trans (e_aload_n dL_law_802 rfl) ?_
  refine Eq.trans (e_aload_n dL_law_803 rfl) ?_
  refine Eq.trans (e_iload_n dL_law_804 rfl) ?_
  refine Eq.trans (e_iconst (x := 1) dL_law_805 (by decide)) ?_
  refine Eq.trans (e_iadd dL_law_806) ?_
  refine Eq.trans (e_sald dL_law_807 hs hn) (g_cj ?_)
  refine Eq.trans (e_aload_n dL_law_808 rfl) ?_
  refine Eq.trans (e_iload_n dL_law_809 rfl) ?_
  refine Eq.trans (e_iconst (x := 2) dL_law_810 (by decide)) ?_
  refine Eq.trans (e_iadd dL_law_811) ?_
  refine Eq.trans (e_sald dL_law_812 hs hn) (g_cj ?_)
  refine Eq.trans (e_aload_n dL_law_813 rfl) ?_
  refine Eq.trans (e_iload_n dL_law_814 rfl) ?_
  refine Eq.trans (e_iconst (x := 3) dL_law_815 (by decide)) ?_
  refine Eq.trans (e_iadd dL_law_816) ?_
  refine Eq.trans (e_sald dL_law_817 hs hn) (g_cj ?_)
  exact e_invv dL_law_818 cl_11_97 (kX9 hx) (by simp) rfl rfl (by simp)
theorem BL_law_821 {C : gC} {G : gG} {Q : gK} {σ : gM} {aS nS aX aM : Nat} {v3 : Int32} {s0 : Int32} (hs : (G aS).1 = 13) (hn : (G aS).2.1 = nS) (hx : isX9 G aX) (hm : isX10 G aM) : gw C G mL_law Q 821 [.ref aS, .ref aX, .ref aM, .int v3] [.int s0] σ = (vp_in (v3 + 1) nS ∧ (vp_in (v3 + 2) nS ∧ (vp_in (v3 + 3) nS ∧ (g_inv C mX10_would [.ref aM, .int (Int32.ofNat ((G aS).2.2 (v3 + 1).toNatClampNeg)), .int (Int32.ofNat ((G aS).2.2 (v3 + 2).toNatClampNeg)), .int (Int32.ofNat ((G aS).2.2 (v3 + 3).toNatClampNeg))] σ fun r σ' => gw C G mL_law Q 840 [.ref aS, .ref aX, .ref aM, .int v3] (r.toList ++ [.int s0]) σ')))) := by
  refine Eq.trans (e_aload_n dL_law_821 rfl) ?_
  refine Eq.trans (e_aload_n dL_law_822 rfl) ?_
  refine Eq.trans (e_iload_n dL_law_823 rfl) ?_
  refine Eq.trans (e_iconst (x := 1) dL_law_824 (by decide)) ?_
  refine Eq.trans (e_iadd dL_law_825) ?_
  refine Eq.trans (e_sald dL_law_826 hs hn) (g_cj ?_)
  refine Eq.trans (e_aload_n dL_law_827 rfl) ?_
  refine Eq.trans (e_iload_n dL_law_828 rfl) ?_
  refine Eq.trans (e_iconst (x := 2) dL_law_829 (by decide)) ?_
  refine Eq.trans (e_iadd dL_law_830) ?_
  refine Eq.trans (e_sald dL_law_831 hs hn) (g_cj ?_)
  refine Eq.trans (e_aload_n dL_law_832 rfl) ?_
  refine Eq.trans (e_iload_n dL_law_833 rfl) ?_
  refine Eq.trans (e_iconst (x := 3) dL_law_834 (by decide)) ?_
  refine Eq.trans (e_iadd dL_law_835) ?_
  refine Eq.trans (e_sald dL_law_836 hs hn) (g_cj ?_)
  exact e_invv dL_law_837 cl_11_100 (kX10 hm) (by simp) rfl rfl (by simp)
theorem BL_law_840 {C : gC} {G : gG} {Q : gK} {σ : gM} {aS nS aX aM : Nat} {v3 : Int32} {s0 : Int32} {s1 : Int32} (hs : (G aS).1 = 13) (hn : (G aS).2.1 = nS) (hx : isX9 G aX) (hm : isX10 G aM) : gw C G mL_law Q 840 [.ref aS, .ref aX, .ref aM, .int v3] [.int s1, .int s0] σ = (if s0 = s1 then gw C G mL_law Q 1250 [.ref aS, .ref aX, .ref aM, .int v3] [] σ else Q (some (.int 0)) σ) := by
  refine Eq.trans (e_ic_eq (t := 1250) dL_law_840 (by decide)) (g_ite ?_ ?_)
  · rfl
  · refine Eq.trans (e_iconst (x := 0) dL_law_843 (by decide)) ?_
    exact Eq.trans (e_iretz dL_law_844 rfl) (g_and (by decide))
theorem BL_law_845 {C : gC} {G : gG} {Q : gK} {σ : gM} {aS nS aX aM : Nat} {v3 : Int32} (hs : (G aS).1 = 13) (hn : (G aS).2.1 = nS) (hx : isX9 G aX) (hm : isX10 G aM) : gw C G mL_law Q 845 [.ref aS, .ref aX, .ref aM, .int v3] [] σ = (vp_in (v3 + 1) nS ∧ (vp_in (v3 + 2) nS ∧ (g_inv C mX9_least [.ref aX, .int (Int32.ofNat ((G aS).2.2 (v3 + 1).toNatClampNeg)), .int (Int32.ofNat ((G aS).2.2 (v3 + 2).toNatClampNeg))] σ fun r σ' => gw C G mL_law Q 859 [.ref aS, .ref aX, .ref aM, .int v3] (r.toList ++ []) σ'))) := by
  refine Eq.trans (e_aload_n dL_law_845 rfl) ?_
  refine Eq.trans (e_aload_n dL_law_846 rfl) ?_
  refine Eq.trans (e_iload_n dL_law_847 rfl) ?_
  refine Eq.trans (e_iconst (x := 1) dL_law_848 (by decide)) ?_
  refine Eq.trans (e_iadd dL_law_849) ?_
  refine Eq.trans (e_sald dL_law_850 hs hn) (g_cj ?_)
  refine Eq.trans (e_aload_n dL_law_851 rfl) ?_
  refine Eq.trans (e_iload_n dL_law_852 rfl) ?_
  refine Eq.trans (e_iconst (x := 2) dL_law_853 (by decide)) ?_
  refine Eq.trans (e_iadd dL_law_854) ?_
  refine Eq.trans (e_sald dL_law_855 hs hn) (g_cj ?_)
  exact e_invv dL_law_856 cl_11_101 (kX9 hx) (by simp) rfl rfl (by simp)
theorem BL_law_859 {C : gC} {G : gG} {Q : gK} {σ : gM} {aS nS aX aM : Nat} {v3 : Int32} {s0 : Int32} (hs : (G aS).1 = 13) (hn : (G aS).2.1 = nS) (hx : isX9 G aX) (hm : isX10 G aM) : gw C G mL_law Q 859 [.ref aS, .ref aX, .ref aM, .int v3] [.int s0] σ = (vp_in (v3 + 1) nS ∧ (vp_in (v3 + 2) nS ∧ (g_inv C mX10_least [.ref aM, .int (Int32.ofNat ((G aS).2.2 (v3 + 1).toNatClampNeg)), .int (Int32.ofNat ((G aS).2.2 (v3 + 2).toNatClampNeg))] σ fun r σ' => gw C G mL_law Q 873 [.ref aS, .ref aX, .ref aM, .int v3] (r.toList ++ [.int s0]) σ'))) := by
  refine Eq.trans (e_aload_n dL_law_859 rfl) ?_
  refine Eq.trans (e_aload_n dL_law_860 rfl) ?_
  refine Eq.trans (e_iload_n dL_law_861 rfl) ?_
  refine Eq.trans (e_iconst (x := 1) dL_law_862 (by decide)) ?_
  refine Eq.trans (e_iadd dL_law_863) ?_
  refine Eq.trans (e_sald dL_law_864 hs hn) (g_cj ?_)
  refine Eq.trans (e_aload_n dL_law_865 rfl) ?_
  refine Eq.trans (e_iload_n dL_law_866 rfl) ?_
  refine Eq.trans (e_iconst (x := 2) dL_law_867 (by decide)) ?_
  refine Eq.trans (e_iadd dL_law_868) ?_
  refine Eq.trans (e_sald dL_law_869 hs hn) (g_cj ?_)
  exact e_invv dL_law_870 cl_11_104 (kX10 hm) (by simp) rfl rfl (by simp)
theorem BL_law_873 {C : gC} {G : gG} {Q : gK} {σ : gM} {aS nS aX aM : Nat} {v3 : Int32} {s0 : Int32} {s1 : Int32} (hs : (G aS).1 = 13) (hn : (G aS).2.1 = nS) (hx : isX9 G aX) (hm : isX10 G aM) : gw C G mL_law Q 873 [.ref aS, .ref aX, .ref aM, .int v3] [.int s1, .int s0] σ = (if s0 = s1 then gw C G mL_law Q 1250 [.ref aS, .ref aX, .ref aM, .int v3] [] σ else Q (some (.int 0)) σ) := by
  refine Eq.trans (e_ic_eq (t := 1250) dL_law_873 (by decide)) (g_ite ?_ ?_)
  · rfl
  · refine Eq.trans (e_iconst (x := 0) dL_law_876 (by decide)) ?_
    exact Eq.trans (e_iretz dL_law_877 rfl) (g_and (by decide))
theorem BL_law_878 {C : gC} {G : gG} {Q : gK} {σ : gM} {aS nS aX aM : Nat} {v3 : Int32} (hs : (G aS).1 = 13) (hn : (G aS).2.1 = nS) (hx : isX9 G aX) (hm : isX10 G aM) : gw C G mL_law Q 878 [.ref aS, .ref aX, .ref aM, .int v3] [] σ = (vp_in (v3 + 1) nS ∧ (g_inv C mX9_leaked [.ref aX, .int (Int32.ofNat ((G aS).2.2 (v3 + 1).toNatClampNeg))] σ fun r σ' => gw C G mL_law Q 887 [.ref aS, .ref aX, .ref aM, .int v3] (r.toList ++ []) σ')) := by
  refine Eq.trans (e_aload_n dL_law_878 rfl) ?_
  refine Eq.trans (e_aload_n dL_law_879 rfl) ?_
  refine Eq.trans (e_iload_n dL_law_880 rfl) ?_
  refine Eq.trans (e_iconst (x := 1) dL_law_881 (by decide)) ?_
  refine Eq.trans (e_iadd dL_law_882) ?_
  refine Eq.trans (e_sald dL_law_883 hs hn) (g_cj ?_)
  exact e_invv dL_law_884 cl_11_105 (kX9 hx) (by simp) rfl rfl (by simp)
theorem BL_law_887 {C : gC} {G : gG} {Q : gK} {σ : gM} {aS nS aX aM : Nat} {v3 : Int32} {s0 : Int32} (hs : (G aS).1 = 13) (hn : (G aS).2.1 = nS) (hx : isX9 G aX) (hm : isX10 G aM) : gw C G mL_law Q 887 [.ref aS, .ref aX, .ref aM, .int v3] [.int s0] σ = (vp_in (v3 + 1) nS ∧ (g_inv C mX10_leaked [.ref aM, .int (Int32.ofNat ((G aS).2.2 (v3 + 1).toNatClampNeg))] σ fun r σ' => gw C G mL_law Q 896 [.ref aS, .ref aX, .ref aM, .int v3] (r.toList ++ [.int s0]) σ')) := by
  refine Eq.trans (e_aload_n dL_law_887 rfl) ?_
  refine Eq.trans (e_aload_n dL_law_888 rfl) ?_
  refine Eq.trans (e_iload_n dL_law_889 rfl) ?_
  refine Eq.trans (e_iconst (x := 1) dL_law_890 (by decide)) ?_
  refine Eq.trans (e_iadd dL_law_891) ?_
  refine Eq.trans (e_sald dL_law_892 hs hn) (g_cj ?_)
  exact e_invv dL_law_893 cl_11_108 (kX10 hm) (by simp) rfl rfl (by simp)
theorem BL_law_896 {C : gC} {G : gG} {Q : gK} {σ : gM} {aS nS aX aM : Nat} {v3 : Int32} {s0 : Int32} {s1 : Int32} (hs : (G aS).1 = 13) (hn : (G aS).2.1 = nS) (hx : isX9 G aX) (hm : isX10 G aM) : gw C G mL_law Q 896 [.ref aS, .ref aX, .ref aM, .int v3] [.int s1, .int s0] σ = (if s0 = s1 then gw C G mL_law Q 1250 [.ref aS, .ref aX, .ref aM, .int v3] [] σ else Q (some (.int 0)) σ) := by
  refine Eq.trans (e_ic_eq (t := 1250) dL_law_896 (by decide)) (g_ite ?_ ?_)
  · rfl
  · refine Eq.trans (e_iconst (x := 0) dL_law_899 (by decide)) ?_
    exact Eq.trans (e_iretz dL_law_900 rfl) (g_and (by decide))
theorem BL_law_901 {C : gC} {G : gG} {Q : gK} {σ : gM} {aS nS aX aM : Nat} {v3 : Int32} (hs : (G aS).1 = 13) (hn : (G aS).2.1 = nS) (hx : isX9 G aX) (hm : isX10 G aM) : gw C G mL_law Q 901 [.ref aS, .ref aX, .ref aM, .int v3] [] σ = (vp_in (v3 + 1) nS ∧ (vp_in (v3 + 2) nS ∧ (g_inv C mX9_path [.ref aX, .int (Int32.ofNat ((G aS).2.2 (v3 + 1).toNatClampNeg)), .int (Int32.ofNat ((G aS).2.2 (v3 + 2).toNatClampNeg))] σ fun r σ' => gw C G mL_law Q 915 [.ref aS, .ref aX, .ref aM, .int v3] (r.toList ++ []) σ'))) := by
  refine Eq.trans (e_aload_n dL_law_901 rfl) ?_
  refine Eq.trans (e_aload_n dL_law_902 rfl) ?_
  refine Eq.trans (e_iload_n dL_law_903 rfl) ?_
  refine Eq.trans (e_iconst (x := 1) dL_law_904 (by decide)) ?_
  refine Eq.trans (e_iadd dL_law_905) ?_
  refine Eq.trans (e_sald dL_law_906 hs hn) (g_cj ?_)
  refine Eq.trans (e_aload_n dL_law_907 rfl) ?_
  refine Eq.trans (e_iload_n dL_law_908 rfl) ?_
  refine Eq.trans (e_iconst (x := 2) dL_law_909 (by decide)) ?_
  refine Eq.trans (e_iadd dL_law_910) ?_
  refine Eq.trans (e_sald dL_law_911 hs hn) (g_cj ?_)
  exact e_invv dL_law_912 cl_11_109 (kX9 hx) (by simp) rfl rfl (by simp)
theorem BL_law_915 {C : gC} {G : gG} {Q : gK} {σ : gM} {aS nS aX aM : Nat} {v3 : Int32} {s0 : Int32} (hs : (G aS).1 = 13) (hn : (G aS).2.1 = nS) (hx : isX9 G aX) (hm : isX10 G aM) : gw C G mL_law Q 915 [.ref aS, .ref aX, .ref aM, .int v3] [.int s0] σ = (vp_in (v3 + 1) nS ∧ (vp_in (v3 + 2) nS ∧ (g_inv C mX10_path [.ref aM, .int (Int32.ofNat ((G aS).2.2 (v3 + 1).toNatClampNeg)), .int (Int32.ofNat ((G aS).2.2 (v3 + 2).toNatClampNeg))] σ fun r σ' => gw C G mL_law Q 929 [.ref aS, .ref aX, .ref aM, .int v3] (r.toList ++ [.int s0]) σ'))) := by
  refine Eq.trans (e_aload_n dL_law_915 rfl) ?_
  refine Eq.trans (e_aload_n dL_law_916 rfl) ?_
  refine Eq.trans (e_iload_n dL_law_917 rfl) ?_
  refine Eq.trans (e_iconst (x := 1) dL_law_918 (by decide)) ?_
  refine Eq.trans (e_iadd dL_law_919) ?_
  refine Eq.trans (e_sald dL_law_920 hs hn) (g_cj ?_)
  refine Eq.trans (e_aload_n dL_law_921 rfl) ?_
  refine Eq.trans (e_iload_n dL_law_922 rfl) ?_
  refine Eq.trans (e_iconst (x := 2) dL_law_923 (by decide)) ?_
  refine Eq.trans (e_iadd dL_law_924) ?_
  refine Eq.trans (e_sald dL_law_925 hs hn) (g_cj ?_)
  exact e_invv dL_law_926 cl_11_112 (kX10 hm) (by simp) rfl rfl (by simp)
theorem BL_law_929 {C : gC} {G : gG} {Q : gK} {σ : gM} {aS nS aX aM : Nat} {v3 : Int32} {s0 : Int32} {s1 : Int32} (hs : (G aS).1 = 13) (hn : (G aS).2.1 = nS) (hx : isX9 G aX) (hm : isX10 G aM) : gw C G mL_law Q 929 [.ref aS, .ref aX, .ref aM, .int v3] [.int s1, .int s0] σ = (if s0 = s1 then gw C G mL_law Q 1250 [.ref aS, .ref aX, .ref aM, .int v3] [] σ else Q (some (.int 0)) σ) := by
  refine Eq.trans (e_ic_eq (t := 1250) dL_law_929 (by decide)) (g_ite ?_ ?_)
  · rfl
  · refine Eq.trans (e_iconst (x := 0) dL_law_932 (by decide)) ?_
    exact Eq.trans (e_iretz dL_law_933 rfl) (g_and (by decide))
theorem BL_law_934 {C : gC} {G : gG} {Q : gK} {σ : gM} {aS nS aX aM : Nat} {v3 : Int32} (hs : (G aS).1 = 13) (hn : (G aS).2.1 = nS) (hx : isX9 G aX) (hm : isX10 G aM) : gw C G mL_law Q 934 [.ref aS, .ref aX, .ref aM, .int v3] [] σ = (vp_in (v3 + 1) nS ∧ (g_inv C mX9_epochs [.ref aX, .int (Int32.ofNat ((G aS).2.2 (v3 + 1).toNatClampNeg))] σ fun r σ' => gw C G mL_law Q 943 [.ref aS, .ref aX, .ref aM, .int v3] (r.toList ++ []) σ')) := by
  refine Eq.trans (e_aload_n dL_law_934 rfl) ?_
  refine Eq.trans (e_aload_n dL_law_935 rfl) ?_
  refine Eq.trans (e_iload_n dL_law_936 rfl) ?_
  refine Eq.trans (e_iconst (x := 1) dL_law_937 (by decide)) ?_
  refine Eq.trans (e_iadd dL_law_938) ?_
  refine Eq.trans (e_sald dL_law_939 hs hn) (g_cj ?_)
  exact e_invv dL_law_940 cl_11_113 (kX9 hx) (by simp) rfl rfl (by simp)
theorem BL_law_943 {C : gC} {G : gG} {Q : gK} {σ : gM} {aS nS aX aM : Nat} {v3 : Int32} {s0 : Int32} (hs : (G aS).1 = 13) (hn : (G aS).2.1 = nS) (hx : isX9 G aX) (hm : isX10 G aM) : gw C G mL_law Q 943 [.ref aS, .ref aX, .ref aM, .int v3] [.int s0] σ = (vp_in (v3 + 1) nS ∧ (g_inv C mX10_epochs [.ref aM, .int (Int32.ofNat ((G aS).2.2 (v3 + 1).toNatClampNeg))] σ fun r σ' => gw C G mL_law Q 952 [.ref aS, .ref aX, .ref aM, .int v3] (r.toList ++ [.int s0]) σ')) := by
  refine Eq.trans (e_aload_n dL_law_943 rfl) ?_
  refine Eq.trans (e_aload_n dL_law_944 rfl) ?_
  refine Eq.trans (e_iload_n dL_law_945 rfl) ?_
  refine Eq.trans (e_iconst (x := 1) dL_law_946 (by decide)) ?_
  refine Eq.trans (e_iadd dL_law_947) ?_
  refine Eq.trans (e_sald dL_law_948 hs hn) (g_cj ?_)
  exact e_invv dL_law_949 cl_11_116 (kX10 hm) (by simp) rfl rfl (by simp)
theorem BL_law_952 {C : gC} {G : gG} {Q : gK} {σ : gM} {aS nS aX aM : Nat} {v3 : Int32} {s0 : Int32} {s1 : Int32} (hs : (G aS).1 = 13) (hn : (G aS).2.1 = nS) (hx : isX9 G aX) (hm : isX10 G aM) : gw C G mL_law Q 952 [.ref aS, .ref aX, .ref aM, .int v3] [.int s1, .int s0] σ = (if s0 = s1 then gw C G mL_law Q 1250 [.ref aS, .ref aX, .ref aM, .int v3] [] σ else Q (some (.int 0)) σ) := by
  refine Eq.trans (e_ic_eq (t := 1250) dL_law_952 (by decide)) (g_ite ?_ ?_)
  · rfl
  · refine Eq.trans (e_iconst (x := 0) dL_law_955 (by decide)) ?_
    exact Eq.trans (e_iretz dL_law_956 rfl) (g_and (by decide))
theorem BL_law_957 {C : gC} {G : gG} {Q : gK} {σ : gM} {aS nS aX aM : Nat} {v3 : Int32} (hs : (G aS).1 = 13) (hn : (G aS).2.1 = nS) (hx : isX9 G aX) (hm : isX10 G aM) : gw C G mL_law Q 957 [.ref aS, .ref aX, .ref aM, .int v3] [] σ = (vp_in (v3 + 1) nS ∧ (vp_in (v3 + 2) nS ∧ (g_inv C mX9_plan [.ref aX, .int (Int32.ofNat ((G aS).2.2 (v3 + 1).toNatClampNeg)), .int (Int32.ofNat ((G aS).2.2 (v3 + 2).toNatClampNeg))] σ fun r σ' => gw C G mL_law Q 971 [.ref aS, .ref aX, .ref aM, .int v3] (r.toList ++ []) σ'))) := by
  refine Eq.trans (e_aload_n dL_law_957 rfl) ?_
  refine Eq.trans (e_aload_n dL_law_958 rfl) ?_
  refine Eq.trans (e_iload_n dL_law_959 rfl) ?_
  refine Eq.trans (e_iconst (x := 1) dL_law_960 (by decide)) ?_
  refine Eq.trans (e_iadd dL_law_961) ?_
  refine Eq.trans (e_sald dL_law_962 hs hn) (g_cj ?_)
  refine Eq.trans (e_aload_n dL_law_963 rfl) ?_
  refine Eq.trans (e_iload_n dL_law_964 rfl) ?_
  refine Eq.trans (e_iconst (x := 2) dL_law_965 (by decide)) ?_
  refine Eq.trans (e_iadd dL_law_966) ?_
  refine Eq.trans (e_sald dL_law_967 hs hn) (g_cj ?_)
  exact e_invv dL_law_968 cl_11_117 (kX9 hx) (by simp) rfl rfl (by simp)
theorem BL_law_971 {C : gC} {G : gG} {Q : gK} {σ : gM} {aS nS aX aM : Nat} {v3 : Int32} {s0 : Int32} (hs : (G aS).1 = 13) (hn : (G aS).2.1 = nS) (hx : isX9 G aX) (hm : isX10 G aM) : gw C G mL_law Q 971 [.ref aS, .ref aX, .ref aM, .int v3] [.int s0] σ = (vp_in (v3 + 1) nS ∧ (vp_in (v3 + 2) nS ∧ (g_inv C mX10_plan [.ref aM, .int (Int32.ofNat ((G aS).2.2 (v3 + 1).toNatClampNeg)), .int (Int32.ofNat ((G aS).2.2 (v3 + 2).toNatClampNeg))] σ fun r σ' => gw C G mL_law Q 985 [.ref aS, .ref aX, .ref aM, .int v3] (r.toList ++ [.int s0]) σ'))) := by
  refine Eq.trans (e_aload_n dL_law_971 rfl) ?_
  refine Eq.trans (e_aload_n dL_law_972 rfl) ?_
  refine Eq.trans (e_iload_n dL_law_973 rfl) ?_
  refine Eq.trans (e_iconst (x := 1) dL_law_974 (by decide)) ?_
  refine Eq.trans (e_iadd dL_law_975) ?_
  refine Eq.trans (e_sald dL_law_976 hs hn) (g_cj ?_)
  refine Eq.trans (e_aload_n dL_law_977 rfl) ?_
  refine Eq.trans (e_iload_n dL_law_978 rfl) ?_
  refine Eq.trans (e_iconst (x := 2) dL_law_979 (by decide)) ?_
  refine Eq.trans (e_iadd dL_law_980) ?_
  refine Eq.trans (e_sald dL_law_981 hs hn) (g_cj ?_)
  exact e_invv dL_law_982 cl_11_120 (kX10 hm) (by simp) rfl rfl (by simp)
theorem BL_law_985 {C : gC} {G : gG} {Q : gK} {σ : gM} {aS nS aX aM : Nat} {v3 : Int32} {s0 : Int32} {s1 : Int32} (hs : (G aS).1 = 13) (hn : (G aS).2.1 = nS) (hx : isX9 G aX) (hm : isX10 G aM) : gw C G mL_law Q 985 [.ref aS, .ref aX, .ref aM, .int v3] [.int s1, .int s0] σ = (if s0 = s1 then gw C G mL_law Q 1250 [.ref aS, .ref aX, .ref aM, .int v3] [] σ else Q (some (.int 0)) σ) := by
  refine Eq.trans (e_ic_eq (t := 1250) dL_law_985 (by decide)) (g_ite ?_ ?_)
  · rfl
  · refine Eq.trans (e_iconst (x := 0) dL_law_988 (by decide)) ?_
    exact Eq.trans (e_iretz dL_law_989 rfl) (g_and (by decide))
theorem BL_law_990 {C : gC} {G : gG} {Q : gK} {σ : gM} {aS nS aX aM : Nat} {v3 : Int32} (hs : (G aS).1 = 13) (hn : (G aS).2.1 = nS) (hx : isX9 G aX) (hm : isX10 G aM) : gw C G mL_law Q 990 [.ref aS, .ref aX, .ref aM, .int v3] [] σ = (vp_in (v3 + 1) nS ∧ (vp_in (v3 + 2) nS ∧ (g_inv C mX9_told [.ref aX, .int (Int32.ofNat ((G aS).2.2 (v3 + 1).toNatClampNeg)), .int (Int32.ofNat ((G aS).2.2 (v3 + 2).toNatClampNeg))] σ fun r σ' => gw C G mL_law Q 1004 [.ref aS, .ref aX, .ref aM, .int v3] (r.toList ++ []) σ'))) := by
  refine Eq.trans (e_aload_n dL_law_990 rfl) ?_
  refine Eq.trans (e_aload_n dL_law_991 rfl) ?_
  refine Eq.trans (e_iload_n dL_law_992 rfl) ?_
  refine Eq.trans (e_iconst (x := 1) dL_law_993 (by decide)) ?_
  refine Eq.trans (e_iadd dL_law_994) ?_
  refine Eq.trans (e_sald dL_law_995 hs hn) (g_cj ?_)
  refine Eq.trans (e_aload_n dL_law_996 rfl) ?_
  refine Eq.trans (e_iload_n dL_law_997 rfl) ?_
  refine Eq.trans (e_iconst (x := 2) dL_law_998 (by decide)) ?_
  refine Eq.trans (e_iadd dL_law_999) ?_
  refine Eq.trans (e_sald dL_law_1000 hs hn) (g_cj ?_)
  exact e_invv dL_law_1001 cl_11_121 (kX9 hx) (by simp) rfl rfl (by simp)
theorem BL_law_1004 {C : gC} {G : gG} {Q : gK} {σ : gM} {aS nS aX aM : Nat} {v3 : Int32} {s0 : Int32} (hs : (G aS).1 = 13) (hn : (G aS).2.1 = nS) (hx : isX9 G aX) (hm : isX10 G aM) : gw C G mL_law Q 1004 [.ref aS, .ref aX, .ref aM, .int v3] [.int s0] σ = (vp_in (v3 + 1) nS ∧ (vp_in (v3 + 2) nS ∧ (g_inv C mX10_told [.ref aM, .int (Int32.ofNat ((G aS).2.2 (v3 + 1).toNatClampNeg)), .int (Int32.ofNat ((G aS).2.2 (v3 + 2).toNatClampNeg))] σ fun r σ' => gw C G mL_law Q 1018 [.ref aS, .ref aX, .ref aM, .int v3] (r.toList ++ [.int s0]) σ'))) := by
  refine Eq.trans (e_aload_n dL_law_1004 rfl) ?_
  refine Eq.trans (e_aload_n dL_law_1005 rfl) ?_
  refine Eq.trans (e_iload_n dL_law_1006 rfl) ?_
  refine Eq.trans (e_iconst (x := 1) dL_law_1007 (by decide)) ?_
  refine Eq.trans (e_iadd dL_law_1008) ?_
  refine Eq.trans (e_sald dL_law_1009 hs hn) (g_cj ?_)
  refine Eq.trans (e_aload_n dL_law_1010 rfl) ?_
  refine Eq.trans (e_iload_n dL_law_1011 rfl) ?_
  refine Eq.trans (e_iconst (x := 2) dL_law_1012 (by decide)) ?_
  refine Eq.trans (e_iadd dL_law_1013) ?_
  refine Eq.trans (e_sald dL_law_1014 hs hn) (g_cj ?_)
  exact e_invv dL_law_1015 cl_11_124 (kX10 hm) (by simp) rfl rfl (by simp)
theorem BL_law_1018 {C : gC} {G : gG} {Q : gK} {σ : gM} {aS nS aX aM : Nat} {v3 : Int32} {s0 : Int32} {s1 : Int32} (hs : (G aS).1 = 13) (hn : (G aS).2.1 = nS) (hx : isX9 G aX) (hm : isX10 G aM) : gw C G mL_law Q 1018 [.ref aS, .ref aX, .ref aM, .int v3] [.int s1, .int s0] σ = (if s0 = s1 then gw C G mL_law Q 1250 [.ref aS, .ref aX, .ref aM, .int v3] [] σ else Q (some (.int 0)) σ) := by
  refine Eq.trans (e_ic_eq (t := 1250) dL_law_1018 (by decide)) (g_ite ?_ ?_)
  · rfl
  · refine Eq.trans (e_iconst (x := 0) dL_law_1021 (by decide)) ?_
    exact Eq.trans (e_iretz dL_law_1022 rfl) (g_and (by decide))
theorem BL_law_1023 {C : gC} {G : gG} {Q : gK} {σ : gM} {aS nS aX aM : Nat} {v3 : Int32} (hs : (G aS).1 = 13) (hn : (G aS).2.1 = nS) (hx : isX9 G aX) (hm : isX10 G aM) : gw C G mL_law Q 1023 [.ref aS, .ref aX, .ref aM, .int v3] [] σ = (vp_in (v3 + 1) nS ∧ (g_inv C mX9_feed [.ref aX, .int (Int32.ofNat ((G aS).2.2 (v3 + 1).toNatClampNeg))] σ fun r σ' => gw C G mL_law Q 1032 [.ref aS, .ref aX, .ref aM, .int v3] (r.toList ++ []) σ')) := by
  refine Eq.trans (e_aload_n dL_law_1023 rfl) ?_
  refine Eq.trans (e_aload_n dL_law_1024 rfl) ?_
  refine Eq.trans (e_iload_n dL_law_1025 rfl) ?_
  refine Eq.trans (e_iconst (x := 1) dL_law_1026 (by decide)) ?_
  refine Eq.trans (e_iadd dL_law_1027) ?_
  refine Eq.trans (e_sald dL_law_1028 hs hn) (g_cj ?_)
  exact e_invv dL_law_1029 cl_11_125 (kX9 hx) (by simp) rfl rfl (by simp)
theorem BL_law_1032 {C : gC} {G : gG} {Q : gK} {σ : gM} {aS nS aX aM : Nat} {v3 : Int32} {s0 : Int32} (hs : (G aS).1 = 13) (hn : (G aS).2.1 = nS) (hx : isX9 G aX) (hm : isX10 G aM) : gw C G mL_law Q 1032 [.ref aS, .ref aX, .ref aM, .int v3] [.int s0] σ = (vp_in (v3 + 1) nS ∧ (g_inv C mX10_feed [.ref aM, .int (Int32.ofNat ((G aS).2.2 (v3 + 1).toNatClampNeg))] σ fun r σ' => gw C G mL_law Q 1041 [.ref aS, .ref aX, .ref aM, .int v3] (r.toList ++ [.int s0]) σ')) := by
  refine Eq.trans (e_aload_n dL_law_1032 rfl) ?_
  refine Eq.trans (e_aload_n dL_law_1033 rfl) ?_
  refine Eq.trans (e_iload_n dL_law_1034 rfl) ?_
  refine Eq.trans (e_iconst (x := 1) dL_law_1035 (by decide)) ?_
  refine Eq.trans (e_iadd dL_law_1036) ?_
  refine Eq.trans (e_sald dL_law_1037 hs hn) (g_cj ?_)
  exact e_invv dL_law_1038 cl_11_128 (kX10 hm) (by simp) rfl rfl (by simp)
theorem BL_law_1041 {C : gC} {G : gG} {Q : gK} {σ : gM} {aS nS aX aM : Nat} {v3 : Int32} {s0 : Int32} {s1 : Int32} (hs : (G aS).1 = 13) (hn : (G aS).2.1 = nS) (hx : isX9 G aX) (hm : isX10 G aM) : gw C G mL_law Q 1041 [.ref aS, .ref aX, .ref aM, .int v3] [.int s1, .int s0] σ = (if s0 = s1 then gw C G mL_law Q 1250 [.ref aS, .ref aX, .ref aM, .int v3] [] σ else Q (some (.int 0)) σ) := by
  refine Eq.trans (e_ic_eq (t := 1250) dL_law_1041 (by decide)) (g_ite ?_ ?_)
  · rfl
  · refine Eq.trans (e_iconst (x := 0) dL_law_1044 (by decide)) ?_
    exact Eq.trans (e_iretz dL_law_1045 rfl) (g_and (by decide))
theorem BL_law_1046 {C : gC} {G : gG} {Q : gK} {σ : gM} {aS nS aX aM : Nat} {v3 : Int32} (hs : (G aS).1 = 13) (hn : (G aS).2.1 = nS) (hx : isX9 G aX) (hm : isX10 G aM) : gw C G mL_law Q 1046 [.ref aS, .ref aX, .ref aM, .int v3] [] σ = (g_inv C mX9_script [.ref aX] σ fun r σ' => gw C G mL_law Q 1050 [.ref aS, .ref aX, .ref aM, .int v3] (r.toList ++ []) σ') := by
  refine Eq.trans (e_aload_n dL_law_1046 rfl) ?_
  exact e_invv dL_law_1047 cl_11_129 (kX9 hx) (by simp) rfl rfl (by simp)
theorem BL_law_1050 {C : gC} {G : gG} {Q : gK} {σ : gM} {aS nS aX aM : Nat} {v3 : Int32} {s0 : Int32} (hs : (G aS).1 = 13) (hn : (G aS).2.1 = nS) (hx : isX9 G aX) (hm : isX10 G aM) : gw C G mL_law Q 1050 [.ref aS, .ref aX, .ref aM, .int v3] [.int s0] σ = (g_inv C mX10_script [.ref aM] σ fun r σ' => gw C G mL_law Q 1054 [.ref aS, .ref aX, .ref aM, .int v3] (r.toList ++ [.int s0]) σ') := by
  refine Eq.trans (e_aload_n dL_law_1050 rfl) ?_
  exact e_invv dL_law_1051 cl_11_132 (kX10 hm) (by simp) rfl rfl (by simp)
theorem BL_law_1054 {C : gC} {G : gG} {Q : gK} {σ : gM} {aS nS aX aM : Nat} {v3 : Int32} {s0 : Int32} {s1 : Int32} (hs : (G aS).1 = 13) (hn : (G aS).2.1 = nS) (hx : isX9 G aX) (hm : isX10 G aM) : gw C G mL_law Q 1054 [.ref aS, .ref aX, .ref aM, .int v3] [.int s1, .int s0] σ = (if s0 = s1 then gw C G mL_law Q 1250 [.ref aS, .ref aX, .ref aM, .int v3] [] σ else Q (some (.int 0)) σ) := by
  refine Eq.trans (e_ic_eq (t := 1250) dL_law_1054 (by decide)) (g_ite ?_ ?_)
  · rfl
  · refine Eq.trans (e_iconst (x := 0) dL_law_1057 (by decide)) ?_
    exact Eq.trans (e_iretz dL_law_1058 rfl) (g_and (by decide))
theorem BL_law_1059 {C : gC} {G : gG} {Q : gK} {σ : gM} {aS nS aX aM : Nat} {v3 : Int32} (hs : (G aS).1 = 13) (hn : (G aS).2.1 = nS) (hx : isX9 G aX) (hm : isX10 G aM) : gw C G mL_law Q 1059 [.ref aS, .ref aX, .ref aM, .int v3] [] σ = (g_inv C mX9_image [.ref aX] σ fun r σ' => gw C G mL_law Q 1063 [.ref aS, .ref aX, .ref aM, .int v3] (r.toList ++ []) σ') := by
  refine Eq.trans (e_aload_n dL_law_1059 rfl) ?_
  exact e_invv dL_law_1060 cl_11_133 (kX9 hx) (by simp) rfl rfl (by simp)
theorem BL_law_1063 {C : gC} {G : gG} {Q : gK} {σ : gM} {aS nS aX aM : Nat} {v3 : Int32} {s0 : Int32} (hs : (G aS).1 = 13) (hn : (G aS).2.1 = nS) (hx : isX9 G aX) (hm : isX10 G aM) : gw C G mL_law Q 1063 [.ref aS, .ref aX, .ref aM, .int v3] [.int s0] σ = (g_inv C mX10_image [.ref aM] σ fun r σ' => gw C G mL_law Q 1067 [.ref aS, .ref aX, .ref aM, .int v3] (r.toList ++ [.int s0]) σ') := by
  refine Eq.trans (e_aload_n dL_law_1063 rfl) ?_
  exact e_invv dL_law_1064 cl_11_136 (kX10 hm) (by simp) rfl rfl (by simp)
theorem BL_law_1067 {C : gC} {G : gG} {Q : gK} {σ : gM} {aS nS aX aM : Nat} {v3 : Int32} {s0 : Int32} {s1 : Int32} (hs : (G aS).1 = 13) (hn : (G aS).2.1 = nS) (hx : isX9 G aX) (hm : isX10 G aM) : gw C G mL_law Q 1067 [.ref aS, .ref aX, .ref aM, .int v3] [.int s1, .int s0] σ = (if s0 = s1 then gw C G mL_law Q 1250 [.ref aS, .ref aX, .ref aM, .int v3] [] σ else Q (some (.int 0)) σ) := by
  refine Eq.trans (e_ic_eq (t := 1250) dL_law_1067 (by decide)) (g_ite ?_ ?_)
  · rfl
  · refine Eq.trans (e_iconst (x := 0) dL_law_1070 (by decide)) ?_
    exact Eq.trans (e_iretz dL_law_1071 rfl) (g_and (by decide))
theorem BL_law_1072 {C : gC} {G : gG} {Q : gK} {σ : gM} {aS nS aX aM : Nat} {v3 : Int32} (hs : (G aS).1 = 13) (hn : (G aS).2.1 = nS) (hx : isX9 G aX) (hm : isX10 G aM) : gw C G mL_law Q 1072 [.ref aS, .ref aX, .ref aM, .int v3] [] σ = (g_inv C mX9_back [.ref aX] σ fun r σ' => gw C G mL_law Q 1076 [.ref aS, .ref aX, .ref aM, .int v3] (r.toList ++ []) σ') := by
  refine Eq.trans (e_aload_n dL_law_1072 rfl) ?_
  exact e_invv dL_law_1073 cl_11_137 (kX9 hx) (by simp) rfl rfl (by simp)
theorem BL_law_1076 {C : gC} {G : gG} {Q : gK} {σ : gM} {aS nS aX aM : Nat} {v3 : Int32} {s0 : Int32} (hs : (G aS).1 = 13) (hn : (G aS).2.1 = nS) (hx : isX9 G aX) (hm : isX10 G aM) : gw C G mL_law Q 1076 [.ref aS, .ref aX, .ref aM, .int v3] [.int s0] σ = (g_inv C mX10_back [.ref aM] σ fun r σ' => gw C G mL_law Q 1080 [.ref aS, .ref aX, .ref aM, .int v3] (r.toList ++ [.int s0]) σ') := by
  refine Eq.trans (e_aload_n dL_law_1076 rfl) ?_
  exact e_invv dL_law_1077 cl_11_140 (kX10 hm) (by simp) rfl rfl (by simp)
theorem BL_law_1080 {C : gC} {G : gG} {Q : gK} {σ : gM} {aS nS aX aM : Nat} {v3 : Int32} {s0 : Int32} {s1 : Int32} (hs : (G aS).1 = 13) (hn : (G aS).2.1 = nS) (hx : isX9 G aX) (hm : isX10 G aM) : gw C G mL_law Q 1080 [.ref aS, .ref aX, .ref aM, .int v3] [.int s1, .int s0] σ = (if s0 = s1 then gw C G mL_law Q 1250 [.ref aS, .ref aX, .ref aM, .int v3] [] σ else Q (some (.int 0)) σ) := by
  refine Eq.trans (e_ic_eq (t := 1250) dL_law_1080 (by decide)) (g_ite ?_ ?_)
  · rfl
  · refine Eq.trans (e_iconst (x := 0) dL_law_1083 (by decide)) ?_
    exact Eq.trans (e_iretz dL_law_1084 rfl) (g_and (by decide))
theorem BL_law_1085 {C : gC} {G : gG} {Q : gK} {σ : gM} {aS nS aX aM : Nat} {v3 : Int32} (hs : (G aS).1 = 13) (hn : (G aS).2.1 = nS) (hx : isX9 G aX) (hm : isX10 G aM) : gw C G mL_law Q 1085 [.ref aS, .ref aX, .ref aM, .int v3] [] σ = (vp_in (v3 + 1) nS ∧ (vp_in (v3 + 2) nS ∧ (g_inv C mX9_hold [.ref aX, .int (Int32.ofNat ((G aS).2.2 (v3 + 1).toNatClampNeg)), .int (Int32.ofNat ((G aS).2.2 (v3 + 2).toNatClampNeg))] σ fun r σ' => gw C G mL_law Q 1099 [.ref aS, .ref aX, .ref aM, .int v3] (r.toList ++ []) σ'))) := by
  refine Eq.trans (e_aload_n dL_law_1085 rfl) ?_
  refine Eq.trans (e_aload_n dL_law_1086 rfl) ?_
  refine Eq.trans (e_iload_n dL_law_1087 rfl) ?_
  refine Eq.trans (e_iconst (x := 1) dL_law_1088 (by decide)) ?_
  refine Eq.trans (e_iadd dL_law_1089) ?_
  refine Eq.trans (e_sald dL_law_1090 hs hn) (g_cj ?_)
  refine Eq.trans (e_aload_n dL_law_1091 rfl) ?_
  refine Eq.trans (e_iload_n dL_law_1092 rfl) ?_
  refine Eq.trans (e_iconst (x := 2) dL_law_1093 (by decide)) ?_
  refine Eq.trans (e_iadd dL_law_1094) ?_
  refine Eq.trans (e_sald dL_law_1095 hs hn) (g_cj ?_)
  exact e_invv dL_law_1096 cl_11_141 (kX9 hx) (by simp) rfl rfl (by simp)
theorem BL_law_1099 {C : gC} {G : gG} {Q : gK} {σ : gM} {aS nS aX aM : Nat} {v3 : Int32} {s0 : Int32} (hs : (G aS).1 = 13) (hn : (G aS).2.1 = nS) (hx : isX9 G aX) (hm : isX10 G aM) : gw C G mL_law Q 1099 [.ref aS, .ref aX, .ref aM, .int v3] [.int s0] σ = (vp_in (v3 + 1) nS ∧ (vp_in (v3 + 2) nS ∧ (g_inv C mX10_hold [.ref aM, .int (Int32.ofNat ((G aS).2.2 (v3 + 1).toNatClampNeg)), .int (Int32.ofNat ((G aS).2.2 (v3 + 2).toNatClampNeg))] σ fun r σ' => gw C G mL_law Q 1113 [.ref aS, .ref aX, .ref aM, .int v3] (r.toList ++ [.int s0]) σ'))) := by
  refine Eq.trans (e_aload_n dL_law_1099 rfl) ?_
  refine Eq.trans (e_aload_n dL_law_1100 rfl) ?_
  refine Eq.trans (e_iload_n dL_law_1101 rfl) ?_
  refine Eq.trans (e_iconst (x := 1) dL_law_1102 (by decide)) ?_
  refine Eq.trans (e_iadd dL_law_1103) ?_
  refine Eq.trans (e_sald dL_law_1104 hs hn) (g_cj ?_)
  refine Eq.trans (e_aload_n dL_law_1105 rfl) ?_
  refine Eq.trans (e_iload_n dL_law_1106 rfl) ?_
  refine Eq.trans (e_iconst (x := 2) dL_law_1107 (by decide)) ?_
  refine Eq.trans (e_iadd dL_law_1108) ?_
  refine Eq.trans (e_sald dL_law_1109 hs hn) (g_cj ?_)
  exact e_invv dL_law_1110 cl_11_144 (kX10 hm) (by simp) rfl rfl (by simp)
theorem BL_law_1113 {C : gC} {G : gG} {Q : gK} {σ : gM} {aS nS aX aM : Nat} {v3 : Int32} {s0 : Int32} {s1 : Int32} (hs : (G aS).1 = 13) (hn : (G aS).2.1 = nS) (hx : isX9 G aX) (hm : isX10 G aM) : gw C G mL_law Q 1113 [.ref aS, .ref aX, .ref aM, .int v3] [.int s1, .int s0] σ = (if s0 = s1 then gw C G mL_law Q 1250 [.ref aS, .ref aX, .ref aM, .int v3] [] σ else Q (some (.int 0)) σ) := by
  refine Eq.trans (e_ic_eq (t := 1250) dL_law_1113 (by decide)) (g_ite ?_ ?_)
  · rfl
  · refine Eq.trans (e_iconst (x := 0) dL_law_1116 (by decide)) ?_
    exact Eq.trans (e_iretz dL_law_1117 rfl) (g_and (by decide))
theorem BL_law_1118 {C : gC} {G : gG} {Q : gK} {σ : gM} {aS nS aX aM : Nat} {v3 : Int32} (hs : (G aS).1 = 13) (hn : (G aS).2.1 = nS) (hx : isX9 G aX) (hm : isX10 G aM) : gw C G mL_law Q 1118 [.ref aS, .ref aX, .ref aM, .int v3] [] σ = (vp_in (v3 + 1) nS ∧ (vp_in (v3 + 2) nS ∧ (g_inv C mX9_row [.ref aX, .int (Int32.ofNat ((G aS).2.2 (v3 + 1).toNatClampNeg)), .int (Int32.ofNat ((G aS).2.2 (v3 + 2).toNatClampNeg))] σ fun r σ' => gw C G mL_law Q 1132 [.ref aS, .ref aX, .ref aM, .int v3] (r.toList ++ []) σ'))) := by
  refine Eq.trans (e_aload_n dL_law_1118 rfl) ?_
  refine Eq.trans (e_aload_n dL_law_1119 rfl) ?_
  refine Eq.trans (e_iload_n dL_law_1120 rfl) ?_
  refine Eq.trans (e_iconst (x := 1) dL_law_1121 (by decide)) ?_
  refine Eq.trans (e_iadd dL_law_1122) ?_
  refine Eq.trans (e_sald dL_law_1123 hs hn) (g_cj ?_)
  refine Eq.trans (e_aload_n dL_law_1124 rfl) ?_
  refine Eq.trans (e_iload_n dL_law_1125 rfl) ?_
  refine Eq.trans (e_iconst (x := 2) dL_law_1126 (by decide)) ?_
  refine Eq.trans (e_iadd dL_law_1127) ?_
  refine Eq.trans (e_sald dL_law_1128 hs hn) (g_cj ?_)
  exact e_invv dL_law_1129 cl_11_145 (kX9 hx) (by simp) rfl rfl (by simp)
theorem BL_law_1132 {C : gC} {G : gG} {Q : gK} {σ : gM} {aS nS aX aM : Nat} {v3 : Int32} {s0 : Int32} (hs : (G aS).1 = 13) (hn : (G aS).2.1 = nS) (hx : isX9 G aX) (hm : isX10 G aM) : gw C G mL_law Q 1132 [.ref aS, .ref aX, .ref aM, .int v3] [.int s0] σ = (vp_in (v3 + 1) nS ∧ (vp_in (v3 + 2) nS ∧ (g_inv C mX10_row [.ref aM, .int (Int32.ofNat ((G aS).2.2 (v3 + 1).toNatClampNeg)), .int (Int32.ofNat ((G aS).2.2 (v3 + 2).toNatClampNeg))] σ fun r σ' => gw C G mL_law Q 1146 [.ref aS, .ref aX, .ref aM, .int v3] (r.toList ++ [.int s0]) σ'))) := by
  refine Eq.trans (e_aload_n dL_law_1132 rfl) ?_
  refine Eq.trans (e_aload_n dL_law_1133 rfl) ?_
  refine Eq.trans (e_iload_n dL_law_1134 rfl) ?_
  refine Eq.trans (e_iconst (x := 1) dL_law_1135 (by decide)) ?_
  refine Eq.trans (e_iadd dL_law_1136) ?_
  refine Eq.trans (e_sald dL_law_1137 hs hn) (g_cj ?_)
  refine Eq.trans (e_aload_n dL_law_1138 rfl) ?_
  refine Eq.trans (e_iload_n dL_law_1139 rfl) ?_
  refine Eq.trans (e_iconst (x := 2) dL_law_1140 (by decide)) ?_
  refine Eq.trans (e_iadd dL_law_1141) ?_
  refine Eq.trans (e_sald dL_law_1142 hs hn) (g_cj ?_)
  exact e_invv dL_law_1143 cl_11_148 (kX10 hm) (by simp) rfl rfl (by simp)
theorem BL_law_1146 {C : gC} {G : gG} {Q : gK} {σ : gM} {aS nS aX aM : Nat} {v3 : Int32} {s0 : Int32} {s1 : Int32} (hs : (G aS).1 = 13) (hn : (G aS).2.1 = nS) (hx : isX9 G aX) (hm : isX10 G aM) : gw C G mL_law Q 1146 [.ref aS, .ref aX, .ref aM, .int v3] [.int s1, .int s0] σ = (if s0 = s1 then gw C G mL_law Q 1250 [.ref aS, .ref aX, .ref aM, .int v3] [] σ else Q (some (.int 0)) σ) := by
  refine Eq.trans (e_ic_eq (t := 1250) dL_law_1146 (by decide)) (g_ite ?_ ?_)
  · rfl
  · refine Eq.trans (e_iconst (x := 0) dL_law_1149 (by decide)) ?_
    exact Eq.trans (e_iretz dL_law_1150 rfl) (g_and (by decide))
theorem BL_law_1151 {C : gC} {G : gG} {Q : gK} {σ : gM} {aS nS aX aM : Nat} {v3 : Int32} (hs : (G aS).1 = 13) (hn : (G aS).2.1 = nS) (hx : isX9 G aX) (hm : isX10 G aM) : gw C G mL_law Q 1151 [.ref aS, .ref aX, .ref aM, .int v3] [] σ = (vp_in (v3 + 1) nS ∧ (vp_in (v3 + 2) nS ∧ (vp_in (v3 + 3) nS ∧ (g_inv C mX9_put [.ref aX, .int (Int32.ofNat ((G aS).2.2 (v3 + 1).toNatClampNeg)), .int (Int32.ofNat ((G aS).2.2 (v3 + 2).toNatClampNeg)), .int (Int32.ofNat ((G aS).2.2 (v3 + 3).toNatClampNeg))] σ fun r σ' => gw C G mL_law Q 1170 [.ref aS, .ref aX, .ref aM, .int v3] (r.toList ++ []) σ')))) := by
  refine Eq.trans (e_aload_n dL_law_1151 rfl) ?_
  refine Eq.trans (e_aload_n dL_law_1152 rfl) ?_
  refine Eq.trans (e_iload_n dL_law_1153 rfl) ?_
  refine Eq.trans (e_iconst (x := 1) dL_law_1154 (by decide)) ?_
  refine Eq.trans (e_iadd dL_law_1155) ?_
  refine Eq.trans (e_sald dL_law_1156 hs hn) (g_cj ?_)
  refine Eq.trans (e_aload_n dL_law_1157 rfl) ?_
  refine Eq.trans (e_iload_n dL_law_1158 rfl) ?_
  refine Eq.trans (e_iconst (x := 2) dL_law_1159 (by decide)) ?_
  refine Eq.trans (e_iadd dL_law_1160) ?_
  refine Eq.trans (e_sald dL_law_1161 hs hn) (g_cj ?_)
  refine Eq.trans (e_aload_n dL_law_1162 rfl) ?_
  refine Eq.trans (e_iload_n dL_law_1163 rfl) ?_
  refine Eq.trans (e_iconst (x := 3) dL_law_1164 (by decide)) ?_
  refine Eq.trans (e_iadd dL_law_1165) ?_
  refine Eq.trans (e_sald dL_law_1166 hs hn) (g_cj ?_)
  exact e_invv dL_law_1167 cl_11_149 (kX9 hx) (by simp) rfl rfl (by simp)
theorem BL_law_1170 {C : gC} {G : gG} {Q : gK} {σ : gM} {aS nS aX aM : Nat} {v3 : Int32} {s0 : Int32} (hs : (G aS).1 = 13) (hn : (G aS).2.1 = nS) (hx : isX9 G aX) (hm : isX10 G aM) : gw C G mL_law Q 1170 [.ref aS, .ref aX, .ref aM, .int v3] [.int s0] σ = (vp_in (v3 + 1) nS ∧ (vp_in (v3 + 2) nS ∧ (vp_in (v3 + 3) nS ∧ (g_inv C mX10_put [.ref aM, .int (Int32.ofNat ((G aS).2.2 (v3 + 1).toNatClampNeg)), .int (Int32.ofNat ((G aS).2.2 (v3 + 2).toNatClampNeg)), .int (Int32.ofNat ((G aS).2.2 (v3 + 3).toNatClampNeg))] σ fun r σ' => gw C G mL_law Q 1189 [.ref aS, .ref aX, .ref aM, .int v3] (r.toList ++ [.int s0]) σ')))) := by
  refine Eq.trans (e_aload_n dL_law_1170 rfl) ?_
  refine Eq.trans (e_aload_n dL_law_1171 rfl) ?_
  refine Eq.trans (e_iload_n dL_law_1172 rfl) ?_
  refine Eq.trans (e_iconst (x := 1) dL_law_1173 (by decide)) ?_
  refine Eq.trans (e_iadd dL_law_1174) ?_
  refine Eq.trans (e_sald dL_law_1175 hs hn) (g_cj ?_)
  refine Eq.trans (e_aload_n dL_law_1176 rfl) ?_
  refine Eq.trans (e_iload_n dL_law_1177 rfl) ?_
  refine Eq.trans (e_iconst (x := 2) dL_law_1178 (by decide)) ?_
  refine Eq.trans (e_iadd dL_law_1179) ?_
  refine Eq.trans (e_sald dL_law_1180 hs hn) (g_cj ?_)
  refine Eq.trans (e_aload_n dL_law_1181 rfl) ?_
  refine Eq.trans (e_iload_n dL_law_1182 rfl) ?_
  refine Eq.trans (e_iconst (x := 3) dL_law_1183 (by decide)) ?_
  refine Eq.trans (e_iadd dL_law_1184) ?_
  refine Eq.trans (e_sald dL_law_1185 hs hn) (g_cj ?_)
  exact e_invv dL_law_1186 cl_11_152 (kX10 hm) (by simp) rfl rfl (by simp)
theorem BL_law_1189 {C : gC} {G : gG} {Q : gK} {σ : gM} {aS nS aX aM : Nat} {v3 : Int32} {s0 : Int32} {s1 : Int32} (hs : (G aS).1 = 13) (hn : (G aS).2.1 = nS) (hx : isX9 G aX) (hm : isX10 G aM) : gw C G mL_law Q 1189 [.ref aS, .ref aX, .ref aM, .int v3] [.int s1, .int s0] σ = (if s0 = s1 then gw C G mL_law Q 1250 [.ref aS, .ref aX, .ref aM, .int v3] [] σ else Q (some (.int 0)) σ) := by
  refine Eq.trans (e_ic_eq (t := 1250) dL_law_1189 (by decide)) (g_ite ?_ ?_)
  · rfl
  · refine Eq.trans (e_iconst (x := 0) dL_law_1192 (by decide)) ?_
    exact Eq.trans (e_iretz dL_law_1193 rfl) (g_and (by decide))
theorem BL_law_1194 {C : gC} {G : gG} {Q : gK} {σ : gM} {aS nS aX aM : Nat} {v3 : Int32} (hs : (G aS).1 = 13) (hn : (G aS).2.1 = nS) (hx : isX9 G aX) (hm : isX10 G aM) : gw C G mL_law Q 1194 [.ref aS, .ref aX, .ref aM, .int v3] [] σ = (vp_in (v3 + 1) nS ∧ (vp_in (v3 + 2) nS ∧ (g_inv C mX9_tells [.ref aX, .int (Int32.ofNat ((G aS).2.2 (v3 + 1).toNatClampNeg)), .int (Int32.ofNat ((G aS).2.2 (v3 + 2).toNatClampNeg))] σ fun r σ' => gw C G mL_law Q 1208 [.ref aS, .ref aX, .ref aM, .int v3] (r.toList ++ []) σ'))) := by
  refine Eq.trans (e_aload_n dL_law_1194 rfl) ?_
  refine Eq.trans (e_aload_n dL_law_1195 rfl) ?_
  refine Eq.trans (e_iload_n dL_law_1196 rfl) ?_
  refine Eq.trans (e_iconst (x := 1) dL_law_1197 (by decide)) ?_
  refine Eq.trans (e_iadd dL_law_1198) ?_
  refine Eq.trans (e_sald dL_law_1199 hs hn) (g_cj ?_)
  refine Eq.trans (e_aload_n dL_law_1200 rfl) ?_
  refine Eq.trans (e_iload_n dL_law_1201 rfl) ?_
  refine Eq.trans (e_iconst (x := 2) dL_law_1202 (by decide)) ?_
  refine Eq.trans (e_iadd dL_law_1203) ?_
  refine Eq.trans (e_sald dL_law_1204 hs hn) (g_cj ?_)
  exact e_invv dL_law_1205 cl_11_153 (kX9 hx) (by simp) rfl rfl (by simp)
theorem BL_law_1208 {C : gC} {G : gG} {Q : gK} {σ : gM} {aS nS aX aM : Nat} {v3 : Int32} {s0 : Int32} (hs : (G aS).1 = 13) (hn : (G aS).2.1 = nS) (hx : isX9 G aX) (hm : isX10 G aM) : gw C G mL_law Q 1208 [.ref aS, .ref aX, .ref aM, .int v3] [.int s0] σ = (vp_in (v3 + 1) nS ∧ (vp_in (v3 + 2) nS ∧ (g_inv C mX10_tells [.ref aM, .int (Int32.ofNat ((G aS).2.2 (v3 + 1).toNatClampNeg)), .int (Int32.ofNat ((G aS).2.2 (v3 + 2).toNatClampNeg))] σ fun r σ' => gw C G mL_law Q 1222 [.ref aS, .ref aX, .ref aM, .int v3] (r.toList ++ [.int s0]) σ'))) := by
  refine Eq.trans (e_aload_n dL_law_1208 rfl) ?_
  refine Eq.trans (e_aload_n dL_law_1209 rfl) ?_
  refine Eq.trans (e_iload_n dL_law_1210 rfl) ?_
  refine Eq.trans (e_iconst (x := 1) dL_law_1211 (by decide)) ?_
  refine Eq.trans (e_iadd dL_law_1212) ?_
  refine Eq.trans (e_sald dL_law_1213 hs hn) (g_cj ?_)
  refine Eq.trans (e_aload_n dL_law_1214 rfl) ?_
  refine Eq.trans (e_iload_n dL_law_1215 rfl) ?_
  refine Eq.trans (e_iconst (x := 2) dL_law_1216 (by decide)) ?_
  refine Eq.trans (e_iadd dL_law_1217) ?_
  refine Eq.trans (e_sald dL_law_1218 hs hn) (g_cj ?_)
  exact e_invv dL_law_1219 cl_11_156 (kX10 hm) (by simp) rfl rfl (by simp)
theorem BL_law_1222 {C : gC} {G : gG} {Q : gK} {σ : gM} {aS nS aX aM : Nat} {v3 : Int32} {s0 : Int32} {s1 : Int32} (hs : (G aS).1 = 13) (hn : (G aS).2.1 = nS) (hx : isX9 G aX) (hm : isX10 G aM) : gw C G mL_law Q 1222 [.ref aS, .ref aX, .ref aM, .int v3] [.int s1, .int s0] σ = (if s0 = s1 then gw C G mL_law Q 1250 [.ref aS, .ref aX, .ref aM, .int v3] [] σ else Q (some (.int 0)) σ) := by
  refine Eq.trans (e_ic_eq (t := 1250) dL_law_1222 (by decide)) (g_ite ?_ ?_)
  · rfl
  · refine Eq.trans (e_iconst (x := 0) dL_law_1225 (by decide)) ?_
    exact Eq.trans (e_iretz dL_law_1226 rfl) (g_and (by decide))
theorem BL_law_1227 {C : gC} {G : gG} {Q : gK} {σ : gM} {aS nS aX aM : Nat} {v3 : Int32} (hs : (G aS).1 = 13) (hn : (G aS).2.1 = nS) (hx : isX9 G aX) (hm : isX10 G aM) : gw C G mL_law Q 1227 [.ref aS, .ref aX, .ref aM, .int v3] [] σ = (vp_in (v3 + 1) nS ∧ (g_inv C mX9_count [.ref aX, .int (Int32.ofNat ((G aS).2.2 (v3 + 1).toNatClampNeg))] σ fun r σ' => gw C G mL_law Q 1236 [.ref aS, .ref aX, .ref aM, .int v3] (r.toList ++ []) σ')) := by
  refine Eq.trans (e_aload_n dL_law_1227 rfl) ?_
  refine Eq.trans (e_aload_n dL_law_1228 rfl) ?_
  refine Eq.trans (e_iload_n dL_law_1229 rfl) ?_
  refine Eq.trans (e_iconst (x := 1) dL_law_1230 (by decide)) ?_
  refine Eq.trans (e_iadd dL_law_1231) ?_
  refine Eq.trans (e_sald dL_law_1232 hs hn) (g_cj ?_)
  exact e_invv dL_law_1233 cl_11_157 (kX9 hx) (by simp) rfl rfl (by simp)
theorem BL_law_1236 {C : gC} {G : gG} {Q : gK} {σ : gM} {aS nS aX aM : Nat} {v3 : Int32} {s0 : Int32} (hs : (G aS).1 = 13) (hn : (G aS).2.1 = nS) (hx : isX9 G aX) (hm : isX10 G aM) : gw C G mL_law Q 1236 [.ref aS, .ref aX, .ref aM, .int v3] [.int s0] σ = (vp_in (v3 + 1) nS ∧ (g_inv C mX10_count [.ref aM, .int (Int32.ofNat ((G aS).2.2 (v3 + 1).toNatClampNeg))] σ fun r σ' => gw C G mL_law Q 1245 [.ref aS, .ref aX, .ref aM, .int v3] (r.toList ++ [.int s0]) σ')) := by
  refine Eq.trans (e_aload_n dL_law_1236 rfl) ?_
  refine Eq.trans (e_aload_n dL_law_1237 rfl) ?_
  refine Eq.trans (e_iload_n dL_law_1238 rfl) ?_
  refine Eq.trans (e_iconst (x := 1) dL_law_1239 (by decide)) ?_
  refine Eq.trans (e_iadd dL_law_1240) ?_
  refine Eq.trans (e_sald dL_law_1241 hs hn) (g_cj ?_)
  exact e_invv dL_law_1242 cl_11_160 (kX10 hm) (by simp) rfl rfl (by simp)
theorem BL_law_1245 {C : gC} {G : gG} {Q : gK} {σ : gM} {aS nS aX aM : Nat} {v3 : Int32} {s0 : Int32} {s1 : Int32} (hs : (G aS).1 = 13) (hn : (G aS).2.1 = nS) (hx : isX9 G aX) (hm : isX10 G aM) : gw C G mL_law Q 1245 [.ref aS, .ref aX, .ref aM, .int v3] [.int s1, .int s0] σ = (if s0 = s1 then gw C G mL_law Q 1250 [.ref aS, .ref aX, .ref aM, .int v3] [] σ else Q (some (.int 0)) σ) := by
  refine Eq.trans (e_ic_eq (t := 1250) dL_law_1245 (by decide)) (g_ite ?_ ?_)
  · rfl
  · refine Eq.trans (e_iconst (x := 0) dL_law_1248 (by decide)) ?_
    exact Eq.trans (e_iretz dL_law_1249 rfl) (g_and (by decide))
theorem BL_law_1250 {C : gC} {G : gG} {Q : gK} {σ : gM} {aS nS aX aM : Nat} {v3 : Int32} (hs : (G aS).1 = 13) (hn : (G aS).2.1 = nS) (hx : isX9 G aX) (hm : isX10 G aM) : gw C G mL_law Q 1250 [.ref aS, .ref aX, .ref aM, .int v3] [] σ = gw C G mL_law Q 18 [.ref aS, .ref aX, .ref aM, .int (v3 + 4)] [] σ := by
  refine Eq.trans (e_iinc (y := 4) dL_law_1250 rfl (by decide)) ?_
  refine Eq.trans (e_goto (t := 18) dL_law_1253 (by decide)) ?_
  rfl
