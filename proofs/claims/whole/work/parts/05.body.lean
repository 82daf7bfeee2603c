section GB
variable {p : Program} {l : Launch} {e : Env} {R : Room} {s : State} {m : MethodId} {args : Array Value} {below : List Frame} {meth : Method} {c : Code} {cells slots : Nat} {Z : State → Prop}
variable {A : Nat → Prop} {H0 : Heap}
variable {D : va_G} {G : gG} {cA : Nat → ClassId} {ad : Nat → Nat} {n : Nat} {tys : List (ClassId × FieldType)}
variable {fl : Nat → Nat → Option (Nat × Nat × Nat)} {cl : Nat → Nat → Option (Nat × gY × Nat)} {cn : Nat → Nat → Option Int32} {C : gC} {M : gY} {Q : gK}
/-- what the small machine's step stands for -/
def gRel (p : Program) (l : Launch) (e : Env) (R : Room) (s : State) (m : MethodId) (args : Array Value) (below : List Frame) (meth : Method) (c : Code) (cells slots : Nat) (Z : State → Prop) (A : Nat → Prop) (H0 : Heap) (D : va_G) (G : gG) (cA : Nat → ClassId) (ad : Nat → Nat) (n nL : Nat) : gP := fun pc ls st σ =>
  ∀ (H : Heap) (locs : List Loc) (S : Array Slot), lv_has S nL (gLv ad ls) → ls.length = nL → (∀ v ∈ st, gOk v = true) → va_P D vwCl (gW G cA ad n σ) H → va_S A H0 H locs → W p l e R s m args below meth c H locs cells slots Z (F0 m pc S (st.map (gV ad)))
theorem gk_i {x : Int32} {st : List Value} (h : ∀ v ∈ st, gOk v = true) : ∀ v ∈ Value.int x :: st, gOk v = true := List.forall_mem_cons.mpr ⟨rfl, h⟩
theorem gk_r {x : Nat} {st : List Value} (h : ∀ v ∈ st, gOk v = true) : ∀ v ∈ Value.ref x :: st, gOk v = true := List.forall_mem_cons.mpr ⟨rfl, h⟩
theorem gk_t {w : Value} {st : List Value} (h : ∀ v ∈ w :: st, gOk v = true) : ∀ v ∈ st, gOk v = true := (List.forall_mem_cons.mp h).2
theorem gk_h {w : Value} {st : List Value} (h : ∀ v ∈ w :: st, gOk v = true) : gOk w = true := (List.forall_mem_cons.mp h).1
theorem gk_c {w : Value} {st : List Value} (hw : gOk w = true) (h : ∀ v ∈ st, gOk v = true) : ∀ v ∈ w :: st, gOk v = true := List.forall_mem_cons.mpr ⟨hw, h⟩
theorem g_jt {pc : Nat} {o : Int} (h : 0 ≤ (pc : Int) + o) : (pc : Int) + o = (((pc : Int) + o).toNat : Int) := (Int.toNat_of_nonneg h).symm
theorem gk_take {k : Nat} {st : List Value} (h : ∀ v ∈ st, gOk v = true) : ∀ v ∈ (st.take k).reverse, gOk v = true := fun v hv => h v (List.mem_of_mem_take (List.mem_reverse.mp hv))
theorem gk_drop {k : Nat} {st : List Value} (h : ∀ v ∈ st, gOk v = true) : ∀ v ∈ st.drop k, gOk v = true := fun v hv => h v (List.mem_of_mem_drop hv)
theorem g_room {pc : Nat} {ls : Array Slot} {st0 st : List Value} (h : ∀ v ∈ st, gOk v = true) (hl : st.length ≤ 8) : 2 * (F0 m pc ls st0).monitorRoom + ((st.map (gV ad)).map fun v => v.category).sum ≤ 8 := lv_room (by rw [gOk_sum st h]; exact hl)
theorem gL_st {nL i : Nat} {v : Value} {ls : List Value} {S : Array Slot} (h : lv_has S nL ((i, gV ad v) :: (gLv ad ls).filter (fun q => !(q.1 == i) && !(q.1 + 1 == i && q.2.category == 2)))) : lv_has S nL (gLv ad (ls.set i v)) := gLv_set h
theorem gk_ret {r : Option Value} {st : List Value} (hr : r = none ∨ ∃ x, r = some (.int x)) (h : ∀ v ∈ st, gOk v = true) : ∀ v ∈ r.toList ++ st, gOk v = true := by
  rcases hr with rfl | ⟨x, rfl⟩
  · exact h
  · exact gk_i h
theorem gk_retm {r : Option Value} {st : List Value} (hr : r = none ∨ ∃ x, r = some (.int x)) : (r.toList ++ st).map (gV ad) = r.toList ++ st.map (gV ad) := by
  rcases hr with rfl | ⟨x, rfl⟩ <;> rfl
theorem gWs_in {Y : gY} {np : Nat} (hM : gOkM Y np) : ∀ w ∈ gWs Y, w ∈ gT ∧ ((w.onTables && w.keeps) = true ∨ ∃ ty, w = .arrayClass ty) := fun w hw => by
  have h1 : w ∈ gT := by
    rcases List.mem_cons.mp hw with rfl | hw
    · exact hM.1
    · exact hw
  exact ⟨h1, good_of_word (List.mem_filter.mp h1).2⟩
theorem gNp {Y : gY} {np : Nat} (hM : gOkM Y np) : ∀ sig, parseMethodDescriptor Y.1.desc = some sig → np = sig.parameters.length := fun sig h => by
  have h2 := hM.2.2.2.1
  rw [h] at h2
  exact (Option.some.inj h2).symm
set_option maxHeartbeats 4000000 in
theorem g_step (hx : p.tables.exec = Jvm.exec) (hb : c.code = M.2.1) (hml : c.maxLocals = M.2.2.1) (hown : s.vm.findClass (gRn M.2.2.2.2) = some m.cls) (hts : ∀ w ∈ gT, w.before args s = true)
    (hT : gOkT fl cl cn) (hWd : gWorld G n cA tys) (hNs : gNw s) (hK : va_K D vwCl tys s) (hD : va_D A (gW G cA ad n (fun _ _ => 0))) (hA : ∀ q, H0.size ≤ q → A q)
    (hX : ∀ i, (G i).1 = 13 → va_X (ad i) (G i).2.1 (fun j => Int32.ofNat ((G i).2.2 j)) s H0 ∧ ad i < H0.size ∧ ¬ A (ad i))
    {rm : Room} (hrc : rm.cells = 0) (hrs : rm.slots = 0) (hRf : rm.frames + 1 ≤ R.frames) (hRl : 37 + rm.locals ≤ R.locals) (hcs : cells ≤ R.cells ∧ slots ≤ R.slots)
    (hC : ∀ Y np as σ q sz, gOkM Y np → (∀ v ∈ as, gOk v = true) → C Y as σ q → Met l Y.1 (gWs Y) rm (va_Pc (as.map (gV ad)) (gB D G cA ad n tys sz σ)) (gQc D G cA ad n q (va_A (gW G cA ad n σ) sz)) 0 0 (va_A (gW G cA ad n σ) sz))
    (hZ1 : ∀ pc S x σ H locs, decode M.2.1 pc = .ok (.ireturn, 1) → g_rt M.2.2.2.1 x → Q (some (.int x)) σ → va_P D vwCl (gW G cA ad n σ) H → va_S A H0 H locs → W p l e R s m args below meth c H locs cells slots Z (F0 m pc S [.int x]))
    (hZ0 : ∀ pc S σ H locs, decode M.2.1 pc = .ok (.return_, 1) → M.2.2.2.1 = none → Q none σ → va_P D vwCl (gW G cA ad n σ) H → va_S A H0 H locs → W p l e R s m args below meth c H locs cells slots Z (F0 m pc S []))
    {pc : Nat} {ls st : List Value} {σ : gM} (h : gStep fl cl cn C G M Q (gRel p l e R s m args below meth c cells slots Z A H0 D G cA ad n M.2.2.1) pc ls st σ) : gRel p l e R s m args below meth c cells slots Z A H0 D G cA ad n M.2.2.1 pc ls st σ := by
  intro H locs S hL hlen hst hP hS
  obtain ⟨i, k1, hd, hn, h⟩ := h
  have hDs : va_D A (gW G cA ad n σ) := gW_D hD
  have hsz : c.maxLocals = S.size := by rw [hml, hL.1]
  cases i with
  | iload_n k => cases hn; obtain ⟨x, hl, h⟩ := g_ldi_e h; exact lv_iload_n hx hb hd rfl (gLv_at hL hl rfl) (h H locs S hL hlen (gk_i hst) hP hS)
  | iload k => cases hn; obtain ⟨x, hl, h⟩ := g_ldi_e h; exact lv_iload hx hb hd (gLv_at hL hl rfl) (h H locs S hL hlen (gk_i hst) hP hS)
  | aload_n k => cases hn; obtain ⟨x, hl, h⟩ := g_ldr_e h; exact lv_aload_n hx hb hd rfl (gLv_at hL hl rfl) (h H locs S hL hlen (gk_r hst) hP hS)
  | iconst v => cases hn; exact lv_iconst hx hb hd rfl (h H locs S hL hlen (gk_i hst) hP hS)
  | bipush v => cases hn; exact lv_bipush hx hb hd rfl (h H locs S hL hlen (gk_i hst) hP hS)
  | sipush v => cases hn; exact lv_sipush hx hb hd rfl (h H locs S hL hlen (gk_i hst) hP hS)
  | ldc k => cases hn; obtain ⟨v, h1, h⟩ := h; exact lv_ldc hx hb hown (hts _ (hT.2.2 _ _ _ h1)) hd (h H locs S hL hlen (gk_i hst) hP hS)
  | istore_n k =>
    cases hn; obtain ⟨x, s2, rfl, h1, h⟩ := g_1_e h
    exact lv_istore_n hx hb hd rfl hL (by rw [← hlen]; exact h1) rfl (fun S' h' => h H locs S' (gL_st (v := .int x) h') (by rw [List.length_set]; exact hlen) (gk_t hst) hP hS)
  | istore k =>
    cases hn; obtain ⟨x, s2, rfl, h1, h⟩ := g_1_e h
    exact lv_istore hx hb hd hL (by rw [← hlen]; exact h1) rfl (fun S' h' => h H locs S' (gL_st (v := .int x) h') (by rw [List.length_set]; exact hlen) (gk_t hst) hP hS)
  | iinc k v =>
    cases hn; obtain ⟨x, hl, h⟩ := g_ldi_e h
    obtain ⟨j, hj⟩ := List.mem_iff_getElem?.mp (gLv_of (ad := ad) hl rfl)
    exact lv_iinc hx hb hd hL (k := j) hj rfl (by rw [← hlen]; exact (List.getElem?_eq_some_iff.mp hl).1) rfl (fun S' h' => h H locs S' (gL_st (v := .int (x + Int32.ofInt v)) h') (by rw [List.length_set]; exact hlen) hst hP hS)
  | iadd => cases hn; obtain ⟨x, y, s2, rfl, h⟩ := g_2_e h; exact lv_iadd hx hb hd (h H locs S hL hlen (gk_i (gk_t (gk_t hst))) hP hS)
  | isub => cases hn; obtain ⟨x, y, s2, rfl, h⟩ := g_2_e h; exact lv_isub hx hb hd (h H locs S hL hlen (gk_i (gk_t (gk_t hst))) hP hS)
  | imul => cases hn; obtain ⟨x, y, s2, rfl, h⟩ := g_2_e h; exact lv_imul hx hb hd (h H locs S hL hlen (gk_i (gk_t (gk_t hst))) hP hS)
  | iand => cases hn; obtain ⟨x, y, s2, rfl, h⟩ := g_2_e h; exact lv_iand hx hb hd (h H locs S hL hlen (gk_i (gk_t (gk_t hst))) hP hS)
  | ior => cases hn; obtain ⟨x, y, s2, rfl, h⟩ := g_2_e h; exact lv_ior hx hb hd (h H locs S hL hlen (gk_i (gk_t (gk_t hst))) hP hS)
  | ixor => cases hn; obtain ⟨x, y, s2, rfl, h⟩ := g_2_e h; exact lv_ixor hx hb hd (h H locs S hL hlen (gk_i (gk_t (gk_t hst))) hP hS)
  | ishl => cases hn; obtain ⟨x, y, s2, rfl, h⟩ := g_2_e h; exact lv_ishl hx hb hd (h H locs S hL hlen (gk_i (gk_t (gk_t hst))) hP hS)
  | ishr => cases hn; obtain ⟨x, y, s2, rfl, h⟩ := g_2_e h; exact lv_ishr hx hb hd (h H locs S hL hlen (gk_i (gk_t (gk_t hst))) hP hS)
  | idiv => cases hn; obtain ⟨x, y, s2, rfl, h1, h⟩ := g_2_e h; exact lv_idiv hx hb hd h1 (h H locs S hL hlen (gk_i (gk_t (gk_t hst))) hP hS)
  | irem => cases hn; obtain ⟨x, y, s2, rfl, h1, h⟩ := g_2_e h; exact lv_irem hx hb hd h1 (h H locs S hL hlen (gk_i (gk_t (gk_t hst))) hP hS)
  | ineg => cases hn; obtain ⟨x, s2, rfl, h⟩ := g_1_e h; exact lv_ineg hx hb hd (h H locs S hL hlen (gk_i (gk_t hst)) hP hS)
  | dup => cases hn; obtain ⟨v, s2, rfl, h⟩ := g_a_e h; exact lv_dup hx hb hd (gOk_cat (gk_h hst)) (h H locs S hL hlen (gk_c (gk_h hst) hst) hP hS)
  | dup_x1 => cases hn; obtain ⟨v, s2, rfl, h⟩ := g_a_e h; obtain ⟨w, s3, rfl, h⟩ := g_a_e h; exact lv_dup_x1 hx hb hd (gOk_cat (gk_h hst)) (gOk_cat (gk_h (gk_t hst))) (h H locs S hL hlen (gk_c (gk_h hst) (gk_c (gk_h (gk_t hst)) (gk_c (gk_h hst) (gk_t (gk_t hst))))) hP hS)
  | dup_x2 => cases hn; obtain ⟨v, s2, rfl, h⟩ := g_a_e h; obtain ⟨w, s3, rfl, h⟩ := g_a_e h; obtain ⟨u, s4, rfl, h⟩ := g_a_e h; exact lv_dup_x2 hx hb hd (gOk_cat (gk_h hst)) (gOk_cat (gk_h (gk_t hst))) (gOk_cat (gk_h (gk_t (gk_t hst)))) (h H locs S hL hlen (gk_c (gk_h hst) (gk_c (gk_h (gk_t hst)) (gk_c (gk_h (gk_t (gk_t hst))) (gk_c (gk_h hst) (gk_t (gk_t (gk_t hst))))))) hP hS)
  | dup2 => cases hn; obtain ⟨v, s2, rfl, h⟩ := g_a_e h; obtain ⟨w, s3, rfl, h⟩ := g_a_e h; exact lv_dup2_11 hx hb hd (gOk_cat (gk_h hst)) (gOk_cat (gk_h (gk_t hst))) (h H locs S hL hlen (gk_c (gk_h hst) (gk_c (gk_h (gk_t hst)) hst)) hP hS)
  | pop => cases hn; obtain ⟨v, s2, rfl, h⟩ := g_a_e h; exact lv_pop hx hb hd (gOk_cat (gk_h hst)) (h H locs S hL hlen (gk_t hst) hP hS)
  | goto o => cases hn; exact lv_goto hx hb hd (g_jt h.1) (h.2 H locs S hL hlen hst hP hS)
  | ifCond cc o =>
    cases hn
    cases cc with
    | eq => obtain ⟨x, s2, rfl, k⟩ := g_1_e h; exact lv_if_eq (tgt := ((pc : Int) + o).toNat) hx hb hd (g_jt k.1) (fun q => g_b_t k q H locs S hL hlen (gk_t hst) hP hS) (fun q => g_b_f k q H locs S hL hlen (gk_t hst) hP hS)
    | ne => obtain ⟨x, s2, rfl, k⟩ := g_1_e h; exact lv_if_ne (tgt := ((pc : Int) + o).toNat) hx hb hd (g_jt k.1) (fun q => g_b_t k q H locs S hL hlen (gk_t hst) hP hS) (fun q => g_b_f k (fun z => z q) H locs S hL hlen (gk_t hst) hP hS)
    | lt => obtain ⟨x, s2, rfl, k⟩ := g_1_e h; exact lv_if_lt (tgt := ((pc : Int) + o).toNat) hx hb hd (g_jt k.1) (fun q => g_b_t k q H locs S hL hlen (gk_t hst) hP hS) (fun q => g_b_f k q H locs S hL hlen (gk_t hst) hP hS)
    | ge => obtain ⟨x, s2, rfl, k⟩ := g_1_e h; exact lv_if_ge (tgt := ((pc : Int) + o).toNat) hx hb hd (g_jt k.1) (fun q => g_b_t k q H locs S hL hlen (gk_t hst) hP hS) (fun q => g_b_f k q H locs S hL hlen (gk_t hst) hP hS)
    | gt => obtain ⟨x, s2, rfl, k⟩ := g_1_e h; exact lv_if_gt (tgt := ((pc : Int) + o).toNat) hx hb hd (g_jt k.1) (fun q => g_b_t k q H locs S hL hlen (gk_t hst) hP hS) (fun q => g_b_f k q H locs S hL hlen (gk_t hst) hP hS)
    | le => obtain ⟨x, s2, rfl, k⟩ := g_1_e h; exact lv_if_le (tgt := ((pc : Int) + o).toNat) hx hb hd (g_jt k.1) (fun q => g_b_t k q H locs S hL hlen (gk_t hst) hP hS) (fun q => g_b_f k q H locs S hL hlen (gk_t hst) hP hS)
  | if_icmp cc o =>
    cases hn
    cases cc with
    | eq => obtain ⟨x, y, s2, rfl, k⟩ := g_2_e h; exact lv_icmp_eq (tgt := ((pc : Int) + o).toNat) hx hb hd (g_jt k.1) (fun q => g_b_t k q H locs S hL hlen (gk_t (gk_t hst)) hP hS) (fun q => g_b_f k q H locs S hL hlen (gk_t (gk_t hst)) hP hS)
    | ne => obtain ⟨x, y, s2, rfl, k⟩ := g_2_e h; exact lv_icmp_ne (tgt := ((pc : Int) + o).toNat) hx hb hd (g_jt k.1) (fun q => g_b_t k q H locs S hL hlen (gk_t (gk_t hst)) hP hS) (fun q => g_b_f k (fun z => z q) H locs S hL hlen (gk_t (gk_t hst)) hP hS)
    | lt => obtain ⟨x, y, s2, rfl, k⟩ := g_2_e h; exact lv_icmp_lt (tgt := ((pc : Int) + o).toNat) hx hb hd (g_jt k.1) (fun q => g_b_t k q H locs S hL hlen (gk_t (gk_t hst)) hP hS) (fun q => g_b_f k q H locs S hL hlen (gk_t (gk_t hst)) hP hS)
    | ge => obtain ⟨x, y, s2, rfl, k⟩ := g_2_e h; exact lv_icmp_ge (tgt := ((pc : Int) + o).toNat) hx hb hd (g_jt k.1) (fun q => g_b_t k q H locs S hL hlen (gk_t (gk_t hst)) hP hS) (fun q => g_b_f k q H locs S hL hlen (gk_t (gk_t hst)) hP hS)
    | gt => obtain ⟨x, y, s2, rfl, k⟩ := g_2_e h; exact lv_icmp_gt (tgt := ((pc : Int) + o).toNat) hx hb hd (g_jt k.1) (fun q => g_b_t k q H locs S hL hlen (gk_t (gk_t hst)) hP hS) (fun q => g_b_f k q H locs S hL hlen (gk_t (gk_t hst)) hP hS)
    | le => obtain ⟨x, y, s2, rfl, k⟩ := g_2_e h; exact lv_icmp_le (tgt := ((pc : Int) + o).toNat) hx hb hd (g_jt k.1) (fun q => g_b_t k q H locs S hL hlen (gk_t (gk_t hst)) hP hS) (fun q => g_b_f k q H locs S hL hlen (gk_t (gk_t hst)) hP hS)
  | tableswitch d lo hi offs =>
    obtain ⟨x, s2, rfl, ⟨hlo, hhi, hsm⟩, k⟩ := g_1_e h
    obtain ⟨L, rfl⟩ : ∃ L : Nat, lo = (L : Int) := ⟨lo.toNat, (Int.toNat_of_nonneg hlo).symm⟩
    rcases g_sw_e offs.toList L k with ⟨k1, k2⟩ | ⟨j, o, k1, k2, k3⟩
    · refine lv_tableOut hx hb hd ?_ (g_jt k1.1) (k1.2 H locs S hL hlen (gk_t hst) hP hS)
      rcases Int.lt_or_le x.toInt L with z | z
      · exact Or.inl z
      · rcases Int.lt_or_le hi x.toInt with z2 | z2
        · exact Or.inr z2
        · refine absurd ?_ (k2 (x.toInt - L).toNat (by omega))
          rw [show ((L + (x.toInt - L).toNat : Nat) : Int) = x.toInt by omega, Int32.ofInt_toInt]
    · have hj : j < offs.toList.length := (List.getElem?_eq_some_iff.mp k1).1
      have ex : x.toInt = L + j := by
        rw [k2, Int32.toInt_ofInt_of_le (by omega) (by omega)]
        omega
      refine lv_tableIn hx hb hd (by omega) (by omega) (off := o) ?_ (g_jt k3.1) (k3.2 H locs S hL hlen (gk_t hst) hP hS)
      rw [show (x.toInt - (L : Int)).toNat = j by omega, ← Array.getElem?_toList]
      exact k1
  | getfield f =>
    cases hn
    obtain ⟨a, s2, rfl, k⟩ := g_r_e h
    cases hz : fl M.2.2.2.2 f with
    | none => rw [hz] at k; exact k.elim
    | some z =>
      obtain ⟨ci, f1, ty⟩ := z
      obtain ⟨Cn, T, N, tf, q1, q2, q3, q4, q5, q6, -⟩ := hT.1 _ _ _ _ _ hz
      rw [hz] at k
      have hk1 : (G a).1 = ci := by
        match ty, k with
        | 0, k => exact k.1
        | 1, k => exact k.1
        | 2, k => exact k.1
        | k9 + 3, k => exact k.1
      have ha : a < n := hWd.1 a (by omega)
      have hw := gW_get (G := G) (cA := cA) (ad := ad) (σ := σ) ha
      rw [gE_ob (by omega)] at hw
      have hnf : g_nf (G a).1 = N := by rw [hk1]; simp [g_nf, q1]
      refine va_get (D := D) (ci := (G a).1) hx hb hts q5 hown hK hP a hw (by rw [hk1]; exact q1) f1 q3 (hts _ q4) (fun _ h9 => h9) (v := if g_isr (G a).1 f1 = true then .ref (ad ((G a).2.2 f1)) else .int (σ a f1)) (by rw [List.getElem?_map, List.getElem?_range (by rw [hnf]; exact q3)]; rfl) hd ?_
      rw [hk1, q6]
      match ty, k with
      | 0, k => exact k.2 H locs S hL hlen (gk_i (gk_t hst)) hP hS
      | 1, k => exact k.2 H locs S hL hlen (gk_i (gk_t hst)) hP hS
      | 2, k => exact k.2 H locs S hL hlen (gk_r (gk_t hst)) hP hS
      | k9 + 3, k => exact k.2 H locs S hL hlen (gk_i (gk_t hst)) hP hS
  | putfield f =>
    cases hn
    obtain ⟨a, v, s2, rfl, k⟩ := g_ri_e h
    cases hz : fl M.2.2.2.2 f with
    | none => rw [hz] at k; exact k.elim
    | some z =>
      obtain ⟨ci, f1, ty⟩ := z
      obtain ⟨Cn, T, N, tf, q1, q2, q3, q4, q5, q6, q7, q8, q9, q10⟩ := hT.1 _ _ _ _ _ hz
      rw [hz] at k
      have hk1 : (G a).1 = ci ∧ ty < 2 := by
        match ty, k with
        | 0, k => exact ⟨k.1, by omega⟩
        | 1, k => exact ⟨k.1, by omega⟩
      obtain ⟨hk1, hty⟩ := hk1
      have ha : a < n := hWd.1 a (by omega)
      have hw := gW_get (G := G) (cA := cA) (ad := ad) (σ := σ) ha
      rw [gE_ob (by omega)] at hw
      have hnf : g_nf (G a).1 = N := by rw [hk1]; simp [g_nf, q1]
      have hnr : g_isr (G a).1 f1 = false := by rw [hk1, q6]; match ty, hty with
        | 0, _ => rfl
        | 1, _ => rfl
      have hset : (gW G cA ad n σ).set a (ad a, .inr ((G a).1, ((List.range (g_nf (G a).1)).map fun k => if g_isr (G a).1 k = true then Value.ref (ad ((G a).2.2 k)) else .int (σ a k)).set f1 (.int v))) = gW G cA ad n (g_up σ a f1 v) := by
        refine gW_set ?_ (fun i hi => gE_o (g_up_o hi))
        rw [gE_ob (by omega)]
        refine congrArg (fun z => Sum.inr ((G a).1, z)) ?_
        apply List.ext_getElem?
        intro j
        by_cases hj : j < g_nf (G a).1
        · rw [List.getElem?_map, List.getElem?_range hj]
          by_cases e1 : f1 = j
          · subst e1
            rw [List.getElem?_set_self (by simpa using hj)]
            simp [hnr, g_up]
          · rw [List.getElem?_set_ne e1, List.getElem?_map, List.getElem?_range hj]
            have e2 : ¬ j = f1 := fun z => e1 z.symm
            simp [g_up, e2]
        · rw [List.getElem?_eq_none (by simp; omega), List.getElem?_eq_none (by simp; omega)]
      have go : ∀ ty0, parseFieldDescriptor (T f1).2.2.1 = some ty0 → narrow ty0 (.int v) = .int v → fits ty0 (.int v) = true → (T f1).2.2.2 = false → gRel p l e R s m args below meth c cells slots Z A H0 D G cA ad n M.2.2.1 (pc + 3) ls s2 (g_up σ a f1 v) → W p l e R s m args below meth c H locs cells slots Z (F0 m pc S ((Value.int v :: .ref a :: s2).map (gV ad))) := fun ty0 w1 w2 w3 w4 kk => by
        refine va_put (D := D) (ci := (G a).1) (v := .int v) (ty := ty0) hx hb hts q5 tf q7 q8 hown hK hP hDs hS a hw (by rw [hk1]; exact q1) f1 q3 (hts _ q4) (fun _ h9 => h9) w4 w1 w2 w3 (by simp [hnf]; exact q3) hd (fun H1 locs1 hP1 hD1 hS1 => ?_)
        rw [hset] at hP1
        exact kk H1 locs1 S hL hlen (gk_t (gk_t hst)) hP1 hS1
      match ty, k with
      | 0, k => exact go .int (by rw [q7 _ q3, (q9 rfl).1]) rfl rfl (q9 rfl).2 k.2
      | 1, k => exact go .boolean (by rw [q7 _ q3, (q10 rfl).1]) (by rcases k.2.1 with e1 | e1 <;> subst e1 <;> rfl) (by rcases k.2.1 with e1 | e1 <;> subst e1 <;> rfl) (q10 rfl).2 k.2.2
  | iaload =>
    cases hn
    obtain ⟨a, i, s2, rfl, k⟩ := g_ri_e h
    by_cases e13 : (G a).1 = 13
    · rw [if_pos e13] at k
      obtain ⟨x1, x2, x3⟩ := hX a e13
      exact va_sld hx hb x1 x2 x3 hS k.1 hd (k.2 H locs S hL hlen (gk_i (gk_t (gk_t hst))) hP hS)
    · rw [if_neg e13] at k
      have ha : a < n := hWd.1 a (by omega)
      obtain ⟨t0, ht⟩ := hWd.2.1 a k.1
      have hw := gW_get (G := G) (cA := cA) (ad := ad) (σ := σ) ha
      rw [gE_11 k.1] at hw
      exact va_iald hx hb hK hP a t0 hw ht k.2.1 hd (k.2.2 H locs S hL hlen (gk_i (gk_t (gk_t hst))) hP hS)
  | iastore =>
    cases hn
    obtain ⟨a, i, x, s2, rfl, k⟩ := g_rii_e h
    have ha : a < n := hWd.1 a (by omega)
    obtain ⟨t0, ht⟩ := hWd.2.1 a k.1
    have hw := gW_get (G := G) (cA := cA) (ad := ad) (σ := σ) ha
    rw [gE_11 k.1] at hw
    refine va_iast hx hb hK hP hDs hS a t0 hw ht k.2.1 hd (fun H1 locs1 hP1 hD1 hS1 => ?_)
    rw [gW_set (σ' := g_up σ a i.toNatClampNeg x) (by rw [gE_11 k.1, g_up_s]) (fun i hi => gE_o (g_up_o hi))] at hP1
    exact k.2.2 H1 locs1 S hL hlen (gk_t (gk_t (gk_t hst))) hP1 hS1
  | aaload =>
    cases hn
    obtain ⟨a, i, s2, rfl, k⟩ := g_ri_e h
    have ha : a < n := hWd.1 a (by omega)
    obtain ⟨t0, ht⟩ := hWd.2.2 a k.1
    have hw := gW_get (G := G) (cA := cA) (ad := ad) (σ := σ) ha
    rw [gE_12 k.1] at hw
    have hlt : i.toNatClampNeg < (G a).2.1 := Nat.not_le.mp fun q => k.2.1 (Or.inr q)
    exact W.aald (v := .ref (ad ((G a).2.2 i.toNatClampNeg))) (ty := .array .int) hx hb (hP a _ hw) ((hK.2 t0 _ ht).1 (G a).2.1 (fun j => .ref (ad ((G a).2.2 j)))) rfl (fun q => by cases q) (by show ¬ (i < 0 ∨ (arrV _ _ _).slots.size ≤ _); rw [arrV_size]; exact k.2.1) (by show (arrV _ _ _).slots[_]? = _; rw [arrV_read _ _ hlt]; rfl) rfl rfl hd (k.2.2 H locs S hL hlen (gk_r (gk_t (gk_t hst))) hP hS)
  | arraylength =>
    cases hn
    obtain ⟨a, s2, rfl, k⟩ := g_r_e h
    rcases k.1 with e11 | e13
    · have ha : a < n := hWd.1 a (by omega)
      obtain ⟨t0, ht⟩ := hWd.2.1 a e11
      have hw := gW_get (G := G) (cA := cA) (ad := ad) (σ := σ) ha
      rw [gE_11 e11] at hw
      exact va_alen hx hb hK hP a t0 hw ht rfl hd (k.2 H locs S hL hlen (gk_i (gk_t hst)) hP hS)
    · obtain ⟨x1, x2, x3⟩ := hX a e13
      exact va_slen hx hb x1 x2 x3 hS hd (k.2 H locs S hL hlen (gk_i (gk_t hst)) hP hS)
  | invokevirtual k =>
    cases hn
    obtain ⟨kd, Y, np, z1, rfl, z3, ⟨b, bs, z4, z5⟩, z6, q, z7, z8⟩ := h
    have hok := hT.2.1 _ _ _ _ _ z1
    rcases hok with ⟨-, hM, w1, w2, w3, w4⟩ | ⟨w, -⟩ | ⟨w, -⟩ | ⟨w, -⟩ | ⟨w, -⟩ | ⟨w, -⟩
    · have hkt := gk_take (k := np + 1) hst
      have hMet := hC Y np _ σ q H.size hM hkt z7
      rw [z4] at hMet hkt
      have hstk : st.map (gV ad) = (bs.map (gV ad)).reverse ++ .ref (ad b) :: (st.drop (np + 1)).map (gV ad) := by
        rw [g_len (ad := ad) (as := (st.take (np + 1)).reverse) (k := np + 1) rfl, z4]
        simp [gV]
      rw [hstk]
      have hbn : b < n := hWd.1 b (by omega)
      have hw := gW_get (G := G) (cA := cA) (ad := ad) (σ := σ) hbn
      rw [gE_ob (by omega), z5] at hw
      obtain ⟨qv, hqv⟩ : ∃ qv, vwCl[Y.2.2.2.2]? = some qv := by
        obtain ⟨p0, hp0⟩ : ∃ p0, p0 = Y.2.2.2.2 := ⟨_, rfl⟩
        rw [← hp0] at w4 ⊢
        exact ⟨_, List.getElem?_eq_getElem (show p0 < vwCl.length from w4)⟩
      have hq1 : qv.1 = Y.1.cls := by
        have := hM.2.2.2.2.2.1
        unfold gRn at this
        rw [if_neg (by omega), hqv] at this
        exact this
      have hrec := va_recv hK hP hqv hw
      rw [hq1] at hrec
      have hbl : (bs.map (gV ad)).length = np := by
        have := congrArg List.length z4
        simp at this ⊢
        omega
      refine g_call (va_runV (C := Y.1.cls) (b := ad b) (As := bs.map (gV ad)) (rest := (st.drop (np + 1)).map (gV ad)) ⟨hx, hb, hml, hown, hts⟩ hMet ⟨⟨hrc, hrs, hRf, by have := hM.2.2.2.2.1; omega, pay_in hts (gWs_in hM), List.mem_cons_self, hts _ hM.1, hts _ hM.2.2.2.2.2.2, hM.2.2.1, gNp hM, hts _ w1⟩, hts _ w2, hts _ w3⟩ ⟨gB_blind, hrec, fun U hU hW => ⟨rfl, by rw [hU], by rw [hU]; exact hP, va_K.moved hW.alike hK, hDs.weaken (fun _ _ _ _ => trivial), fun x hx => va_Nw.warmM hW (hNs x hx)⟩⟩ rfl hbl hL.1 rfl (g_room (gk_drop hst) z6) hd ⟨by omega, by omega⟩) hS (fun q _ h9 => gW_A hDs (fun q h => hA q (Nat.le_trans hS.1 h)) q h9) (gW_A hDs (fun q h => hA q (Nat.le_trans hS.1 h))) (fun r σ' H1 locs1 hr hq hP1 hS1 => ?_)
      have hfin := z8 r σ' hq H1 locs1 S hL hlen (gk_ret hr (gk_drop hst)) hP1 hS1
      rw [gk_retm hr] at hfin
      exact hfin
    all_goals omega
  | invokestatic k =>
    cases hn
    obtain ⟨kd, Y, np, z1, z2⟩ := h
    have hok := hT.2.1 _ _ _ _ _ z1
    have hfr : 1 ≤ R.frames := by omega
    have hloc : 37 ≤ R.locals := by omega
    rcases hok with ⟨w, -⟩ | ⟨rfl, hM, w1, w2⟩ | ⟨rfl, hM, ⟨host, w1⟩, w2⟩ | ⟨rfl, w1, w2, w3, w4⟩ | ⟨rfl, w1, w2, w3, w4⟩ | ⟨rfl, w1, w2, w3, w4⟩
    · subst w; simp at z2
    · rw [if_neg (by decide), if_neg (by decide), if_neg (by decide)] at z2
      obtain ⟨-, z3, z6, q, z7, z8⟩ := z2
      have hkt := gk_take (k := np) hst
      have hMet := hC Y np _ σ q H.size hM hkt z7
      rw [g_len (ad := ad) (as := (st.take np).reverse) (k := np) (st := st) rfl]
      refine g_call (va_runS (As := (st.take np).reverse.map (gV ad)) (rest := (st.drop np).map (gV ad)) ⟨hx, hb, hml, hown, hts⟩ hMet ⟨⟨hrc, hrs, hRf, by have := hM.2.2.2.2.1; omega, pay_in hts (gWs_in hM), List.mem_cons_self, hts _ hM.1, hts _ hM.2.2.2.2.2.2, hM.2.2.1, gNp hM, hts _ w1⟩, hts _ w2⟩ ⟨gB_blind, fun U hU hW => ⟨rfl, by rw [hU], by rw [hU]; exact hP, va_K.moved hW.alike hK, hDs.weaken (fun _ _ _ _ => trivial), fun x hx => va_Nw.warmM hW (hNs x hx)⟩⟩ rfl (by simp; omega) hL.1 rfl (g_room (gk_drop hst) z6) hd ⟨by omega, by omega⟩) hS (fun q _ h9 => gW_A hDs (fun q h => hA q (Nat.le_trans hS.1 h)) q h9) (gW_A hDs (fun q h => hA q (Nat.le_trans hS.1 h))) (fun r σ' H1 locs1 hr hq hP1 hS1 => ?_)
      have hfin := z8 r σ' hq H1 locs1 S hL hlen (gk_ret hr (gk_drop hst)) hP1 hS1
      rw [gk_retm hr] at hfin
      exact hfin
    · rw [if_neg (by decide), if_neg (by decide), if_neg (by decide)] at z2
      obtain ⟨-, z3, z6, q, z7, z8⟩ := z2
      have hkt := gk_take (k := np) hst
      have hMet := hC Y np _ σ q H.size hM hkt z7
      rw [g_len (ad := ad) (as := (st.take np).reverse) (k := np) (st := st) rfl]
      refine g_call (va_runSN (As := (st.take np).reverse.map (gV ad)) (rest := (st.drop np).map (gV ad)) ⟨hx, hb, hml, hown, hts⟩ hMet ⟨⟨⟨hrc, hrs, hRf, by have := hM.2.2.2.2.1; omega, pay_in hts (gWs_in hM), List.mem_cons_self⟩, hts _ hM.1, hts _ hM.2.2.2.2.2.2, hM.2.2.1, gNp hM, va_Nw.use rfl (hNs _ w1)⟩, hts _ w2, trivial⟩ ⟨gB_blind, fun U hU hW => ⟨rfl, by rw [hU], by rw [hU]; exact hP, va_K.moved hW.alike hK, hDs.weaken (fun _ _ _ _ => trivial), fun x hx => va_Nw.warmM hW (hNs x hx)⟩⟩ rfl (by simp; omega) hL.1 rfl (g_room (gk_drop hst) z6) hd ⟨by omega, by omega⟩) hS (fun q _ h9 => gW_A hDs (fun q h => hA q (Nat.le_trans hS.1 h)) q h9) (gW_A hDs (fun q h => hA q (Nat.le_trans hS.1 h))) (fun r σ' H1 locs1 hr hq hP1 hS1 => ?_)
      have hfin := z8 r σ' hq H1 locs1 S hL hlen (gk_ret hr (gk_drop hst)) hP1 hS1
      rw [gk_retm hr] at hfin
      exact hfin
    · rw [if_pos rfl] at z2
      obtain ⟨z3, z2⟩ := z2
      obtain ⟨x, y, s2, rfl, k⟩ := g_2_e z2
      exact va_mmin hx hb hsz hown (hts _ w1) (hts _ w2) (hts _ w3) (hts _ w4) hfr (by rw [gOk_sum s2 (gk_t (gk_t hst))]; simp at z3; omega) hcs.1 hcs.2 hd (k H locs S hL hlen (gk_i (gk_t (gk_t hst))) hP hS)
    · rw [if_neg (by decide), if_pos rfl] at z2
      obtain ⟨z3, z2⟩ := z2
      obtain ⟨x, y, s2, rfl, k⟩ := g_2_e z2
      exact va_mmax hx hb hsz hown (hts _ w1) (hts _ w2) (hts _ w3) (hts _ w4) hfr (by rw [gOk_sum s2 (gk_t (gk_t hst))]; simp at z3; omega) hcs.1 hcs.2 hd (k H locs S hL hlen (gk_i (gk_t (gk_t hst))) hP hS)
    · rw [if_neg (by decide), if_neg (by decide), if_pos rfl] at z2
      obtain ⟨a, sp, b, dp, nn, s2, rfl, y1, y2, y3, y4, y5, y6, y7, y8, k⟩ := g_5_e z2
      obtain ⟨t0, ht0⟩ := hWd.2.1 a y2
      obtain ⟨t1, ht1⟩ := hWd.2.1 b y3
      have hw0 := gW_get (G := G) (cA := cA) (ad := ad) (σ := σ) (hWd.1 a (by omega))
      have hw1 := gW_get (G := G) (cA := cA) (ad := ad) (σ := σ) (hWd.1 b (by omega))
      rw [gE_11 y2] at hw0
      rw [gE_11 y3] at hw1
      have hs2 := gk_t (gk_t (gk_t (gk_t (gk_t hst))))
      refine va_copyi hx hb hsz hown (hts _ w1) (hts _ w2) (hts _ w3) (hts _ w4) hK hP hDs hS a b t0 t1 hw0 hw1 ht0 ht1 rfl y4 y5 y6 y7 y8 (fun _ _ => rfl) hfr (by rw [gOk_sum s2 hs2, show nativeFrameWords "java/lang/System" "arraycopy" 5 = 7 by decide]; omega) hd (fun H1 locs1 hP1 hD1 hS1 => ?_)
      rw [gW_set (σ' := g_cp σ a b sp.toNatClampNeg dp.toNatClampNeg nn.toNatClampNeg) (by rw [gE_11 y3, g_cp_s]) (fun i hi => gE_o (g_cp_o hi))] at hP1
      exact k H1 locs1 S hL hlen hs2 hP1 hS1
  | ireturn =>
    cases hn
    obtain ⟨x, s2, rfl, rfl, k1, k2⟩ := g_1_e h
    exact hZ1 pc S x σ H locs hd k1 k2 hP hS
  | return_ =>
    cases hn
    obtain ⟨rfl, k1, k2⟩ := h
    exact hZ0 pc S σ H locs hd k1 k2 hP hS
  | _ => exact h.elim
end GB
section GBM
variable {G : gG} {cA : Nat → ClassId} {ad : Nat → Nat} {n : Nat} {tys : List (ClassId × FieldType)}
variable {fl : Nat → Nat → Option (Nat × Nat × Nat)} {cl : Nat → Nat → Option (Nat × gY × Nat)} {cn : Nat → Nat → Option Int32}
theorem g_sl : ∀ (vs : List Value), (∀ v ∈ vs, gOk v = true) → (lg_sl (vs.map (gV ad))).length = vs.length
  | [], _ => rfl
  | v :: vs, h => by
    have h1 := gOk_cat (ad := ad) (gk_h h)
    have h2 := g_sl vs (gk_t h)
    unfold lg_sl at h2 ⊢
    rw [List.map_cons, List.flatMap_cons, if_neg (by omega), List.length_append, h2]
    simp only [List.length_cons, List.length_nil]
    omega
theorem g_args : ∀ (vs : List Value) (i j : Nat) (v : Value), (∀ v ∈ vs, gOk v = true) → vs[j]? = some v → (i + j, gV ad v) ∈ lv_args i (vs.map (gV ad))
  | [], _, _, _, _, h => by simp at h
  | w :: vs, i, j, v, h, hj => by
    have h1 := gOk_cat (ad := ad) (gk_h h)
    show (i + j, gV ad v) ∈ (i, gV ad w) :: lv_args (if (gV ad w).category = 2 then i + 2 else i + 1) (vs.map (gV ad))
    rw [if_neg (by omega)]
    cases j with
    | zero => cases hj; exact List.mem_cons_self
    | succ j =>
      refine List.mem_cons_of_mem _ ?_
      have := g_args vs (i + 1) j v (gk_t h) (by simpa using hj)
      rwa [show i + 1 + j = i + (j + 1) by omega] at this
/-- what the small machine's methods do, the real ones do -/
theorem g_sound (l : Launch) (D : va_G) (hT : gOkT fl cl cn) (hWd : gWorld G n cA tys) (h13 : ∀ i, (G i).1 ≠ 13) : ∀ (d : Nat) (Y : gY) (np : Nat) (as : List Value) (σ : gM) (q : gK) (sz : Nat), gOkM Y np → (∀ v ∈ as, gOk v = true) → gCm fl cl cn G d Y as σ q →
    Met l Y.1 (gWs Y) (gRm d) (va_Pc (as.map (gV ad)) (gB D G cA ad n tys sz σ)) (gQc D G cA ad n q (va_A (gW G cA ad n σ) sz)) 0 0 (va_A (gW G cA ad n σ) sz)
  | 0, _, _, _, _, _, _, _, _, h => h.elim
  | d + 1, Y, np, as, σ, q, sz, hM, hka, h => by
    obtain ⟨hlen, h⟩ := h
    refine Met.ofW (cc := Y.2.1) (maxL := Y.2.2.1) (ret := Y.2.2.2.1) hM.2.1 rfl ?_
    intro p e s m args below meth c s₁ B hml hv
    obtain ⟨rfl, hsz, hP, hK, hD0, hNs⟩ := hv
    have hx := B.exec
    have hb := B.bytes
    have hr := B.returns
    have hts0 := atoms_spec (ws := gWs Y) B.pre
    have hts : ∀ w ∈ gT, w.before _ s = true := fun w hw => hts0 w (List.mem_cons_of_mem _ hw)
    have hown : s.vm.findClass (gRn Y.2.2.2.2) = some m.cls := by
      rw [hM.2.2.2.2.2.1]
      exact findClass_of_methodNamed B.named
    have hlocks := B.notSynchronized
    subst hsz
    have hD := hD0.self (sz := s.heap.size)
    generalize hAe : va_A (gW G cA ad n σ) s.heap.size = A at hD ⊢
    have hA : ∀ q : Nat, s.heap.size ≤ q → A q := fun q h => by rw [← hAe]; exact Or.inr h
    have hS : va_S A s.heap s.heap [] := va_S.rf
    have hl := lv_entry (as.map (gV ad)) (n := Y.2.2.1) (by rw [g_sl as hka]; exact hlen)
    rw [lg_entry_eq]
    generalize (lg_sl (as.map (gV ad)) ++ List.replicate (Y.2.2.1 - (lg_sl (as.map (gV ad))).length) Slot.unset).toArray = ls at hl ⊢
    have hl2 : lv_has ls Y.2.2.1 (gLv ad (as ++ List.replicate (Y.2.2.1 - as.length) (.long 0))) := by
      refine ⟨hl.1, hl.2.1, fun qv hqv => hl.2.2 qv ?_⟩
      obtain ⟨j, w⟩ := qv
      obtain ⟨u, hu, hk, rfl⟩ := gLv_mem hqv
      have hj : j < as.length := by
        rcases Nat.lt_or_ge j as.length with z | z
        · exact z
        · rw [List.getElem?_append_right z] at hu
          have := List.mem_of_getElem? hu
          rw [List.mem_replicate] at this
          rw [this.2] at hk
          cases hk
      rw [List.getElem?_append_left hj] at hu
      have := g_args (ad := ad) as 0 j u hka hu
      rwa [Nat.zero_add] at this
    have key := wp_le (P := gRel p l e (headSpec (gWs Y) (gRm (d + 1))).room s m (as.map (gV ad)).toArray below meth c 0 0 (MQ below (gQc D G cA ad n q A) (as.map (gV ad)).toArray s 0 0 A) A s.heap D G cA ad n Y.2.2.1) (fun pc ls st σ' h => g_step (rm := gRm d) (tys := tys) hx hb hml hown hts hT hWd hNs hK (gW_D hD) hA (fun i h9 => absurd h9 (h13 i)) rfl rfl (Nat.le_refl _) (by show 37 + 37 * d ≤ 37 * (d + 1); omega) ⟨Nat.zero_le _, Nat.zero_le _⟩ (fun Y np as σ q sz => g_sound l D hT hWd h13 d Y np as σ q sz) (fun pc S x σ H locs hd h1 h2 hP hS => ?_) (fun pc S σ H locs hd h1 h2 hP hS => ?_) h) h
    · exact key s.heap [] ls hl2 (by simp; omega) (fun v hv => by cases hv) hP hS
    · have hq : ∀ t : State, t.heap = H → s.WarmedH t.vm → gQc D G cA ad n q A (as.map (gV ad)).toArray s (.returned (some (.int x))) t := fun t ht hW => ⟨⟨_, σ, rfl, Or.inr ⟨x, rfl⟩, h2, by rw [ht]; exact hP⟩, hS.F ht⟩
      unfold g_rt at h1
      split at h1
      · next e => exact W.iret hx hb (hr.trans e) hq hS.2.2 hd
      · next e => exact W.zret hx hb (hr.trans e) (by rcases h1 with rfl | rfl <;> rfl) hq hS.2.2 hd
      · exact h1.elim
    · have hq : ∀ t : State, t.heap = H → s.WarmedH t.vm → gQc D G cA ad n q A (as.map (gV ad)).toArray s (.returned none) t := fun t ht hW => ⟨⟨_, σ, rfl, Or.inl rfl, h2, by rw [ht]; exact hP⟩, hS.F ht⟩
      exact W.vret hx hb (hr.trans h1) hq hS.2.2 hd
end GBM
