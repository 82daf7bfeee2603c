def cFix (p : Program) (s : State) (m : MethodId) (args : Array Value) (meth : Method) (c : Code) (Y : gY) (x : ClassId × ClassId) (D : va_G) (A : Nat → Prop) : Prop :=
  (p.tables.exec = Jvm.exec) ∧ (c.code = Y.2.1) ∧ (c.maxLocals = Y.2.2.1) ∧ (meth.sig.returnType = none) ∧ (meth.locks = false) ∧ (s.vm.findClass (gRn Y.2.2.2.2) = some m.cls) ∧ (meth.name = "<init>") ∧ (∀ w ∈ gT, w.before args s = true) ∧ (va_K D vwCl [(x.1, .int), (x.2, .array .int)] s) ∧ (gNw s) ∧ (va_AOA .int s) ∧ (∀ q, s.heap.size ≤ q → A q)
section O63F
variable {p : Program} {s : State} {m : MethodId} {args : Array Value} {meth : Method} {c : Code} {Y : gY} {x : ClassId × ClassId} {D : va_G} {A : Nat → Prop}
theorem cFix.hx (F : cFix p s m args meth c Y x D A) : p.tables.exec = Jvm.exec := F.1
theorem cFix.hb (F : cFix p s m args meth c Y x D A) : c.code = Y.2.1 := F.2.1
theorem cFix.hml (F : cFix p s m args meth c Y x D A) : c.maxLocals = Y.2.2.1 := F.2.2.1
theorem cFix.hr (F : cFix p s m args meth c Y x D A) : meth.sig.returnType = none := F.2.2.2.1
theorem cFix.hlk (F : cFix p s m args meth c Y x D A) : meth.locks = false := F.2.2.2.2.1
theorem cFix.hown (F : cFix p s m args meth c Y x D A) : s.vm.findClass (gRn Y.2.2.2.2) = some m.cls := F.2.2.2.2.2.1
theorem cFix.hin (F : cFix p s m args meth c Y x D A) : meth.name = "<init>" := F.2.2.2.2.2.2.1
theorem cFix.hts (F : cFix p s m args meth c Y x D A) : ∀ w ∈ gT, w.before args s = true := F.2.2.2.2.2.2.2.1
theorem cFix.hK (F : cFix p s m args meth c Y x D A) : va_K D vwCl [(x.1, .int), (x.2, .array .int)] s := F.2.2.2.2.2.2.2.2.1
theorem cFix.hNs (F : cFix p s m args meth c Y x D A) : gNw s := F.2.2.2.2.2.2.2.2.2.1
theorem cFix.hO (F : cFix p s m args meth c Y x D A) : va_AOA .int s := F.2.2.2.2.2.2.2.2.2.2.1
theorem cFix.hA (F : cFix p s m args meth c Y x D A) : ∀ q, s.heap.size ≤ q → A q := F.2.2.2.2.2.2.2.2.2.2.2
end O63F
/-- what a constructor begins with -/
def cPre (D : va_G) (x : ClassId × ClassId) (ci : Nat) (fs : List Value) (h sz : Nat) (U : State) : Prop := U.heap.size = sz ∧ va_P D vwCl [(h, .inr (ci, fs))] U.heap ∧ va_K D vwCl [(x.1, .int), (x.2, .array .int)] U ∧ va_D (fun _ => True) [(h, .inr (ci, fs))] ∧ gNw U ∧ va_AOA .int U
theorem cPre_blind {D : va_G} {x : ClassId × ClassId} {ci : Nat} {fs : List Value} {h sz : Nat} {av : List Value} : FrameBlind (va_Pc av (cPre D x ci fs h sz)) := fun a U g mk q => by
  obtain ⟨q0, q1, qP, qK, qD, qN, qO⟩ := q
  exact ⟨q0, q1, qP, va_K.moved (u := U) (U := U.calling g mk a) (Vm.Alike.refl U.vm) qK, qD, fun x hx => va_Nw.same rfl (u := U) (U := U.calling g mk a) rfl (qN x hx), qO⟩
abbrev cAw (ci : Nat) (fs : List Value) (h sz : Nat) : Nat → Prop := va_A [(h, .inr (ci, fs))] sz
/-- what a constructor leaves: a world of a graph -/
abbrev cQv (D : va_G) (L : gL) (x : ClassId × ClassId) (Φ : gM → Prop) (h : Nat) (A : Nat → Prop) : Array Value → State → Outcome → State → Prop := va_Qv (fun u : (Nat → Nat) × gM => u.1 0 = h ∧ Φ u.2) (fun u t => va_P D vwCl (lW L x u.1 u.2) t.heap ∧ va_D A (lW L x u.1 u.2)) A
def cMet (l : Launch) (Y : gY) (ci : Nat) (fs : List Value) (L : gL) (Φ : gM → Prop) (rm : Room) : Prop := ∀ (D : va_G) (x : ClassId × ClassId) (h sz : Nat), Met l Y.1 (gWs Y) rm (va_Pc [.ref h] (cPre D x ci fs h sz)) (cQv D L x Φ h (cAw ci fs h sz)) rm.cells rm.slots (cAw ci fs h sz)
theorem nv_nd (n : Nat) : va_nd (List.range n) = true := by
  have h : (List.range n).Nodup := List.nodup_range
  generalize List.range n = L at h
  induction L with
  | nil => rfl
  | cons a L ih =>
    obtain ⟨h1, h2⟩ := List.nodup_cons.mp h
    simp [va_nd, h1, ih h2]
section O63
variable {p : Program} {l : Launch} {e : Env} {R : Room} {s : State} {m : MethodId} {args : Array Value} {below : List Frame} {meth : Method} {c : Code} {H H0 : Heap} {locs : List Loc} {cells slots : Nat} {Q : State → Prop}
variable {pc : Nat} {ls : Array Slot} {rest : List Value} {D : va_G} {A : Nat → Prop} {x : ClassId × ClassId} {Y : gY}
/-- behind a call over the last cell -/
theorem nv_join {cl : List vw_C} {A0 : Nat → Prop} {wr w1 : va_W} {x : Nat × va_E} {H1 : Heap} (hP : va_P D cl (wr ++ [x]) H) (hD : va_D A0 (wr ++ [x])) (hk : ∀ q : Nat, q < H.size → ¬ va_A [x] H.size q → H1[q]? = H[q]?) (hF : ∀ q, va_A [x] H.size q → A0 q) (hP1 : va_P D cl w1 H1) (hD1 : va_D (va_A [x] H.size) w1) : va_P D cl (wr ++ w1) H1 ∧ va_D A0 (wr ++ w1) := by
  refine va_join hP hD [wr.length] (List.range wr.length) (by simp) ?_ (nv_nd _) (fun i hi => ?_) hk hF hP1 hD1
  · apply List.ext_getElem?
    intro i
    by_cases hi : i < wr.length
    · rw [List.getElem?_map, List.getElem?_range hi, List.getElem?_map, List.getElem?_eq_getElem hi]
      simp [List.getElem?_append_left hi, List.getElem?_eq_getElem hi]
    · rw [List.getElem?_eq_none (by simp; omega), List.getElem?_eq_none (by simp; omega)]
  · have := List.mem_range.mp hi
    simp; omega
/-- the array class is one -/
theorem nv_cls {cA : ClassId} (hK : va_K D vwCl [(x.1, .int), (x.2, .array .int)] s) (hK1 : va_K D vwCl ([(x.1, .int), (x.2, .array .int)] ++ [(cA, .int)]) s) : cA = x.1 := by
  have a1 := (hK1.2 2 (cA, .int) rfl).2
  have a2 := (hK.2 0 (x.1, .int) rfl).2
  exact Option.some.inj (a1.symm.trans a2)
theorem nv_cls2 {cA : ClassId} (hK : va_K D vwCl [(x.1, .int), (x.2, .array .int)] s) (hK1 : va_K D vwCl ([(x.1, .int), (x.2, .array .int)] ++ [(cA, .array .int)]) s) : cA = x.2 := by
  have a1 := (hK1.2 2 (cA, .array .int) rfl).2
  have a2 := (hK.2 1 (x.2, .array .int) rfl).2
  exact Option.some.inj (a1.symm.trans a2)
/-- a row of ints comes to be, and goes into a final field of the object at the head -/
theorem ci_arr (F : cFix p s m args meth c Y x D A) {C : String} {T : u_T} {N ci : Nat} (hc : vwCl[ci]? = some (C, T, N)) (hcy : gRn Y.2.2.2.2 = C) (hu : ∀ w ∈ u_ws C T N, w ∈ gT) {ty0 : Nat → FieldType} (hty : ∀ k, k < N → parseFieldDescriptor (T k).2.2.1 = some (ty0 k)) (hnm : ∀ a, a < N → ∀ b, b < N → a ≠ b → (T a).2.1 ≠ (T b).2.1) {L : gL} {ad : Nat → Nat} {σ : gM} {h0 : Nat} {fs : List Value} {n : Int32} (k n' nL : Nat) {idx : Nat} {L' : gL} {σ' : gM}
    (hL' : L ++ [(11, n', [])] = L') (hnL : L.length = nL) (hσ' : gJ nL σ (fun _ _ => 0) = σ') (hclo : gClo L = true) (hn : ¬ n < 0) (hn' : n.toNatClampNeg = n') (hn4 : n' ≤ 1000) (hk : k < N) (hkl : k < fs.length) (hlink : Cond.fieldLink C idx (T k).1 (T k).2.1 (T k).2.2.1 ∈ gT) (hfin : (T k).2.2.2 = true) (hdecl : (T k).1 = C) (htk : ty0 k = .array .int)
    (hcells : cells + 1 ≤ R.cells) (hslots : slots + n' ≤ R.slots) (d1 : decode Y.2.1 pc = .ok (.newarray .int, 2)) (d2 : decode Y.2.1 (pc + 2) = .ok (.putfield idx, 3)) (hP : va_P D vwCl ((h0, .inr (ci, fs)) :: lW L x ad σ) H) (hD : va_D A ((h0, .inr (ci, fs)) :: lW L x ad σ)) (hS : va_S A s.heap H locs)
    (kk : ∀ (q : Nat) (H1 : Heap) (locs1 : List Loc), va_P D vwCl ((h0, .inr (ci, fs.set k (.ref q))) :: lW L' x (gJ nL ad fun _ => q) σ') H1 → va_D A ((h0, .inr (ci, fs.set k (.ref q))) :: lW L' x (gJ nL ad fun _ => q) σ') → va_S A s.heap H1 locs1 → W p l e R s m args below meth c H1 locs1 (cells + 1) (slots + n') Q (F0 m (pc + 2 + 3) ls rest)) :
    W p l e R s m args below meth c H locs cells slots Q (F0 m pc ls (.int n :: .ref h0 :: rest)) := by
  refine va_newa (ty := .int) (a0 := (n', .inl fun _ => 0)) F.hx F.hb (F.hts _ (gT_in (List.mem_of_getElem? (i := 106) (by decide +kernel)) rfl)) rfl F.hK hP hD hS F.hA (fun cA => rfl) hn hn' (by show n' * 4 ≤ _; omega) hcells hslots d1 (fun q cA H1 hK1 hP1 hD1 hS1 => ?_)
  have e := nv_cls F.hK hK1
  subst e
  have hw : ((h0, .inr (ci, fs)) :: lW L x ad σ) ++ [(q, (.inl (x.1, n', .inl fun _ => 0) : va_E))] = (h0, .inr (ci, fs)) :: lW L' x (gJ nL ad fun _ => q) σ' := by
    subst hL' hnL hσ'
    rw [List.cons_append, lW_arr, lW_app hclo rfl]
    rfl
  rw [hw] at hP1 hD1
  exact va_putF (ci := ci) (C := C) (T := T) (N := N) (ty := .array .int) F.hx F.hb F.hts hu ty0 hty hnm (by rw [← hcy]; exact F.hown) F.hK hP1 hD1 hS1 0 rfl hc k hk (F.hts _ hlink) (fun _ h9 => h9) hfin F.hin hdecl (by rw [hty k hk, htk]) rfl rfl hkl d2 (fun H2 locs2 hP2 hD2 hS2 => kk q H2 locs2 hP2 hD2 hS2)
/-- an object comes to be by its constructor, and goes into a final field of the object at the head -/
theorem ci_obj (F : cFix p s m args meth c Y x D A) {C : String} {T : u_T} {N ci : Nat} (hc : vwCl[ci]? = some (C, T, N)) (hcy : gRn Y.2.2.2.2 = C) (hu : ∀ w ∈ u_ws C T N, w ∈ gT) {ty0 : Nat → FieldType} (hty : ∀ k, k < N → parseFieldDescriptor (T k).2.2.1 = some (ty0 k)) (hnm : ∀ a, a < N → ∀ b, b < N → a ≠ b → (T a).2.1 ≠ (T b).2.1) {L : gL} {ad : Nat → Nat} {σ : gM} {h0 : Nat} {fs : List Value}
    {C2 : String} {T2 : u_T} {N2 ci2 : Nat} (hc2 : vwCl[ci2]? = some (C2, T2, N2)) (hu2 : ∀ w ∈ u_ws C2 T2 N2, w ∈ gT) {ty2 : Nat → FieldType} (hty2 : ∀ k, k < N2 → parseFieldDescriptor (T2 k).2.2.1 = some (ty2 k)) {fs2 : List Value} (hfs2 : ∀ j, j < N2 → defaultValue (ty2 j) = vp_V fs2 j) {i1 i2 : Nat} (hcl : Cond.classLink C i1 C2 ∈ gT) (hinst : Cond.instantiable C2 N2 ∈ gT)
    {Z : gY} (hM0 : gOkM Z 0) (hyc : Z.1.cls = C2) (hyn : Z.1.name = "<init>") (hret : Z.2.2.2.1 = none) (hyi : Cond.instanceMethod Z.1 ∈ gT) (hyl : Cond.methodLink C i2 Z.1 ∈ gT ∨ ∃ host, (C, i2, Z.1, host) ∈ gNs) {rm : Room} {L2 : gL} {Φ : gM → Prop} (hM : cMet l Z ci2 fs2 L2 Φ rm)
    (k nL : Nat) {idx : Nat} {L' : gL} (σ' : gM → gM) (hL' : L ++ gSh nL L2 = L') (hnL : L.length = nL) (hσ' : ∀ σ2, Φ σ2 → gJ nL σ σ2 = σ' σ2) (hclo : gClo L = true) (hclo2 : gClo L2 = true) (hk : k < N) (hkl : k < fs.length) (hlink : Cond.fieldLink C idx (T k).1 (T k).2.1 (T k).2.2.1 ∈ gT) (hfin : (T k).2.2.2 = true) (hdecl : (T k).1 = C) (htk : ty0 k = .object C2) (hR : rm.frames + 1 ≤ R.frames ∧ 8 + (Z.2.2.1 + 11) + rm.locals ≤ R.locals)
    (hcells : cells + 1 + rm.cells ≤ R.cells) (hslots : slots + N2 + rm.slots ≤ R.slots) (hsz : Y.2.2.1 = ls.size) (d1 : decode Y.2.1 pc = .ok (.new i1, 3)) (d2 : decode Y.2.1 (pc + 3) = .ok (.dup, 1)) (d3 : decode Y.2.1 (pc + 3 + 1) = .ok (.invokespecial i2, 3)) (d4 : decode Y.2.1 (pc + 3 + 1 + 3) = .ok (.putfield idx, 3)) (hP : va_P D vwCl ((h0, .inr (ci, fs)) :: lW L x ad σ) H) (hD : va_D A ((h0, .inr (ci, fs)) :: lW L x ad σ)) (hS : va_S A s.heap H locs)
    (kk : ∀ (ad2 : Nat → Nat) (σ2 : gM) (H1 : Heap) (locs1 : List Loc), Φ σ2 → va_P D vwCl ((h0, .inr (ci, fs.set k (.ref (ad2 0)))) :: lW L' x (gJ nL ad ad2) (σ' σ2)) H1 → va_D A ((h0, .inr (ci, fs.set k (.ref (ad2 0)))) :: lW L' x (gJ nL ad ad2) (σ' σ2)) → va_S A s.heap H1 locs1 → W p l e R s m args below meth c H1 locs1 (cells + 1 + rm.cells) (slots + N2 + rm.slots) Q (F0 m (pc + 3 + 1 + 3 + 3) ls [])) :
    W p l e R s m args below meth c H locs cells slots Q (F0 m pc ls [.ref h0]) := by
  have hx := F.hx
  have hb := F.hb
  have hts := F.hts
  have hown : s.vm.findClass C = some m.cls := by rw [← hcy]; exact F.hown
  have hK := F.hK
  have hy := hM0.2.2.1
  obtain ⟨y, by2, maxL, ret, cid⟩ := Z
  simp only at hret
  subst hret
  refine va_new (ci := ci2) (fs := fs2) (C := C2) (T := T2) (N := N2) hx hb hts hu2 ty2 hty2 hown (hts _ hcl) (hts _ hinst) (by have := hts _ hM0.2.2.2.2.2.2; rw [← hyc]; exact this) hK hP hD hS F.hA hc2 hfs2 (by omega) (by omega) d1 (fun q H1 hP1 hD1 hS1 => ?_)
  refine lv_dup hx hb d2 rfl ?_
  have hP1 : va_P D vwCl (((h0, .inr (ci, fs)) :: lW L x ad σ) ++ [(q, .inr (ci2, fs2))]) H1 := hP1
  have hPc : va_P D vwCl [(q, .inr (ci2, fs2))] H1 := fun j z hj => by
    have h9 : j < 1 := (List.getElem?_eq_some_iff.mp hj).1
    obtain rfl : j = 0 := by omega
    exact hP1 _ z (by rw [List.getElem?_append_right (Nat.le_refl _), Nat.sub_self]; exact hj)
  have hDc : va_D (fun _ => True) [(q, .inr (ci2, fs2))] := ⟨fun i j z w hi hj _ => by
    have h9 : i < 1 := (List.getElem?_eq_some_iff.mp hi).1
    have h8 : j < 1 := (List.getElem?_eq_some_iff.mp hj).1
    omega, fun _ _ _ => trivial⟩
  have hAq : A q := hD1.2 (((h0, .inr (ci, fs)) :: lW L x ad σ : va_W).length) (q, .inr (ci2, fs2)) (by rw [List.getElem?_append_right (Nat.le_refl _), Nat.sub_self]; rfl)
  have hFc : ∀ z, cAw ci2 fs2 q H1.size z → A z := fun z hz => by
    rcases hz with ⟨j, e9, hj⟩ | hz
    · have h9 : j < 1 := (List.getElem?_eq_some_iff.mp hj).1
      obtain rfl : j = 0 := by omega
      cases hj
      exact hAq
    · exact F.hA z (Nat.le_trans hS1.1 hz)
  have hpre : PreS s H1 (va_Pc [.ref q] (cPre D x ci2 fs2 q H1.size)) [.ref q] := ⟨cPre_blind, fun U hU hW => ⟨rfl, by rw [hU], by rw [hU]; exact hPc, va_K.moved hW.alike hK, hDc, fun x hx => va_Nw.warmM hW (F.hNs x hx), va_AOA.warm hW F.hO⟩⟩
  have hcont : ∀ (u : (Nat → Nat) × gM) (t : State) (H2 : Heap) (locs1 : List Loc), t.heap = H2 → s.vm.Alike t.vm → (u.1 0 = q ∧ Φ u.2) → (va_P D vwCl (lW L2 x u.1 u.2) t.heap ∧ va_D (cAw ci2 fs2 q H1.size) (lW L2 x u.1 u.2)) → H1.size ≤ H2.size → (∀ z : Nat, z < H1.size → ¬ cAw ci2 fs2 q H1.size z → H2[z]? = H1[z]?) → va_S A s.heap H2 locs1 → W p l e R s m args below meth c H2 locs1 (cells + 1 + rm.cells) (slots + N2 + rm.slots) Q (F0 m (pc + 3 + 1 + 3) ls ([.ref q, .ref h0])) := by
    intro u t H2 locs1 ht _ hu0 hB _ hk1 hS2
    obtain ⟨hP2, hD2⟩ := hB
    rw [ht] at hP2
    obtain ⟨hP3, hD3⟩ := nv_join (wr := (h0, .inr (ci, fs)) :: lW L x ad σ) (x := (q, .inr (ci2, fs2))) hP1 hD1 hk1 hFc hP2 hD2
    rw [List.cons_append, lW_app hclo hclo2, hnL, hL', hσ' u.2 hu0.2] at hP3 hD3
    obtain ⟨rfl, hΦ⟩ := hu0
    exact va_putF (ci := ci) (C := C) (T := T) (N := N) (ty := .object C2) hx hb hts hu ty0 hty hnm hown hK hP3 hD3 hS2 0 rfl hc k hk (hts _ hlink) (fun _ h9 => h9) hfin F.hin hdecl (by rw [hty k hk, htk]) rfl rfl hkl d4 (fun H3 locs2 hP4 hD4 hS4 => kk u.1 u.2 H3 locs2 hΦ hP4 hD4 hS4)
  rcases hyl with hyl | ⟨host, hyl⟩
  · exact va_callv (va_runI (b := q) (As := []) (rest := [.ref q, .ref h0]) ⟨hx, hb, F.hml, hown, hts⟩ (hM D x q H1.size) ⟨⟨rfl, rfl, hR.1, hR.2, pay_in hts (gWs_in hM0), List.mem_cons_self, hts _ hM0.1, hts _ hM0.2.2.2.2.2.2, hy, gNp hM0, hts _ hyl⟩, hyn, hts _ hyi⟩ hpre rfl rfl hsz.symm rfl (lv_room (Nat.le_of_ble_eq_true rfl)) d3 ⟨by omega, by omega⟩) hS1 (fun z _ h => hFc z h) hFc hcont
  · exact va_callv (va_runIN (b := q) (As := []) (rest := [.ref q, .ref h0]) ⟨hx, hb, F.hml, hown, hts⟩ (hM D x q H1.size) ⟨⟨⟨rfl, rfl, hR.1, hR.2, pay_in hts (gWs_in hM0), List.mem_cons_self⟩, hts _ hM0.1, hts _ hM0.2.2.2.2.2.2, hy, gNp hM0, va_Nw.use rfl (F.hNs _ hyl)⟩, hyn, hts _ hyi⟩ hpre rfl rfl hsz.symm rfl (lv_room (Nat.le_of_ble_eq_true rfl)) d3 ⟨by omega, by omega⟩) hS1 (fun z _ h => hFc z h) hFc hcont
/-- from here the small machine goes on -/
theorem ci_tail (F : cFix p s m args meth c Y x D A) {L : gL} {ad : Nat → Nat} {σ : gM} {h d : Nat} {Φ : gM → Prop} {vs : List Value} (hret : Y.2.2.2.1 = none) (h13 : (L.all fun q => q.1 != 13) = true) (hrm : d + 1 ≤ R.frames ∧ 37 + 37 * d ≤ R.locals) (hcs : cells ≤ R.cells ∧ slots ≤ R.slots) (had : ad 0 = h) (hl : lv_has ls Y.2.2.1 (gLv ad vs)) (hlen : vs.length = Y.2.2.1)
    (hg : gw (gCm' (gOf L) d) (gOf L) Y (fun r σ' => r = none ∧ Φ σ') pc vs [] σ) (hP : va_P D vwCl (lW L x ad σ) H) (hD : va_D A (lW L x ad σ)) (hS : va_S A s.heap H locs) :
    W p l e R s m args below meth c H locs cells slots (MQ below (cQv D L x Φ h A) args s cells slots A) (F0 m pc ls []) := by
  have hWd := gWorld_of (L := L) (x := x)
  have h13' := gOf_13 h13
  have key := wp_le (P := gRel p l e R s m args below meth c cells slots (MQ below (cQv D L x Φ h A) args s cells slots A) A s.heap D (gOf L) (gCc (gOf L) x) ad L.length Y.2.2.1) (fun pc ls st σ' h => g_step (rm := gRm d) (tys := [(x.1, .int), (x.2, .array .int)]) F.hx F.hb F.hml F.hown F.hts gTab_ok hWd F.hNs F.hK (gW_D hD) F.hA (fun i h9 => absurd h9 (h13' i)) rfl rfl hrm.1 hrm.2 hcs (fun Y np as σ q sz => g_sound l D gTab_ok hWd h13' d Y np as σ q sz) (fun pc S x σ H locs hd h1 h2 hP hS => by rw [hret] at h1; exact h1.elim) (fun pc S σ H locs hd h1 h2 hP hS => W.vret F.hx F.hb F.hr (fun t ht hW => ⟨⟨(ad, σ), rfl, ⟨had, h2.2⟩, by rw [ht]; exact hP, gW_D hD⟩, hS.F ht⟩) hS.2.2 hd F.hlk) h) hg
  exact key H locs ls hl hlen (fun v hv => by cases hv) hP hS
/-- how a constructor begins -/
theorem ci_met {ci : Nat} {fs : List Value} {L : gL} {Φ : gM → Prop} {rm : Room} {idx : Nat} (hM0 : gOkM Y 0) (hret : Y.2.2.2.1 = none) (hnm : Y.1.name = "<init>") (hl1 : 1 ≤ Y.2.2.1) (hlk : Cond.methodLink (gRn Y.2.2.2.2) idx Lib.objectInit ∈ gT) (d0 : decode Y.2.1 0 = .ok (.aload_n 0, 1)) (d1 : decode Y.2.1 1 = .ok (.invokespecial idx, 3)) (hrf : 1 ≤ rm.frames) (hrl : 12 ≤ rm.locals)
    (body : ∀ (D : va_G) (x : ClassId × ClassId) (h : Nat) (p : Program) (e : Env) (s : State) (m : MethodId) (args : Array Value) (below : List Frame) (meth : Method) (c : Code) (S : Array Slot) (A : Nat → Prop), cFix p s m args meth c Y x D A → lv_has S Y.2.2.1 [(0, .ref h)] → va_P D vwCl ((h, .inr (ci, fs)) :: lW [] x (fun _ => 0) fun _ _ => 0) s.heap → va_D A ((h, .inr (ci, fs)) :: lW [] x (fun _ => 0) fun _ _ => 0) → va_S A s.heap s.heap [] →
      W p l e rm s m args below meth c s.heap [] 0 0 (MQ below (cQv D L x Φ h A) args s rm.cells rm.slots A) (F0 m 4 S [])) : cMet l Y ci fs L Φ rm := by
  intro D x h sz
  refine Met.ofW (cc := Y.2.1) (maxL := Y.2.2.1) (ret := Y.2.2.2.1) hM0.2.1 rfl ?_
  intro p e s m args below meth c s₁ B hml hv
  obtain ⟨rfl, hsz, hP, hK, hD0, hNs, hO⟩ := hv
  have hts0 := atoms_spec (ws := gWs Y) B.pre
  have hts : ∀ w ∈ gT, w.before _ s = true := fun w hw => hts0 w (List.mem_cons_of_mem _ hw)
  have hown : s.vm.findClass (gRn Y.2.2.2.2) = some m.cls := by
    rw [hM0.2.2.2.2.2.1]
    exact findClass_of_methodNamed B.named
  have hlocks := B.notSynchronized
  have hin : meth.name = "<init>" := ((name_of_methodNamed B.named B.method).1).trans hnm
  subst hsz
  have hD : va_D (cAw ci fs h s.heap.size) [(h, .inr (ci, fs))] := hD0.self (sz := s.heap.size)
  generalize hAe : cAw ci fs h s.heap.size = A at hD ⊢
  have hA : ∀ q : Nat, s.heap.size ≤ q → A q := fun q h => by rw [← hAe]; exact Or.inr h
  have hS : va_S A s.heap s.heap [] := va_S.rf
  have hl := lv_entry ([.ref h]) (n := Y.2.2.1) hl1
  rw [lg_entry_eq]
  generalize (lg_sl ([.ref h]) ++ List.replicate (Y.2.2.1 - (lg_sl ([.ref h])).length) Slot.unset).toArray = S at hl ⊢
  have hl : lv_has S Y.2.2.1 [(0, .ref h)] := hl
  have F : cFix p s m _ meth c Y x D A := ⟨B.exec, B.bytes, hml, (B.returns).trans hret, hlocks, hown, hin, hts, hK, hNs, hO, hA⟩
  refine lv_aload_n F.hx F.hb d0 rfl (lv_at hl 0 rfl) ?_
  refine W.objInit F.hx F.hb hown (hts _ hlk) (hts _ (gT_in (List.mem_of_getElem? (i := 72) (by decide +kernel)) rfl)) (hts _ (gT_in (List.mem_of_getElem? (i := 73) (by decide +kernel)) rfl)) rfl (by rw [hml]; exact hl.1) rfl d1 hrf hrl ?_
  refine W.eq (g2 := F0 m 4 S []) rfl ?_
  exact body D x h p e s m _ below meth c S A F hl hP hD hS
end O63
