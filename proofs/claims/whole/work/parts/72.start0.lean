def gScr (L : Nat) (xn : Nat → Nat) : gG := fun i => if i = 130 then (13, L, xn) else gOf L0 i
theorem gScr_o {L : Nat} {xn : Nat → Nat} {i : Nat} (h : i ≠ 130) : gScr L xn i = gOf L0 i := if_neg h
theorem gW_scr {L n : Nat} {xn : Nat → Nat} {cA : Nat → ClassId} {ad : Nat → Nat} {σ : gM} (hn : n ≤ 126) : gW (gScr L xn) cA ad n σ = gW (gOf L0) cA ad n σ := by
  refine List.map_congr_left (fun i hi => ?_)
  have h := List.mem_range.mp hi
  have e := gScr_o (L := L) (xn := xn) (show i ≠ 130 by omega)
  rw [gE_c (G' := gOf L0) (ad' := ad) (σ' := σ) (cA' := cA) (i' := i) (by rw [e]) (by rw [e]) rfl (fun f => by rw [e]) rfl]
theorem gW_ad {L : gL} {cA : Nat → ClassId} {ad ad' : Nat → Nat} {σ : gM} (hc : gClo L = true) (h : ∀ i, i < L.length → ad i = ad' i) : gW (gOf L) cA ad L.length σ = gW (gOf L) cA ad' L.length σ := by
  refine List.map_congr_left (fun i hi => ?_)
  have h1 := List.mem_range.mp hi
  rw [h i h1, gE_c (G := gOf L) (G' := gOf L) (ad := ad) (ad' := ad') (σ := σ) (σ' := σ) (cA := cA) (cA' := cA) (i := i) (i' := i) rfl rfl rfl (fun f => h _ (gClo_lt hc h1)) rfl]
theorem clo_0 : gClo L0 = true := by decide +kernel
theorem gWorld_scr {L : Nat} {xn : Nat → Nat} {x : ClassId × ClassId} : gWorld (gScr L xn) 126 (gCc (gOf L0) x) [(x.1, .int), (x.2, .array .int)] := by
  have h0 := gWorld_of (L := L0) (x := x)
  rw [L0_len] at h0
  have key : ∀ i, (gScr L xn i).1 ≤ 12 → gScr L xn i = gOf L0 i := fun i h => by
    by_cases e : i = 130
    · unfold gScr at h
      rw [if_pos e] at h
      exact absurd h (by show ¬ (13 ≤ 12); omega)
    · exact gScr_o e
  exact ⟨fun i h => h0.1 i (by rw [← key i h]; exact h), fun i h => h0.2.1 i (by rw [← key i (by omega)]; exact h), fun i h => h0.2.2 i (by rw [← key i (by omega)]; exact h)⟩
theorem nests_in : ∀ q ∈ gNs, Cond.methodLinkNest q.1 q.2.1 q.2.2.1 q.2.2.2 ∈ lw_tbl := by decide +kernel
section O72
variable {p : Program} {l : Launch} {e : Env} {R : Room} {s : State} {m : MethodId} {args : Array Value} {below : List Frame} {meth : Method} {c : Code} {H : Heap} {locs : List Loc} {cells slots : Nat} {Q : State → Prop}
variable {pc : Nat} {ls : Array Slot} {D : va_G} {A : Nat → Prop} {x : ClassId × ClassId}
/-- an object comes to be by its constructor, in the law -/
theorem st_obj (hx : p.tables.exec = Jvm.exec) (hb : c.code = cL_law) (hml : c.maxLocals = ls.size) (hown : s.vm.findClass RL = some m.cls) (hts : ∀ w ∈ gT, w.before args s = true) (hK : va_K D vwCl [(x.1, .int), (x.2, .array .int)] s) (hNs : gNw s) (hO : va_AOA .int s) (hA : ∀ q, s.heap.size ≤ q → A q) {L : gL} {ad : Nat → Nat} {σ : gM}
    {C2 : String} {T2 : u_T} {N2 ci2 : Nat} (hc2 : vwCl[ci2]? = some (C2, T2, N2)) (hu2 : ∀ w ∈ u_ws C2 T2 N2, w ∈ gT) {ty2 : Nat → FieldType} (hty2 : ∀ k, k < N2 → parseFieldDescriptor (T2 k).2.2.1 = some (ty2 k)) {fs2 : List Value} (hfs2 : ∀ j, j < N2 → defaultValue (ty2 j) = vp_V fs2 j) {i1 i2 : Nat} (hcl : Cond.classLink RL i1 C2 ∈ gT) (hinst : Cond.instantiable C2 N2 ∈ gT)
    {Z : gY} (hM0 : gOkM Z 0) (hyc : Z.1.cls = C2) (hyn : Z.1.name = "<init>") (hret : Z.2.2.2.1 = none) (hyi : Cond.instanceMethod Z.1 ∈ gT) (hyl : Cond.methodLink RL i2 Z.1 ∈ gT) {rm : Room} {L2 : gL} {Φ : gM → Prop} (hM : cMet l Z ci2 fs2 L2 Φ rm)
    (nL : Nat) {L' : gL} (σ' : gM → gM) (hL' : L ++ gSh nL L2 = L') (hnL : L.length = nL) (hσ' : ∀ σ2, Φ σ2 → gJ nL σ σ2 = σ' σ2) (hclo : gClo L = true) (hclo2 : gClo L2 = true) (hR : rm.frames + 1 ≤ R.frames ∧ 8 + (Z.2.2.1 + 11) + rm.locals ≤ R.locals)
    (hcells : cells + 1 + rm.cells ≤ R.cells) (hslots : slots + N2 + rm.slots ≤ R.slots) (d1 : decode cL_law pc = .ok (.new i1, 3)) (d2 : decode cL_law (pc + 3) = .ok (.dup, 1)) (d3 : decode cL_law (pc + 3 + 1) = .ok (.invokespecial i2, 3)) (hP : va_P D vwCl (lW L x ad σ) H) (hD : va_D A (lW L x ad σ)) (hS : va_S A s.heap H locs)
    (kk : ∀ (ad2 : Nat → Nat) (σ2 : gM) (H1 : Heap) (locs1 : List Loc), Φ σ2 → va_P D vwCl (lW L' x (gJ nL ad ad2) (σ' σ2)) H1 → va_D A (lW L' x (gJ nL ad ad2) (σ' σ2)) → va_S A s.heap H1 locs1 → W p l e R s m args below meth c H1 locs1 (cells + 1 + rm.cells) (slots + N2 + rm.slots) Q (F0 m (pc + 3 + 1 + 3) ls [.ref (ad2 0)])) :
    W p l e R s m args below meth c H locs cells slots Q (F0 m pc ls []) := by
  have hy := hM0.2.2.1
  obtain ⟨y, by2, maxL, ret, cid⟩ := Z
  simp only at hret
  subst hret
  refine va_new (ci := ci2) (fs := fs2) (C := C2) (T := T2) (N := N2) hx hb hts hu2 ty2 hty2 hown (hts _ hcl) (hts _ hinst) (by have := hts _ hM0.2.2.2.2.2.2; rw [← hyc]; exact this) hK hP hD hS hA hc2 hfs2 (by omega) (by omega) d1 (fun q H1 hP1 hD1 hS1 => ?_)
  refine lv_dup hx hb d2 rfl ?_
  have hPc : va_P D vwCl [(q, .inr (ci2, fs2))] H1 := fun j z hj => by
    have h9 : j < 1 := (List.getElem?_eq_some_iff.mp hj).1
    obtain rfl : j = 0 := by omega
    exact hP1 _ z (by rw [List.getElem?_append_right (Nat.le_refl _), Nat.sub_self]; exact hj)
  have hDc : va_D (fun _ => True) [(q, .inr (ci2, fs2))] := ⟨fun i j z w hi hj _ => by
    have h9 : i < 1 := (List.getElem?_eq_some_iff.mp hi).1
    have h8 : j < 1 := (List.getElem?_eq_some_iff.mp hj).1
    omega, fun _ _ _ => trivial⟩
  have hAq : A q := hD1.2 (lW L x ad σ).length (q, .inr (ci2, fs2)) (by rw [List.getElem?_append_right (Nat.le_refl _), Nat.sub_self]; rfl)
  have hFc : ∀ z, cAw ci2 fs2 q H1.size z → A z := fun z hz => by
    rcases hz with ⟨j, e9, hj⟩ | hz
    · have h9 : j < 1 := (List.getElem?_eq_some_iff.mp hj).1
      obtain rfl : j = 0 := by omega
      cases hj
      exact hAq
    · exact hA z (Nat.le_trans hS1.1 hz)
  have hpre : PreS s H1 (va_Pc [.ref q] (cPre D x ci2 fs2 q H1.size)) [.ref q] := ⟨cPre_blind, fun U hU hW => ⟨rfl, by rw [hU], by rw [hU]; exact hPc, va_K.moved hW.alike hK, hDc, fun x hx => va_Nw.warmM hW (hNs x hx), va_AOA.warm hW hO⟩⟩
  refine va_callv (va_runI (b := q) (As := []) (rest := [.ref q]) ⟨hx, hb, hml, hown, hts⟩ (hM D x q H1.size) ⟨⟨rfl, rfl, hR.1, hR.2, pay_in hts (gWs_in hM0), List.mem_cons_self, hts _ hM0.1, hts _ hM0.2.2.2.2.2.2, hy, gNp hM0, hts _ hyl⟩, hyn, hts _ hyi⟩ hpre rfl rfl rfl rfl (lv_room (Nat.le_of_ble_eq_true rfl)) d3 ⟨by omega, by omega⟩) hS1 (fun z _ h => hFc z h) hFc (fun u t H2 locs1 ht _ hu0 hB _ hk1 hS2 => ?_)
  obtain ⟨hP2, hD2⟩ := hB
  rw [ht] at hP2
  obtain ⟨hP3, hD3⟩ := nv_join (wr := lW L x ad σ) (x := (q, .inr (ci2, fs2))) hP1 hD1 hk1 hFc hP2 hD2
  rw [lW_app hclo hclo2, hnL, hL', hσ' u.2 hu0.2] at hP3 hD3
  obtain ⟨rfl, hΦ⟩ := hu0
  exact kk u.1 u.2 H2 locs1 hΦ hP3 hD3 hS2
end O72
