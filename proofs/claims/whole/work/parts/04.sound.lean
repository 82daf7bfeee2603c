def gT : List Cond := lw_tbl.filter goodWord
theorem gT_in {w : Cond} (h : w ∈ lw_tbl) (hg : goodWord w = true) : w ∈ gT := List.mem_filter.mpr ⟨h, hg⟩
/-- the links of nest mates: they hold in every state behind the first -/
def gNs : List (String × Nat × MethodName × String) := [("RegionHandles$Memory", 17, yX5_init, "RegionHandles"), ("RegionHandles$Ground", 19, yX9_fill, "RegionHandles"), ("RegionHandles$Memory", 31, yX0_init, "RegionHandles"), ("RegionHandles$Memory", 38, yX6_init, "RegionHandles"), ("RegionHandles$Memory", 49, yX9_fill, "RegionHandles"), ("RegionHandles", 27, yX8_init, "RegionHandles"), ("RegionHandles", 34, yX4_init, "RegionHandles"), ("RegionHandles", 41, yX7_init, "RegionHandles"), ("RegionHandles", 48, yX2_init, "RegionHandles"), ("RegionHandles$Walk", 46, yX9_fill, "RegionHandles"), ("RegionHandles$Memory", 57, yX9_copyAll, "RegionHandles"), ("RegionHandles$Regions", 37, yX9_copyAll, "RegionHandles"), ("RegionHandles$Ground", 48, yX9_copyAll, "RegionHandles"), ("RegionHandles$Blocks", 46, yX9_copyAll, "RegionHandles"), ("RegionHandles$TagOrder", 19, yX9_copyAll, "RegionHandles"), ("RegionHandles$Holders", 24, yX9_fill, "RegionHandles")]
def gNw (U : State) : Prop := ∀ q ∈ gNs, va_Nw (.methodLinkNest q.1 q.2.1 q.2.2.1 q.2.2.2) U
def gWs (Y : gY) : List Cond := Cond.code Y.1 Y.2.1 Y.2.2.1 Y.2.2.2.1 :: gT
def gRn (c : Nat) : String := if c = 11 then RL else ((vwCl[c]?).map (·.1)).getD ""
def g_nf (c : Nat) : Nat := ((vwCl[c]?).map (·.2.2)).getD 0
def g_isr (c k : Nat) : Bool := match vwCl[c]? with
  | some q => !((q.2.1 k).2.2.1 == "I" || (q.2.1 k).2.2.1 == "Z")
  | none => false
/-- a method that may be called -/
def gOkM (Y : gY) (np : Nat) : Prop := Cond.code Y.1 Y.2.1 Y.2.2.1 Y.2.2.2.1 ∈ gT ∧ plainName Y.1.cls = true ∧ (Y.1.cls ≠ "java/lang/invoke/MethodHandle" ∧ Y.1.cls ≠ "java/lang/invoke/VarHandle") ∧ (parseMethodDescriptor Y.1.desc).map (fun d => d.parameters.length) = some np ∧ Y.2.2.1 ≤ 18 ∧ gRn Y.2.2.2.2 = Y.1.cls ∧ Cond.initialized Y.1.cls ∈ gT
def gOkF (c k ci f ty : Nat) : Prop := ∃ (Cn : String) (T : u_T) (N : Nat) (tf : Nat → FieldType), vwCl[ci]? = some (Cn, T, N) ∧ ci < 11 ∧ f < N ∧ Cond.fieldLink (gRn c) k (T f).1 (T f).2.1 (T f).2.2.1 ∈ gT ∧ (∀ w ∈ u_ws Cn T N, w ∈ gT) ∧ g_isr ci f = (ty == 2) ∧ (∀ k, k < N → parseFieldDescriptor (T k).2.2.1 = some (tf k)) ∧ (∀ a, a < N → ∀ b, b < N → a ≠ b → (T a).2.1 ≠ (T b).2.1) ∧ (ty = 0 → tf f = .int ∧ (T f).2.2.2 = false) ∧ (ty = 1 → tf f = .boolean ∧ (T f).2.2.2 = false)
def gOkC (c k kd : Nat) (Y : gY) (np : Nat) : Prop :=
  (kd = 0 ∧ gOkM Y np ∧ Cond.methodLink (gRn c) k Y.1 ∈ gT ∧ Cond.instanceMethod Y.1 ∈ gT ∧ Cond.selects Y.1.cls Y.1 Y.1 ∈ gT ∧ Y.2.2.2.2 < 11) ∨
  (kd = 1 ∧ gOkM Y np ∧ Cond.methodLink (gRn c) k Y.1 ∈ gT ∧ Cond.static Y.1 ∈ gT) ∨
  (kd = 2 ∧ gOkM Y np ∧ (∃ host, (gRn c, k, Y.1, host) ∈ gNs) ∧ Cond.static Y.1 ∈ gT) ∨
  (kd = 3 ∧ Cond.methodLink (gRn c) k Lib.Math.min.name ∈ gT ∧ Cond.static Lib.Math.min.name ∈ gT ∧ Cond.initialized "java/lang/Math" ∈ gT ∧ Cond.code Lib.Math.min.name Lib.Math.min.code 2 (some .int) ∈ gT) ∨
  (kd = 4 ∧ Cond.methodLink (gRn c) k Lib.Math.max.name ∈ gT ∧ Cond.static Lib.Math.max.name ∈ gT ∧ Cond.initialized "java/lang/Math" ∈ gT ∧ Cond.code Lib.Math.max.name Lib.Math.max.code 2 (some .int) ∈ gT) ∨
  (kd = 5 ∧ Cond.methodLink (gRn c) k arraycopyName ∈ gT ∧ Cond.native arraycopyName ∈ gT ∧ Cond.static arraycopyName ∈ gT ∧ Cond.initialized "java/lang/System" ∈ gT)
def gOkT (fl : Nat → Nat → Option (Nat × Nat × Nat)) (cl : Nat → Nat → Option (Nat × gY × Nat)) (cn : Nat → Nat → Option Int32) : Prop :=
  (∀ c k ci f ty, fl c k = some (ci, f, ty) → gOkF c k ci f ty) ∧ (∀ c k kd Y np, cl c k = some (kd, Y, np) → gOkC c k kd Y np) ∧ (∀ c k v, cn c k = some v → Cond.constant (gRn c) k v ∈ gT)
/-! pictures -/
def gV (ad : Nat → Nat) : Value → Value
  | .ref k => .ref (ad k)
  | v => v
def gOk : Value → Bool
  | .int _ => true
  | .ref _ => true
  | _ => false
theorem gOk_cat {ad : Nat → Nat} {v : Value} (h : gOk v = true) : (gV ad v).category = 1 := by
  cases v <;> first | rfl | cases h
theorem gOk_sum {ad : Nat → Nat} : ∀ (st : List Value), (∀ v ∈ st, gOk v = true) → ((st.map (gV ad)).map fun v => v.category).sum = st.length
  | [], _ => rfl
  | v :: st, h => by
    have h1 := gOk_cat (ad := ad) (h v List.mem_cons_self)
    have h2 := gOk_sum (ad := ad) st (fun w hw => h w (List.mem_cons_of_mem _ hw))
    simp only [List.map_cons, List.sum_cons, List.length_cons, h1, h2]
    omega
def gLv (ad : Nat → Nat) (ls : List Value) : List (Nat × Value) := (List.range ls.length).filterMap fun i => match ls[i]? with
  | some v => if gOk v = true then some (i, gV ad v) else none
  | none => none
theorem gLv_mem {ad : Nat → Nat} {ls : List Value} {i : Nat} {w : Value} (h : (i, w) ∈ gLv ad ls) : ∃ v, ls[i]? = some v ∧ gOk v = true ∧ w = gV ad v := by
  unfold gLv at h
  obtain ⟨j, -, hj⟩ := List.mem_filterMap.mp h
  split at hj
  · next v hv =>
    split at hj
    · next hk => cases hj; exact ⟨v, hv, hk, rfl⟩
    · cases hj
  · cases hj
theorem gLv_of {ad : Nat → Nat} {ls : List Value} {i : Nat} {v : Value} (h : ls[i]? = some v) (hk : gOk v = true) : (i, gV ad v) ∈ gLv ad ls := by
  unfold gLv
  refine List.mem_filterMap.mpr ⟨i, List.mem_range.mpr (List.getElem?_eq_some_iff.mp h).1, ?_⟩
  rw [h]
  simp [hk]
theorem gLv_at {ad : Nat → Nat} {S : Array Slot} {nL : Nat} {ls : List Value} (h : lv_has S nL (gLv ad ls)) {i : Nat} {v : Value} (hv : ls[i]? = some v) (hk : gOk v = true) : S[i]? = some (.val (gV ad v)) := h.2.2 _ (gLv_of hv hk)
theorem gLv_set {ad : Nat → Nat} {S : Array Slot} {nL : Nat} {ls : List Value} {i : Nat} {v : Value} (h : lv_has S nL ((i, gV ad v) :: (gLv ad ls).filter (fun q => !(q.1 == i) && !(q.1 + 1 == i && q.2.category == 2)))) : lv_has S nL (gLv ad (ls.set i v)) := by
  refine ⟨h.1, h.2.1, fun q hq => h.2.2 q ?_⟩
  obtain ⟨j, w⟩ := q
  obtain ⟨u, hu, hk, rfl⟩ := gLv_mem hq
  by_cases e : i = j
  · subst e
    have hlt : i < (ls.set i v).length := (List.getElem?_eq_some_iff.mp hu).1
    rw [List.getElem?_set_self (by simpa using hlt)] at hu
    cases hu
    exact List.mem_cons_self
  · rw [List.getElem?_set_ne e] at hu
    refine List.mem_cons_of_mem _ (List.mem_filter.mpr ⟨gLv_of hu hk, ?_⟩)
    have h1 := gOk_cat (ad := ad) hk
    simp [h1]
    exact fun z => e z.symm
/-- the content of an object -/
def gE (G : gG) (cA : Nat → ClassId) (ad : Nat → Nat) (σ : gM) (i : Nat) : va_E :=
  if (G i).1 = 11 then .inl (cA i, (G i).2.1, .inl (σ i))
  else if (G i).1 = 12 then .inl (cA i, (G i).2.1, .inr (.inr (.inr (.inr fun j => some (ad ((G i).2.2 j))))))
  else .inr ((G i).1, (List.range (g_nf (G i).1)).map fun k => if g_isr (G i).1 k = true then .ref (ad ((G i).2.2 k)) else .int (σ i k))
def gW (G : gG) (cA : Nat → ClassId) (ad : Nat → Nat) (n : Nat) (σ : gM) : va_W := (List.range n).map fun i => (ad i, gE G cA ad σ i)
theorem gW_get {G : gG} {cA : Nat → ClassId} {ad : Nat → Nat} {n : Nat} {σ : gM} {i : Nat} (h : i < n) : (gW G cA ad n σ)[i]? = some (ad i, gE G cA ad σ i) := by
  unfold gW
  rw [List.getElem?_map, List.getElem?_range h]
  rfl
theorem gW_set {G : gG} {cA : Nat → ClassId} {ad : Nat → Nat} {n : Nat} {σ σ' : gM} {a : Nat} {e : va_E} (he : gE G cA ad σ' a = e) (ho : ∀ i, i ≠ a → gE G cA ad σ' i = gE G cA ad σ i) : (gW G cA ad n σ).set a (ad a, e) = gW G cA ad n σ' := by
  apply List.ext_getElem?
  intro i
  by_cases hi : i < n
  · rw [gW_get hi]
    by_cases e2 : a = i
    · subst e2
      rw [List.getElem?_set_self (by simpa [gW] using hi), he]
    · rw [List.getElem?_set_ne e2, gW_get hi, ho i (fun z => e2 z.symm)]
  · rw [List.getElem?_eq_none (by simp [gW]; omega), List.getElem?_eq_none (by simp [gW]; omega)]
theorem gE_o {G : gG} {cA : Nat → ClassId} {ad : Nat → Nat} {σ σ' : gM} {i : Nat} (h : σ' i = σ i) : gE G cA ad σ' i = gE G cA ad σ i := by
  unfold gE
  rw [h]
theorem g_up_o {σ : gM} {a k i : Nat} {v : Int32} (h : i ≠ a) : g_up σ a k v i = σ i := by
  funext j
  simp [g_up, h]
theorem g_up_s {σ : gM} {a k : Nat} {v : Int32} : g_up σ a k v a = upd (σ a) k v := by
  funext j
  simp [g_up, upd]
theorem g_cp_o {σ : gM} {a b sp dp n i : Nat} (h : i ≠ b) : g_cp σ a b sp dp n i = σ i := by
  funext j
  simp [g_cp, h]
theorem g_cp_s {σ : gM} {a b sp dp n : Nat} : g_cp σ a b sp dp n b = va_cpy (σ a) (σ b) sp dp n := by
  funext j
  simp [g_cp, va_cpy]
theorem gE_11 {G : gG} {cA : Nat → ClassId} {ad : Nat → Nat} {σ : gM} {i : Nat} (h : (G i).1 = 11) : gE G cA ad σ i = .inl (cA i, (G i).2.1, .inl (σ i)) := by
  unfold gE
  rw [if_pos h]
theorem gE_12 {G : gG} {cA : Nat → ClassId} {ad : Nat → Nat} {σ : gM} {i : Nat} (h : (G i).1 = 12) : gE G cA ad σ i = .inl (cA i, (G i).2.1, .inr (.inr (.inr (.inr fun j => some (ad ((G i).2.2 j)))))) := by
  unfold gE
  rw [if_neg (by omega), if_pos h]
theorem gE_ob {G : gG} {cA : Nat → ClassId} {ad : Nat → Nat} {σ : gM} {i : Nat} (h : (G i).1 < 11) : gE G cA ad σ i = .inr ((G i).1, (List.range (g_nf (G i).1)).map fun k => if g_isr (G i).1 k = true then .ref (ad ((G i).2.2 k)) else .int (σ i k)) := by
  unfold gE
  rw [if_neg (by omega), if_neg (by omega)]
theorem gW_D {G : gG} {cA : Nat → ClassId} {ad : Nat → Nat} {n : Nat} {σ σ' : gM} {A : Nat → Prop} (h : va_D A (gW G cA ad n σ)) : va_D A (gW G cA ad n σ') := by
  have key : ∀ (k : Nat) (q : Nat × va_E), (gW G cA ad n σ')[k]? = some q → (gW G cA ad n σ)[k]? = some (q.1, gE G cA ad σ k) := fun k q hq => by
    have hk : k < n := by simpa [gW] using (List.getElem?_eq_some_iff.mp hq).1
    rw [gW_get hk] at hq ⊢
    cases hq
    rfl
  exact ⟨fun i j p q hi hj e => h.1 i j _ _ (key i p hi) (key j q hj) e, fun k q hq => h.2 k (q.1, gE G cA ad σ k) (key k q hq)⟩
theorem gW_A {G : gG} {cA : Nat → ClassId} {ad : Nat → Nat} {n : Nat} {σ : gM} {sz : Nat} {A : Nat → Prop} (hD : va_D A (gW G cA ad n σ)) (hA : ∀ q, sz ≤ q → A q) : ∀ q, va_A (gW G cA ad n σ) sz q → A q := fun q h => by
  rcases h with ⟨k, e, hk⟩ | h
  · exact hD.2 k _ hk
  · exact hA q h
def gWorld (G : gG) (n : Nat) (cA : Nat → ClassId) (tys : List (ClassId × FieldType)) : Prop := (∀ i, (G i).1 ≤ 12 → i < n) ∧ (∀ i, (G i).1 = 11 → ∃ t : Nat, tys[t]? = some (cA i, .int)) ∧ (∀ i, (G i).1 = 12 → ∃ t : Nat, tys[t]? = some (cA i, .array .int))
def gB (D : va_G) (G : gG) (cA : Nat → ClassId) (ad : Nat → Nat) (n : Nat) (tys : List (ClassId × FieldType)) (sz : Nat) (σ : gM) (U : State) : Prop := U.heap.size = sz ∧ va_P D vwCl (gW G cA ad n σ) U.heap ∧ va_K D vwCl tys U ∧ va_D (fun _ => True) (gW G cA ad n σ) ∧ gNw U
def gQc (D : va_G) (G : gG) (cA : Nat → ClassId) (ad : Nat → Nat) (n : Nat) (q : gK) (A : Nat → Prop) : Array Value → State → Outcome → State → Prop := fun _ st oc t => (∃ (r : Option Value) (σ' : gM), oc = .returned r ∧ (r = none ∨ ∃ x, r = some (.int x)) ∧ q r σ' ∧ va_P D vwCl (gW G cA ad n σ') t.heap) ∧ va_F A st t
def gRm (d : Nat) : Room := { frames := d, cells := 0, slots := 0, locals := 37 * d }
theorem gB_blind {D : va_G} {G : gG} {cA : Nat → ClassId} {ad : Nat → Nat} {n : Nat} {tys : List (ClassId × FieldType)} {sz : Nat} {σ : gM} {av : List Value} : FrameBlind (va_Pc av (gB D G cA ad n tys sz σ)) := fun a U g mk q => by
  obtain ⟨q0, q1, qP, qK, qD, qN⟩ := q
  exact ⟨q0, q1, qP, va_K.moved (u := U) (U := U.calling g mk a) (Vm.Alike.refl U.vm) qK, qD, fun x hx => va_Nw.same rfl (u := U) (U := U.calling g mk a) rfl (qN x hx)⟩
theorem g_len {as : List Value} {k : Nat} {st : List Value} {ad : Nat → Nat} (h : as = (st.take k).reverse) : (st.map (gV ad)) = (as.map (gV ad)).reverse ++ (st.drop k).map (gV ad) := by
  subst h
  rw [← List.map_reverse, List.reverse_reverse, ← List.map_append, List.take_append_drop]
theorem g_sw_e {pc : Nat} {x : Int32} {d : Int} {f : Nat → Prop} : ∀ (os : List Int) (lo : Nat), g_sw pc x d f lo os → (g_j pc d f ∧ ∀ j, j < os.length → ¬ x = Int32.ofInt ((lo + j : Nat) : Int)) ∨ ∃ j o, os[j]? = some o ∧ x = Int32.ofInt ((lo + j : Nat) : Int) ∧ g_j pc o f
  | [], lo, h => Or.inl ⟨h, fun j hj => absurd hj (Nat.not_lt_zero _)⟩
  | o :: os, lo, h => by
    unfold g_sw at h
    split at h
    · next e => exact Or.inr ⟨0, o, rfl, e, h⟩
    · next e =>
      have e1 : ((lo : Int) + 1) = ((lo + 1 : Nat) : Int) := by omega
      rw [e1] at h
      rcases g_sw_e os (lo + 1) h with ⟨h1, h2⟩ | ⟨j, o', h1, h2, h3⟩
      · refine Or.inl ⟨h1, fun j hj => ?_⟩
        cases j with
        | zero => exact e
        | succ j =>
          have := h2 j (by simpa using hj)
          rwa [show lo + 1 + j = lo + (j + 1) by omega] at this
      · exact Or.inr ⟨j + 1, o', h1, by rw [h2, show lo + 1 + j = lo + (j + 1) by omega], h3⟩
section GS
variable {p : Program} {l : Launch} {e : Env} {R : Room} {s : State} {m : MethodId} {args : Array Value} {below : List Frame} {meth : Method} {c : Code} {H : Heap} {locs : List Loc} {cells slots : Nat} {Z : State → Prop}
variable {pc : Nat} {ls : Array Slot} {rest st0 : List Value} {a : Array Value} {A0 A1 : Nat → Prop} {H0 : Heap} {free : Addr → Prop}
variable {D : va_G} {G : gG} {cA : Nat → ClassId} {ad : Nat → Nat} {n : Nat} {tys : List (ClassId × FieldType)} {q : gK}
theorem g_call (hr : va_Run p l e R s m args below meth c H locs cells slots 0 0 (F0 m pc ls st0) rest (gQc D G cA ad n q A1 a) free) (hS : va_S A0 H0 H locs) (hA : ∀ q, q < H.size → A1 q → A0 q) (hf : ∀ q, free q → A0 q)
    (kk : ∀ (r : Option Value) (σ' : gM) (H1 : Heap) (locs1 : List Loc), (r = none ∨ ∃ x, r = some (.int x)) → q r σ' → va_P D vwCl (gW G cA ad n σ') H1 → va_S A0 H0 H1 locs1 → W p l e R s m args below meth c H1 locs1 cells slots Z (F0 m (pc + 3) ls (r.toList ++ rest))) : W p l e R s m args below meth c H locs cells slots Z (F0 m pc ls st0) := by
  intro T hT X
  obtain ⟨v, st₀, t, T', L, h0, X', hL, e1, e2, ⟨⟨r, σ', hv, hrr, hq, hP⟩, hz, hk⟩, st⟩ := hr T hT X
  cases hv
  rw [h0] at hz hk
  obtain ⟨t2, a1, b1⟩ := kk v σ' T'.heap (locs ++ L) hrr hq (by rw [e1]; exact hP)
    ⟨Nat.le_trans hS.1 (by rw [e1]; exact hz), fun q h1 h2 => by rw [e1, hk q (Nat.lt_of_lt_of_le h1 hS.1) (fun z => h2 (hA q (Nat.lt_of_lt_of_le h1 hS.1) z))]; exact hS.2.1 q h1 h2, fun q hq => by
      rcases List.mem_append.mp hq with h | h
      · exact hS.2.2 q h
      · exact hf _ (hL q h)⟩ T' rfl X'
  exact ⟨t2, st t2 a1, b1⟩
end GS
