/-! THE CLAIM OUT OF ONE WALK OF THE LAW'S BODY. Your part is whole_start (and what it stands on); all else here is the same for every law, but numbers. -/
def R_law : String := "RegionHandlesLaw"
def lw_P (b : Addr) (xs : List Int32) (args : Array Value) (s : State) : Prop := args = #[.ref b] ∧ s.IntsAt b xs ∧ xs.length ≤ 2048 ∧ (Jvm.Cond.and given_1 narrow_1).before args s = true
def lw_Q (_ : Array Value) (s : State) (o : Outcome) (t : State) : Prop := o = .returned (some (.int 1)) ∧ Framed s o t [] 600000 7302250
def lw_Z (below : List Frame) (a : Array Value) (s : State) : State → Prop := fun t => ∃ o, t.status = .running ∧ Ended t below o ∧ lw_Q a s o t
/-- the law's own end, with 1 on the stack, nothing written that was there before, its room as the claim has it -/
theorem lw_ret {p : Program} {l : Launch} {e : Env} {s : State} {m : MethodId} {below : List Frame} {meth : Method} {c : Code} {b : Nat} (hx : p.tables.exec = Jvm.exec) (hb : c.code = code) (hr : meth.sig.returnType = ret) (hlocks : meth.locks = false) {pc : Nat} {H : Heap} {ls : Array Slot} (hdg : decode code pc = .ok (.ireturn, 1)) : W p l e room_1 s m #[Value.ref b] below meth c H [] 600000 7302250 (lw_Z below #[Value.ref b] s) (F0 m pc ls [.int 1]) := by
  intro T hT X
  obtain ⟨fs, hret, hrun, hended, hW, hframe⟩ := X.leave (v := some (.int 1)) (hlocks := hlocks) (fun h => by rw [hr] at h; cases h)
  have hmeth' : T.vm.method? m = some meth := X.method'
  refine ⟨T.setFrames fs, ?_, .returned (some (.int 1)), hrun, hended, rfl, ⟨_, rfl⟩, hW, hframe⟩
  jvm_step X.here [X.here.top, hx, hb, hdg, hmeth', hr, ret, narrow_b1]
  (try refine ⟨rfl, ?_⟩); (try refine ⟨rfl, ?_⟩)
  first | (intro acts; rw [hret _ acts rfl rfl rfl]) | rw [hret _ _ rfl rfl rfl]
  exact Steps.refl _
/-- what holds at the law's entry: the machine, the code, the tables' words (any of lw_tbl by 'hts w (by decide +kernel)'), the script of L ints xs at the cell b, what the Statement gives of the start (any of its parts by flat_of_before) -/
def lw_At (p : Program) (s : State) (m : MethodId) (meth : Method) (c : Code) (b L : Nat) (xs : Nat → Int32) : Prop :=
  p.tables.exec = Jvm.exec ∧ c.code = code ∧ meth.sig.returnType = ret ∧ c.maxLocals = 4 ∧ s.vm.findClass R_law = some m.cls ∧ (∀ w ∈ lw_tbl, w.before #[Value.ref b] s = true) ∧ va_X b L xs s s.heap ∧ b < s.heap.size ∧ meth.locks = false ∧ (Jvm.Cond.and given_1 narrow_1).before #[Value.ref b] s = true
/-- behind the beginning: the small machine goes on to the end -/
theorem st_run {p : Program} {e : Env} {s : State} {m : MethodId} {below : List Frame} {meth : Method} {c : Code} {H : Heap} {locs : List Loc} {ls : Array Slot} {D : va_G} {A : Nat → Prop} {x : ClassId × ClassId} (l : Launch) {b L : Nat} {xs : Nat → Int32} {a1 a2 : Nat → Nat} {cells slots : Nat} (hL : L ≤ 2048) (hx : p.tables.exec = Jvm.exec) (hb : c.code = cL_law) (hml : c.maxLocals = 4) (hr : meth.sig.returnType = ret) (hlocks : meth.locks = false) (hown : s.vm.findClass RL = some m.cls) (hts : ∀ w ∈ gT, w.before #[Value.ref b] s = true) (hNs : gNw s) (hK : va_K D vwCl [(x.1, .int), (x.2, .array .int)] s) (hA : ∀ q, s.heap.size ≤ q → A q) (hA2 : ∀ q, A q → s.heap.size ≤ q) (hX : va_X b L xs s s.heap) (hbl : b < s.heap.size) (hbA : ¬ A b)
    (hP : va_P D vwCl (lW L0 x (gJ 104 a1 a2) g_s0) H) (hD : va_D A (lW L0 x (gJ 104 a1 a2) g_s0)) (hS : va_S A s.heap H locs) (hl : lv_has ls 4 [(3, .int 0), (2, .ref (a2 0)), (1, .ref (a1 0)), (0, .ref b)]) (hc : cells ≤ 600000) (hs : slots ≤ 7302250) :
    W p l e room_1 s m #[Value.ref b] below meth c H locs cells slots (lw_Z below #[Value.ref b] s) (F0 m 18 ls []) := by
  obtain ⟨ad, had⟩ : ∃ ad : Nat → Nat, ad = fun i => if i = 130 then b else gJ 104 a1 a2 i := ⟨_, rfl⟩
  obtain ⟨G1, hG1⟩ : ∃ G1, G1 = gScr L fun j => (xs j).toBitVec.toNat := ⟨_, rfl⟩
  have e1 : ∀ σ, lW L0 x (gJ 104 a1 a2) σ = gW G1 (gCc (gOf L0) x) ad 126 σ := fun σ => by
    rw [hG1, gW_scr (Nat.le_refl _), ← L0_len]
    refine gW_ad clo_0 (fun i hi => ?_)
    rw [L0_len] at hi
    rw [had]
    exact (if_neg (by omega)).symm
  have e2 : ∀ σ, gW G1 (gCc (gOf L0) x) ad 126 σ = gW (gOf L0) (gCc (gOf L0) x) ad 126 σ := fun σ => by rw [hG1, gW_scr (Nat.le_refl _)]
  rw [e1] at hP hD
  have hW1 : gWorld G1 126 (gCc (gOf L0) x) [(x.1, .int), (x.2, .array .int)] := by rw [hG1]; exact gWorld_scr
  have hW0 : gWorld (gOf L0) 126 (gCc (gOf L0) x) [(x.1, .int), (x.2, .array .int)] := by
    have := gWorld_of (L := L0) (x := x)
    rw [L0_len] at this
    exact this
  have h13 : ∀ i, (gOf L0 i).1 ≠ 13 := gOf_13 (by decide +kernel)
  have eB : ∀ sz σ, gB D G1 (gCc (gOf L0) x) ad 126 [(x.1, .int), (x.2, .array .int)] sz σ = gB D (gOf L0) (gCc (gOf L0) x) ad 126 [(x.1, .int), (x.2, .array .int)] sz σ := fun sz σ => by
    funext U
    unfold gB
    rw [e2]
  have eQ : ∀ q A, gQc D G1 (gCc (gOf L0) x) ad 126 q A = gQc D (gOf L0) (gCc (gOf L0) x) ad 126 q A := fun q A => by
    unfold gQc
    simp only [e2]
  have hX1 : ∀ i, (G1 i).1 = 13 → va_X (ad i) (G1 i).2.1 (fun j => Int32.ofNat ((G1 i).2.2 j)) s s.heap ∧ ad i < s.heap.size ∧ ¬ A (ad i) := fun i hi => by
    by_cases h : i = 130
    · subst h
      have e3 : G1 130 = (13, L, fun j => (xs j).toBitVec.toNat) := by rw [hG1]; rfl
      have e4 : ad 130 = b := by rw [had]; rfl
      rw [e3, e4]
      refine ⟨?_, hbl, hbA⟩
      have e5 : (fun j => Int32.ofNat (xs j).toBitVec.toNat) = xs := funext fun j => by rw [Int32.ofNat_bitVecToNat, Int32.ofBitVec_toBitVec]
      show va_X b L (fun j => Int32.ofNat (xs j).toBitVec.toNat) s s.heap
      rw [e5]
      exact hX
    · rw [hG1, gScr_o h] at hi
      exact absurd hi (h13 i)
  have hg : gw (gCm' (gOf L0) 7) G1 mL_law (fun r _ => r = some (.int 1)) 18 [.ref 130, .ref 0, .ref 104, .int (nI 0)] [] g_s0 := by
    have q9 : isX9 G1 0 := by rw [hG1]; exact sh9_0
    have q10 : isX10 G1 104 := by
      rw [hG1]
      obtain ⟨h0, h1, h2, h3, h4, h5, h6, h7, h8, h9, h10, h11, h12, h13, ⟨r1, r2, r3, r4⟩, h15⟩ := sh10_0
      refine ⟨h0, h1, h2, h3, h4, h5, h6, h7, h8, h9, h10, h11, h12, h13, ⟨r1, r2, r3, fun j hj => ?_⟩, h15⟩
      have e : gScr L (fun j => (xs j).toBitVec.toNat) (104 + 15 + j) = gOf L0 (104 + 15 + j) := gScr_o (by omega)
      have r := r4 j hj
      exact ⟨r.1, by rw [e]; exact r.2.1, by rw [e]; exact r.2.2⟩
    refine law_loop (L := L) ok_0 sep_0 (by rw [hG1]; rfl) (by rw [hG1]; rfl) q9 q10 hL (fun _ => rfl) 513 0 0 g_s0 (by omega) (by omega) (by omega) wRel_0 s0_mode
  have key := wp_le (P := gRel p l e room_1 s m #[Value.ref b] below meth c cells slots (lw_Z below #[Value.ref b] s) A s.heap D G1 (gCc (gOf L0) x) ad 126 4) (fun pc ls st σ' h => g_step (M := mL_law) (rm := gRm 7) (tys := [(x.1, .int), (x.2, .array .int)]) hx hb hml hown hts gTab_ok hW1 hNs hK (gW_D hD) hA hX1 rfl rfl (Nat.le_of_ble_eq_true rfl) (Nat.le_of_ble_eq_true rfl) ⟨hc, hs⟩ (fun Y np as σ q sz h1 h2 h3 => by
      rw [eB, eQ, e2]
      exact g_sound l D gTab_ok hW0 h13 7 Y np as σ q sz h1 h2 h3) (fun pc S x σ H locs hd h1 h2 hP hS => by
      cases h2
      refine va_forget (fun q hq => hA2 _ (hS.2.2 q hq)) (W.widen hc hs (lw_ret hx hb hr hlocks hd))) (fun pc S σ H locs hd h1 h2 hP hS => by cases h2) h) hg
  refine key H locs ls ⟨hl.1, hl.2.1, fun q hq => hl.2.2 q ?_⟩ rfl (fun v hv => by cases hv) hP hS
  have e6 : gLv ad [.ref 130, .ref 0, .ref 104, .int (nI 0)] = [(0, .ref b), (1, .ref (a1 0)), (2, .ref (a2 0)), (3, .int 0)] := by rw [had]; rfl
  rw [e6] at hq
  simp only [List.mem_cons, List.not_mem_nil, or_false] at hq ⊢
  rcases hq with h | h | h | h
  · exact Or.inr (Or.inr (Or.inr h))
  · exact Or.inr (Or.inr (Or.inl h))
  · exact Or.inr (Or.inl h)
  · exact Or.inl h
