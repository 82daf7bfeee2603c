/-! a set of slots as the bits of a number -/
def bt (x : Int32) (s : Nat) : Bool := x.toBitVec.getLsbD s
def bs (x : Int32) (q : Nat) : Int32 := x ||| (1 <<< (nI q &&& 31))
theorem bt_0 (s : Nat) : bt 0 s = false := by
  unfold bt
  rw [show (0 : Int32).toBitVec = 0#32 from rfl, BitVec.getLsbD_zero]
theorem one_q : ∀ q, q < 30 → ((1 : Int32) <<< (nI q &&& 31)).toBitVec = BitVec.twoPow 32 q := by decide
theorem bt_bs {x : Int32} {q s : Nat} (hq : q < 30) (hs : s < 32) : bt (bs x q) s = (bt x s || decide (s = q)) := by
  unfold bt bs
  rw [Int32.toBitVec_or, BitVec.getLsbD_or, one_q q hq, BitVec.getLsbD_twoPow]
  have : (decide (s = q)) = (decide (q < 32) && decide (q = s)) := by
    by_cases e : s = q
    · subst e; simp; omega
    · have e2 : ¬ q = s := fun z => e z.symm
      simp [e, e2]
  rw [this]
theorem bs_same {x : Int32} {q : Nat} (hq : q < 30) (h : bt x q = true) : bs x q = x := by
  unfold bs
  apply Int32.toBitVec_inj.mp
  rw [Int32.toBitVec_or, one_q q hq]
  apply BitVec.eq_of_getLsbD_eq
  intro i hi
  rw [BitVec.getLsbD_or, BitVec.getLsbD_twoPow]
  by_cases e : q = i
  · subst e
    unfold bt at h
    rw [h]; simp
  · simp [e]
theorem bt_m1 {s : Nat} (hs : s < 32) : bt (-1) s = true := by
  unfold bt
  rw [show (-1 : Int32).toBitVec = BitVec.allOnes 32 by decide, BitVec.getLsbD_allOnes]
  simp [hs]
theorem bt_an {a b : Int32} {s : Nat} (hs : s < 32) : bt (a &&& (b ^^^ -1)) s = (bt a s && !bt b s) := by
  have := bt_m1 hs
  unfold bt at this ⊢
  rw [Int32.toBitVec_and, Int32.toBitVec_xor, BitVec.getLsbD_and, BitVec.getLsbD_xor, this]
  simp
theorem bt_sh : ∀ s, s < 30 → ((nI s &&& 31).toBitVec.smod 32) = BitVec.ofNat 32 s := by decide
theorem bt_t {x : Int32} {s : Nat} (hs : s < 30) : ((x >>> (nI s &&& 31)) &&& 1 = 1) ↔ bt x s = true := by
  have key : ((x >>> (nI s &&& 31)) &&& 1).toBitVec = if bt x s = true then 1#32 else 0#32 := by
    rw [Int32.toBitVec_and, Int32.toBitVec_shiftRight, bt_sh s hs]
    apply BitVec.eq_of_getLsbD_eq
    intro i hi
    rw [BitVec.getLsbD_and, show (1 : Int32).toBitVec = 1#32 from rfl, BitVec.sshiftRight_eq', BitVec.toNat_ofNat, Nat.mod_eq_of_lt (show s < 2 ^ 32 by omega), BitVec.getLsbD_sshiftRight]
    by_cases e : i = 0
    · subst e
      have h2 : s + 0 < 32 := by omega
      unfold bt
      cases hb : x.toBitVec.getLsbD s <;> simp [hb, h2] <;> omega
    · have h1 : (1#32).getLsbD i = false := by
        rw [BitVec.getLsbD_one]
        simp [e]
      rw [h1, Bool.and_false]
      split
      · rw [h1]
      · simp
  constructor
  · intro h
    rw [h] at key
    by_cases e : bt x s = true
    · exact e
    · rw [if_neg e] at key; exact absurd key (by decide)
  · intro h
    rw [if_pos h] at key
    exact Int32.toBitVec_inj.mp (by rw [key]; rfl)
theorem bs_cnt {x : Int32} {q : Nat} (hq : q < 30) (h : bt x q = false) : gCnt (bt (bs x q)) 30 = gCnt (bt x) 30 + 1 := by
  rw [gCnt_rm (c := bt (bs x q)) (a := q) hq (by rw [bt_bs hq (by omega)]; simp)]
  congr 1
  refine gCnt_congr fun i hi => ?_
  rw [bt_bs hq (by omega)]
  by_cases e : i = q
  · subst e; rw [h]; simp
  · have : (i == q) = false := by simpa using e
    simp [e, this]
