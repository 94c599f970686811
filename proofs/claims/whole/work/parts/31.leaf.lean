/-! PURE. What the leaves answer: the class's Shape, the reference's own -/
/-! rows on bits: out of kit/laws/BITS.to-paste -/
def bt (x : Int32) (i : Nat) : Bool := x.toBitVec.getLsbD i
theorem b_ext {x y : Int32} (h : ∀ i, i < 32 → bt x i = bt y i) : x = y := Int32.toBitVec_inj.mp (BitVec.eq_of_getLsbD_eq (fun i hi => h i hi))
theorem b_or (x y : Int32) (i : Nat) : bt (x ||| y) i = (bt x i || bt y i) := by unfold bt; rw [Int32.toBitVec_or, BitVec.getLsbD_or]
theorem b_and (x y : Int32) (i : Nat) : bt (x &&& y) i = (bt x i && bt y i) := by unfold bt; rw [Int32.toBitVec_and, BitVec.getLsbD_and]
theorem b_big {x : Int32} {i : Nat} (h : 32 ≤ i) : bt x i = false := BitVec.getLsbD_of_ge _ _ h
theorem b_0 (i : Nat) : bt 0 i = false := BitVec.getLsbD_zero
theorem s_l : ∀ n, n < 32 → ((nI n &&& 31).toBitVec.smod 32).toNat = n := by decide +kernel
theorem b_shl (n : Nat) (hn : n < 32) (x : Int32) {i : Nat} (hi : i < 32) : bt (x <<< (nI n &&& 31)) i = (decide (n ≤ i) && bt x (i - n)) := by
  unfold bt
  rw [Int32.toBitVec_shiftLeft]
  show (x.toBitVec <<< ((nI n &&& 31).toBitVec.smod 32).toNat).getLsbD i = _
  rw [s_l n hn, BitVec.getLsbD_shiftLeft]
  rcases Nat.lt_or_ge i n with h | h
  · simp [h, Nat.not_le.mpr h]
  · simp [hi, h, Nat.not_lt.mpr h]
theorem b_sshr (n : Nat) (hn : n < 32) (x : Int32) {i : Nat} (hi : i < 32) : bt (x >>> (nI n &&& 31)) i = if n + i < 32 then bt x (n + i) else bt x 31 := by
  unfold bt
  rw [Int32.toBitVec_shiftRight]
  show (x.toBitVec.sshiftRight ((nI n &&& 31).toBitVec.smod 32).toNat).getLsbD i = _
  rw [s_l n hn, BitVec.getLsbD_sshiftRight, BitVec.msb_eq_getLsbD_last]
  simp [hi]
theorem b_1 : ∀ i, i < 32 → bt 1 i = decide (i = 0) := by decide +kernel
theorem and1_iff (y : Int32) : y &&& 1 = 1 ↔ bt y 0 = true := by
  constructor
  · intro h
    have h2 : bt (y &&& 1) 0 = bt 1 0 := by rw [h]
    rw [b_and, b_1 0 (by decide)] at h2
    simpa using h2
  · intro h
    refine b_ext (fun i hi => ?_)
    rw [b_and, b_1 i hi]
    by_cases e : i = 0
    · subst e; rw [h]; rfl
    · rw [decide_eq_false e, Bool.and_false]
/-- whether a set has a copy: both sides write it so -/
theorem bt_iff {x : Int32} {j : Nat} (hj : j < 32) : (x >>> (nI j &&& 31)) &&& 1 = 1 ↔ bt x j = true := by
  rw [and1_iff, b_sshr j hj x (by decide), if_pos (by omega), Nat.add_zero]
theorem bt_or1 {x : Int32} {i j : Nat} (hi : i < 32) (hj : j < 32) : bt (x ||| (1 <<< (nI i &&& 31))) j = (bt x j || decide (i = j)) := by
  rw [b_or, b_shl i hi 1 hj]
  by_cases h : i ≤ j
  · rw [b_1 _ (by omega), decide_eq_true h]
    by_cases e : i = j
    · rw [decide_eq_true e, decide_eq_true (by omega)]; rfl
    · rw [decide_eq_false e, decide_eq_false (by omega)]; rfl
  · rw [decide_eq_false h, decide_eq_false (by omega)]; rfl
theorem ixs (a b : Nat) : nI a + nI b = nI (a + b) := nI_add a b
theorem sp_copies (R : Nat → Int32) : fX7_copies R = some (R 30) := by
  unfold fX7_copies
  rw [n30, ckN (by decide) (by decide), nI_clamp (by decide)]
theorem sp_sets (R : Nat → Int32) : fX7_sets R = some (1 <<< (R 30 &&& 31)) := by
  unfold fX7_sets
  rw [n30, ckN (by decide) (by decide), nI_clamp (by decide)]
theorem sp_configurations (R : Nat → Int32) : fX7_configurations R = some (R 31) := by
  unfold fX7_configurations
  rw [n31, ckN (by decide) (by decide), nI_clamp (by decide)]
theorem sp_newest (R : Nat → Int32) : fX7_newest R = some (R 31 - 1) := by
  unfold fX7_newest
  rw [n31, ckN (by decide) (by decide), nI_clamp (by decide)]
theorem sp_isUp {j : Nat} (hj : j < 6) (R : Nat → Int32) : fX7_isUp (nI j) R = some (if R j = 1 then 1 else 0) := by
  unfold fX7_isUp
  rw [n0, ixs, ckN (by omega) (by decide), nI_clamp (by omega), Nat.zero_add]
  by_cases h : R j = 1
  · rw [if_pos h, if_pos h]
  · rw [if_neg h, if_neg h]
theorem sp_groupOf {j : Nat} (hj : j < 6) (R : Nat → Int32) : fX7_groupOf (nI j) R = some (R (6 + j)) := by
  unfold fX7_groupOf
  rw [n6, ixs, ckN (by omega) (by decide), nI_clamp (by omega)]
theorem sp_versionOf {j : Nat} (hj : j < 6) (R : Nat → Int32) : fX7_versionOf (nI j) R = some (R (12 + j)) := by
  unfold fX7_versionOf
  rw [n12, ixs, ckN (by omega) (by decide), nI_clamp (by omega)]
theorem sp_valueOf {j : Nat} (hj : j < 6) (R : Nat → Int32) : fX7_valueOf (nI j) R = some (R (18 + j)) := by
  unfold fX7_valueOf
  rw [n18, ixs, ckN (by omega) (by decide), nI_clamp (by omega)]
theorem sp_configurationOf {j : Nat} (hj : j < 6) (R : Nat → Int32) : fX7_configurationOf (nI j) R = some (R (24 + j)) := by
  unfold fX7_configurationOf
  rw [n24, ixs, ckN (by omega) (by decide), nI_clamp (by omega)]
theorem ixc (c j : Nat) : (32 : Int32) + nI c * 9 + nI j = nI (32 + c * 9 + j) := by
  rw [n32, n9, pk_mul, ixs, ixs]
theorem sp_votesOf {c j : Nat} (hc : c < 8) (hj : j < 6) (R : Nat → Int32) : fX7_votesOf (nI c) (nI j) R = some (R (32 + c * 9 + j)) := by
  unfold fX7_votesOf
  rw [ixc, ckN (by omega) (by decide), nI_clamp (by omega)]
theorem sp_readOf {c : Nat} (hc : c < 8) (R : Nat → Int32) : fX7_readOf (nI c) R = some (R (32 + c * 9 + 7)) := by
  unfold fX7_readOf
  rw [n7, ixc, ckN (by omega) (by decide), nI_clamp (by omega)]
theorem sp_writeOf {c : Nat} (hc : c < 8) (R : Nat → Int32) : fX7_writeOf (nI c) R = some (R (32 + c * 9 + 8)) := by
  unfold fX7_writeOf
  rw [n8, ixc, ckN (by omega) (by decide), nI_clamp (by omega)]
theorem sp_need {c : Nat} (hc : c < 8) (w : Int32) (R : Nat → Int32) : fX7_need (nI c) w R = some (if w = 0 then R (32 + c * 9 + 7) else R (32 + c * 9 + 8)) := by
  unfold fX7_need
  by_cases h : w = 0
  · rw [if_pos h, if_pos h, sp_readOf hc]; rfl
  · rw [if_neg h, if_neg h, sp_writeOf hc]; rfl
theorem sp_isWitness {c j : Nat} (hc : c < 8) (hj : j < 32) (R : Nat → Int32) : fX7_isWitness (nI c) (nI j) R = some (if bt (R (32 + c * 9 + 6)) j = true then 1 else 0) := by
  unfold fX7_isWitness
  rw [n6, ixc, ckN (by omega) (by decide), nI_clamp (by omega)]
  by_cases h : bt (R (32 + c * 9 + 6)) j = true
  · rw [if_pos ((bt_iff hj).mpr h), if_pos h]
  · rw [if_neg (fun q => h ((bt_iff hj).mp q)), if_neg h]
/-! the reference's leaves -/
theorem rf_has {x : Int32} {j : Nat} (hj : j < 32) : fX11_has x (nI j) = some (if bt x j = true then 1 else 0) := by
  unfold fX11_has
  by_cases h : bt x j = true
  · rw [if_pos ((bt_iff hj).mpr h), if_pos h]
  · rw [if_neg (fun q => h ((bt_iff hj).mp q)), if_neg h]
theorem rf_confAt (c : Nat) : fX11_confAt (nI c) = some (nI (31 + c * 9)) := by
  unfold fX11_confAt
  rw [n31, n9, pk_mul, ixs, Nat.mul_comm 9 c]
theorem rf_newest {s : Nat → Int32} {M : Nat} (h : s 30 = nI M) (h1 : 1 ≤ M) : fX11_newest s = some (nI (31 + (M - 1) * 9)) := by
  unfold fX11_newest
  rw [n30, ckN (by decide) (by decide), nI_clamp (by decide), h, nsub1 h1, rf_confAt]
  rfl
