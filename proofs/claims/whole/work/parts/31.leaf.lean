/-! PURE. What the leaves answer: the class's Shape, the reference's own -/
/-- whether a set has a copy: both sides write it so -/
def bt (x : Int32) (j : Nat) : Prop := (x >>> (nI j &&& 31)) &&& 1 = 1
theorem ixs (a b : Nat) : nI a + nI b = nI (a + b) := nI_add a b
theorem sp_copies (R : Nat → Int32) : fX7_copies R = some (R 30) := by
  unfold fX7_copies
  rw [n30, ckN (by decide) (by decide), nI_clamp (by decide)]
theorem sp_sets (R : Nat → Int32) : fX7_sets R = some (1 <<< (R 30 &&& 31)) := by
  unfold fX7_sets
  rw [n30, ckN (by decide) (by decide), nI_clamp (by decide)]
theorem sp_configurations (R : Nat → Int32) : fX7_configurations R = some (R 31) := by
  unfold fX7_configurations
  rw [n31, ckN (by decide) (by decide), nI_clamp (by decide)]
theorem sp_newest (R : Nat → Int32) : fX7_newest R = some (R 31 - 1) := by
  unfold fX7_newest
  rw [n31, ckN (by decide) (by decide), nI_clamp (by decide)]
theorem sp_isUp {j : Nat} (hj : j < 6) (R : Nat → Int32) : fX7_isUp (nI j) R = some (if R j = 1 then 1 else 0) := by
  unfold fX7_isUp
  rw [n0, ixs, ckN (by omega) (by decide), nI_clamp (by omega), Nat.zero_add]
  by_cases h : R j = 1
  · rw [if_pos h, if_pos h]
  · rw [if_neg h, if_neg h]
theorem sp_groupOf {j : Nat} (hj : j < 6) (R : Nat → Int32) : fX7_groupOf (nI j) R = some (R (6 + j)) := by
  unfold fX7_groupOf
  rw [n6, ixs, ckN (by omega) (by decide), nI_clamp (by omega)]
theorem sp_versionOf {j : Nat} (hj : j < 6) (R : Nat → Int32) : fX7_versionOf (nI j) R = some (R (12 + j)) := by
  unfold fX7_versionOf
  rw [n12, ixs, ckN (by omega) (by decide), nI_clamp (by omega)]
theorem sp_valueOf {j : Nat} (hj : j < 6) (R : Nat → Int32) : fX7_valueOf (nI j) R = some (R (18 + j)) := by
  unfold fX7_valueOf
  rw [n18, ixs, ckN (by omega) (by decide), nI_clamp (by omega)]
theorem sp_configurationOf {j : Nat} (hj : j < 6) (R : Nat → Int32) : fX7_configurationOf (nI j) R = some (R (24 + j)) := by
  unfold fX7_configurationOf
  rw [n24, ixs, ckN (by omega) (by decide), nI_clamp (by omega)]
theorem ixc (c j : Nat) : (32 : Int32) + nI c * 9 + nI j = nI (32 + c * 9 + j) := by
  rw [n32, n9, pk_mul, ixs, ixs]
theorem sp_votesOf {c j : Nat} (hc : c < 8) (hj : j < 6) (R : Nat → Int32) : fX7_votesOf (nI c) (nI j) R = some (R (32 + c * 9 + j)) := by
  unfold fX7_votesOf
  rw [ixc, ckN (by omega) (by decide), nI_clamp (by omega)]
theorem sp_readOf {c : Nat} (hc : c < 8) (R : Nat → Int32) : fX7_readOf (nI c) R = some (R (32 + c * 9 + 7)) := by
  unfold fX7_readOf
  rw [n7, ixc, ckN (by omega) (by decide), nI_clamp (by omega)]
theorem sp_writeOf {c : Nat} (hc : c < 8) (R : Nat → Int32) : fX7_writeOf (nI c) R = some (R (32 + c * 9 + 8)) := by
  unfold fX7_writeOf
  rw [n8, ixc, ckN (by omega) (by decide), nI_clamp (by omega)]
theorem sp_need {c : Nat} (hc : c < 8) (w : Int32) (R : Nat → Int32) : fX7_need (nI c) w R = some (if w = 0 then R (32 + c * 9 + 7) else R (32 + c * 9 + 8)) := by
  unfold fX7_need
  by_cases h : w = 0
  · rw [if_pos h, if_pos h, sp_readOf hc]; rfl
  · rw [if_neg h, if_neg h, sp_writeOf hc]; rfl
theorem sp_isWitness {c : Nat} (hc : c < 8) (j : Nat) (R : Nat → Int32) : (bt (R (32 + c * 9 + 6)) j ∧ fX7_isWitness (nI c) (nI j) R = some 1) ∨ (¬ bt (R (32 + c * 9 + 6)) j ∧ fX7_isWitness (nI c) (nI j) R = some 0) := by
  unfold fX7_isWitness bt
  rw [n6, ixc, ckN (by omega) (by decide), nI_clamp (by omega)]
  by_cases h : R (32 + c * 9 + 6) >>> (nI j &&& 31) &&& 1 = 1
  · exact Or.inl ⟨h, if_pos h⟩
  · exact Or.inr ⟨h, if_neg h⟩
/-! the reference's leaves -/
theorem rf_has (x : Int32) (j : Nat) : (bt x j ∧ fX11_has x (nI j) = some 1) ∨ (¬ bt x j ∧ fX11_has x (nI j) = some 0) := by
  unfold fX11_has bt
  by_cases h : x >>> (nI j &&& 31) &&& 1 = 1
  · exact Or.inl ⟨h, if_pos h⟩
  · exact Or.inr ⟨h, if_neg h⟩
theorem rf_confAt (c : Nat) : fX11_confAt (nI c) = some (nI (31 + c * 9)) := by
  unfold fX11_confAt
  rw [n31, n9, pk_mul, ixs, Nat.mul_comm 9 c]
theorem rf_newest {s : Nat → Int32} {M : Nat} (h : s 30 = nI M) (h1 : 1 ≤ M) : fX11_newest s = some (nI (31 + (M - 1) * 9)) := by
  unfold fX11_newest
  rw [n30, ckN (by decide) (by decide), nI_clamp (by decide), h, nsub1 h1, rf_confAt]
  rfl
