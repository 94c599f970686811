/-! PURE. votes: a new configuration -/
theorem ixc0 (c : Nat) : (32 : Int32) + nI c * 9 = nI (32 + c * 9) := by rw [n32, n9, pk_mul, ixs]
theorem sp_addLike {R : Nat → Int32} {c M : Nat} (hc : c < 8) (hM : M < 8) (h31 : R 31 = nI M) : fX7_addLike (nI c) R = some (nI M, upd (va_cpy R R (32 + c * 9) (32 + M * 9) 9) 31 (nI (M + 1))) := by
  have e1 : (nI (32 + c * 9)).toNatClampNeg = 32 + c * 9 := nI_clamp (by omega)
  have e2 : (nI (32 + M * 9)).toNatClampNeg = 32 + M * 9 := nI_clamp (by omega)
  have e3 : Int32.toNatClampNeg 9 = 9 := rfl
  have e4 : Int32.toNatClampNeg 31 = 31 := rfl
  unfold fX7_addLike
  rw [e4, h31, ixc0, ixc0, e1, e2, e3, nI_1, cpI_in (nI_pos (by omega)) (nI_pos (by omega)) (by decide) (by rw [e1, e3]; omega) (by rw [e2, e3]; omega), show (31 : Int32) = nI 31 from rfl, ckN (by decide) (by decide), ckN (by decide) (by decide)]
theorem sp_setNeeds {R : Nat → Int32} {M : Nat} (hM : M < 8) (rd wr : Int32) : fX7_setNeeds (nI M) rd wr R = some (upd (upd R (32 + M * 9 + 7) rd) (32 + M * 9 + 8) wr) := by
  unfold fX7_setNeeds
  rw [n7, n8, ixc, ixc, ckN (by omega) (by decide), ckN (by omega) (by decide), nI_clamp (by omega), nI_clamp (by omega)]
/-- a witness' bit, set or not -/
def wb (A : Int32) (cp : Nat) (z : Int32) : Int32 := if z = 0 then A &&& (((1 : Int32) <<< (nI cp &&& 31)) ^^^ (-1)) else A &&& (((1 : Int32) <<< (nI cp &&& 31)) ^^^ (-1)) ||| ((1 : Int32) <<< (nI cp &&& 31))
theorem sp_setVoter {R : Nat → Int32} {M cp : Nat} (hM : M < 8) (hcp : cp < 6) (v z : Int32) : fX7_setVoter (nI M) (nI cp) v z R = some (upd (upd R (32 + M * 9 + cp) v) (32 + M * 9 + 6) (wb (R (32 + M * 9 + 6)) cp z)) := by
  unfold fX7_setVoter nmI wb
  rw [n6, ixc, ixc, ckN (by omega) (by decide), ckN (by omega) (by decide), nI_clamp (by omega), nI_clamp (by omega), pk_un (by omega)]
  dsimp only
  rw [ckN (by omega) (by decide), ckN (by omega) (by decide)]
  by_cases h : z = 0
  · rw [if_pos h, if_pos h]
  · rw [if_neg h, if_neg h]
theorem lawful_eq {r w : Nat} (hr : 1 ≤ r) (hr2 : r ≤ 30) (hw : 1 ≤ w) (hw2 : w ≤ 30) (t : Int32) : fX11_isLawful t (nI r) (nI w) = fX10_isLawful t (nI r) (nI w) := by
  unfold fX11_isLawful fX10_isLawful fX11_in
  rw [n1, if_neg (nI_nlt hr (by omega)), if_neg (nI_nlt hw (by omega))]
  by_cases h1 : nI r + nI w ≤ t
  · rw [if_pos h1, if_pos h1]
  · rw [if_neg h1, if_neg h1]
    by_cases h2 : 2 * nI w ≤ t
    · rw [if_pos h2, if_pos h2]
    · rw [if_neg h2, if_neg h2]
      by_cases h3 : t < nI r
      · rw [if_pos h3, if_pos h3]; rfl
      · rw [if_neg h3, if_neg h3]
        by_cases h4 : t < nI w
        · rw [if_pos h4]; rfl
        · rw [if_neg h4]; rfl
theorem lawful_c (t r w : Int32) : fX10_isLawful t r w = some 0 ∨ (fX10_isLawful t r w = some 1 ∧ ¬ t < r ∧ ¬ t < w) := by
  unfold fX10_isLawful
  by_cases h1 : r + w ≤ t
  · left; rw [if_pos h1]
  · by_cases h2 : 2 * w ≤ t
    · left; rw [if_neg h1, if_pos h2]
    · by_cases h3 : t < r
      · left; rw [if_neg h1, if_neg h2, if_pos h3]
      · by_cases h4 : t < w
        · left; rw [if_neg h1, if_neg h2, if_neg h3, if_pos h4]
        · right; rw [if_neg h1, if_neg h2, if_neg h3, if_neg h4]; exact ⟨rfl, h3, h4⟩
theorem fA_nat {V : Nat → Int32} {v : Nat → Nat} (h : ∀ j, j < 6 → V j = nI (v j)) : fA V 6 0 0 = nI (vt v) := by
  show 0 + V 0 + V 1 + V 2 + V 3 + V 4 + V 5 = nI (vt v)
  rw [h 0 (by decide), h 1 (by decide), h 2 (by decide), h 3 (by decide), h 4 (by decide), h 5 (by decide), Int32.zero_add, ixs, ixs, ixs, ixs, ixs]
  rfl
/-- the reference's copying of a configuration -/
theorem rf_votes_loop {cp v z rd wr p va cpn : Int32} {c M : Nat} (hc : c < M) (hM : M < 8) {th um : Int32} {U : Nat → Int32} : ∀ (d f i : Nat) (s : Nat → Int32), i + d = 9 → d < f → ∃ s1, fX11_votes_195 cp v z rd wr p (nI (31 + c * 9)) va (nI M) (nI (31 + M * 9)) cpn f (nI i) th um s U = fX11_votes_195 cp v z rd wr p (nI (31 + c * 9)) va (nI M) (nI (31 + M * 9)) cpn 1 (nI 9) th um s1 U ∧ ∀ j, s1 j = if 31 + M * 9 + i ≤ j ∧ j < 31 + M * 9 + 9 then s (j - (31 + M * 9) + (31 + c * 9)) else s j := by
  intro d
  induction d with
  | zero =>
    intro f i s hi hf
    obtain ⟨f, rfl⟩ : ∃ g, f = g + 1 := ⟨f - 1, by omega⟩
    obtain rfl : i = 9 := by omega
    refine ⟨s, ?_, fun j => by rw [if_neg (by omega)]⟩
    rw [fX11_votes_195_s, fX11_votes_195_s, if_pos (by decide), if_pos (by decide)]
  | succ d ih =>
    intro f i s hi hf
    obtain ⟨f, rfl⟩ : ∃ g, f = g + 1 := ⟨f - 1, by omega⟩
    obtain ⟨s1, e, hs⟩ := ih f (i + 1) (upd s (31 + M * 9 + i) (s (31 + c * 9 + i))) (by omega) (by omega)
    refine ⟨s1, ?_, fun j => ?_⟩
    · rw [fX11_votes_195_s, n9, if_neg (nI_ge (by omega) (by omega)), ixs, ixs, ckN (by omega) (by decide), ckN (by omega) (by decide), nI_clamp (by omega), nI_clamp (by omega), nI_1]
      exact e
    · rw [hs j]
      by_cases hj : j = 31 + M * 9 + i
      · subst hj
        rw [if_neg (by omega), pk_us, if_pos (by omega), Nat.add_sub_cancel_left, Nat.add_comm i]
      · by_cases h2 : 31 + M * 9 + (i + 1) ≤ j ∧ j < 31 + M * 9 + 9
        · rw [if_pos h2, if_pos (by omega), pk_un (by omega)]
        · rw [if_neg h2, if_neg (by omega), pk_un hj]
theorem wb_eq {z : Nat} (hz : z ≤ 1) (A : Int32) (cp : Nat) : A &&& (((1 : Int32) <<< (nI cp &&& 31)) ^^^ (-1)) ||| (nI z <<< (nI cp &&& 31)) = wb A cp (if nI z = 1 then 1 else 0) := by
  rcases (show z = 0 ∨ z = 1 by omega) with rfl | rfl
  · rw [if_neg (by decide)]
    unfold wb
    rw [if_pos rfl]
    have : nI 0 <<< (nI cp &&& 31) = 0 := by
      refine b_ext (fun i hi => ?_)
      rw [b_0]
      show (Int32.toBitVec (nI 0 <<< (nI cp &&& 31))).getLsbD i = false
      rw [Int32.toBitVec_shiftLeft]
      simp [nI]
    rw [this, Int32.or_zero]
  · rw [if_pos (by decide)]
    unfold wb
    rw [if_neg (by decide)]
    rfl
/-- what the two rows are with the new configuration -/
theorem new_row {n c M cp rd wr vv : Nat} (hn : n ≤ 6) (hc : c < M) (hM : M < 8) (hcp : cp < n) (hvv : vv ≤ 5) (hrd : rd ≤ 30) (hwr : wr ≤ 30) {R s R3 s3 : Nat → Int32} {W : Int32} (hR : RowP n R s) (h30 : s 30 = nI M)
    (hlaw : ∀ v : Nat → Nat, (∀ j, j < 6 → v j ≤ 5 ∧ s (31 + c * 9 + j) = nI (v j)) → rd ≤ vt (fun j => if j = cp then vv else v j) ∧ wr ≤ vt (fun j => if j = cp then vv else v j))
    (a1 : ∀ i, i < 31 → R3 i = R i) (a2 : R3 31 = nI (M + 1)) (a3 : ∀ c', c' < 8 → c' ≠ M → ∀ k, k < 9 → R3 (32 + c' * 9 + k) = R (32 + c' * 9 + k)) (a4 : ∀ j, j < 6 → R3 (32 + M * 9 + j) = if j = cp then nI vv else R (32 + c * 9 + j)) (a5 : R3 (32 + M * 9 + 6) = W) (a6 : R3 (32 + M * 9 + 7) = nI rd) (a7 : R3 (32 + M * 9 + 8) = nI wr)
    (b1 : ∀ i, i < 30 → s3 i = s i) (b2 : s3 30 = nI (M + 1)) (b3 : ∀ c', c' < 8 → c' ≠ M → ∀ k, k < 9 → s3 (31 + c' * 9 + k) = s (31 + c' * 9 + k)) (b4 : ∀ j, j < 6 → s3 (31 + M * 9 + j) = if j = cp then nI vv else s (31 + c * 9 + j)) (b5 : s3 (31 + M * 9 + 8) = W) (b6 : s3 (31 + M * 9 + 6) = nI rd) (b7 : s3 (31 + M * 9 + 7) = nI wr) : RowP n R3 s3 := by
  obtain ⟨⟨r1, r2, r3, r4⟩, M', m1, m2, m3, m4, m5, m6⟩ := hR
  obtain rfl : M' = M := nI_inj (by omega) (by omega) (m3.symm.trans h30)
  refine ⟨⟨fun i hi => by rw [a1 i (by omega), b1 i hi]; exact r1 i hi, by rw [a1 30 (by decide)]; exact r2, by rw [a2, b2], fun c' hc' => ?_⟩, M' + 1, by omega, by omega, b2, fun c' hc' => by rw [b1 c' (by omega)]; exact m4 c' hc', fun c' hc' => ?_, fun c' hc' => ?_⟩
  · by_cases e : c' = M'
    · subst e
      refine ⟨fun j hj => ?_, by rw [a5, b5], by rw [a6, b6], by rw [a7, b7]⟩
      rw [a4 j hj, b4 j hj, (r4 c (by omega)).1 j hj]
    · refine ⟨fun j hj => ?_, ?_, ?_, ?_⟩
      · rw [a3 c' hc' e j (by omega), b3 c' hc' e j (by omega)]; exact (r4 c' hc').1 j hj
      · rw [a3 c' hc' e 6 (by decide), b3 c' hc' e 8 (by decide)]; exact (r4 c' hc').2.1
      · rw [a3 c' hc' e 7 (by decide), b3 c' hc' e 6 (by decide)]; exact (r4 c' hc').2.2.1
      · rw [a3 c' hc' e 8 (by decide), b3 c' hc' e 7 (by decide)]; exact (r4 c' hc').2.2.2
  · rw [b1 (24 + c') (by omega)]
    obtain ⟨k, hk, e⟩ := m5 c' hc'
    exact ⟨k, by omega, e⟩
  · by_cases e : c' = M'
    · subst e
      obtain ⟨v, v1, v2, -⟩ := m6 c hc
      obtain ⟨l1, l2⟩ := hlaw v v1
      refine ⟨fun j => if j = cp then vv else v j, fun j hj => ?_, fun j hj1 hj2 => ?_, rd, wr, b6, b7, hrd, hwr, fun _ => ⟨l1, l2⟩⟩
      · show (if j = cp then vv else v j) ≤ 5 ∧ s3 (31 + c' * 9 + j) = nI (if j = cp then vv else v j)
        rw [b4 j hj]
        by_cases q : j = cp
        · rw [if_pos q, if_pos q]; exact ⟨hvv, rfl⟩
        · rw [if_neg q, if_neg q]; exact v1 j hj
      · show (if j = cp then vv else v j) = 0
        rw [if_neg (by omega)]
        exact v2 j hj1 hj2
    · exact CfgK_congr (fun j hj => b3 c' (by omega) e j hj) (m6 c' (by omega))
theorem rf_votes_end {cp z M n : Nat} (hcp : cp < 6) (hz : z ≤ 1) (hM : M < 8) {v rd wr p k va th um : Int32} {s1 U : Nat → Int32} (h30 : s1 30 = nI M) : fX11_votes_195 (nI cp) v (nI z) rd wr p k va (nI M) (nI (31 + M * 9)) (nI n) 1 (nI 9) th um s1 U = bd1 (fX11_greatest p 12 (nI n) (upd (upd (upd (upd (upd (upd s1 (31 + M * 9 + cp) v) (31 + M * 9 + 6) rd) (31 + M * 9 + 7) wr) (31 + M * 9 + 8) (s1 (31 + M * 9 + 8) &&& (((1 : Int32) <<< (nI cp &&& 31)) ^^^ (-1)))) (31 + M * 9 + 8) (wb (s1 (31 + M * 9 + 8)) cp (if nI z = 1 then 1 else 0))) 30 (nI (M + 1)))) (fun jr11 => bd1 (fX11_gives p (nI M) jr11 va (nI n) (upd (upd (upd (upd (upd (upd s1 (31 + M * 9 + cp) v) (31 + M * 9 + 6) rd) (31 + M * 9 + 7) wr) (31 + M * 9 + 8) (s1 (31 + M * 9 + 8) &&& (((1 : Int32) <<< (nI cp &&& 31)) ^^^ (-1)))) (31 + M * 9 + 8) (wb (s1 (31 + M * 9 + 8)) cp (if nI z = 1 then 1 else 0))) 30 (nI (M + 1)))) (fun jg13 => some (nI M, th, um, jg13, U))) := by
  have c1 : (nI (31 + M * 9 + cp)).toNatClampNeg = 31 + M * 9 + cp := nI_clamp (by omega)
  have c2 : (nI (31 + M * 9 + 6)).toNatClampNeg = 31 + M * 9 + 6 := nI_clamp (by omega)
  have c3 : (nI (31 + M * 9 + 7)).toNatClampNeg = 31 + M * 9 + 7 := nI_clamp (by omega)
  have c4 : (nI (31 + M * 9 + 8)).toNatClampNeg = 31 + M * 9 + 8 := nI_clamp (by omega)
  have c5 : Int32.toNatClampNeg 30 = 30 := rfl
  rw [fX11_votes_195_s, if_pos (by decide)]
  simp only [n6, n7, n8, ixs]
  rw [ckN (by omega) (by decide), ckN (by omega) (by decide), ckN (by omega) (by decide), ckN (by omega) (by decide), ckN (by omega) (by decide), ckN (by omega) (by decide), ckN (by omega) (by decide)]
  rw [show (30 : Int32) = nI 30 from rfl, ckN (by decide) (by decide), ckN (by decide) (by decide), ← n30]
  simp only [c1, c2, c3, c4, c5, pk_us]
  rw [pk_un (show 31 + M * 9 + 8 ≠ 31 + M * 9 + 7 by omega), pk_un (show 31 + M * 9 + 8 ≠ 31 + M * 9 + 6 by omega), pk_un (show 31 + M * 9 + 8 ≠ 31 + M * 9 + cp by omega), pk_un (show 30 ≠ 31 + M * 9 + 8 by omega), pk_un (show 30 ≠ 31 + M * 9 + 8 by omega), pk_un (show 30 ≠ 31 + M * 9 + 7 by omega), pk_un (show 30 ≠ 31 + M * 9 + 6 by omega), pk_un (show 30 ≠ 31 + M * 9 + cp by omega), h30, nI_1, wb_eq hz]
