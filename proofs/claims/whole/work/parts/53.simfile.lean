/-! PURE. file: the new shape -/
theorem b_one {cp j : Nat} (hc : cp < 32) (hj : j < 32) : bt ((1 : Int32) <<< (nI cp &&& 31)) j = decide (cp = j) := by
  have h := bt_or1 (x := 0) hc hj
  rw [Int32.zero_or, b_0, Bool.false_or] at h
  exact h
theorem b_not {x : Int32} {j : Nat} (hj : j < 32) : bt (x ^^^ (-1)) j = !(bt x j) := by
  have h : bt (-1) j = true := (by decide +kernel : ∀ j, j < 32 → bt (-1) j = true) j hj
  unfold bt at h ⊢
  rw [Int32.toBitVec_xor, BitVec.getLsbD_xor, h, Bool.xor_true]
theorem wb_bt {A : Int32} {cp j : Nat} (hc : cp < 32) (hj : j < 32) (z : Int32) : bt (wb A cp z) j = if j = cp then !(decide (z = 0)) else bt A j := by
  unfold wb
  by_cases q : z = 0
  · rw [if_pos q, decide_eq_true q, b_and, b_not hj, b_one hc hj]
    by_cases e : j = cp
    · rw [if_pos e, decide_eq_true e.symm, Bool.not_true, Bool.and_false]
    · rw [if_neg e, decide_eq_false (fun y => e y.symm), Bool.not_false, Bool.and_true]
  · rw [if_neg q, decide_eq_false q, b_or, b_and, b_not hj, b_one hc hj]
    by_cases e : j = cp
    · rw [if_pos e, decide_eq_true e.symm, Bool.or_true]; rfl
    · rw [if_neg e, decide_eq_false (fun y => e y.symm), Bool.not_false, Bool.and_true, Bool.or_false]
def BR (i c : Nat) (wi rd wr : Int32) (vo Q : Nat → Int32) : Prop := (∀ j, j < i → Q j = 1 ∧ Q (18 + j) = (if bt wi j = true then -9 else 0) ∧ Q (32 + j) = vo j) ∧ (∀ j, i ≤ j → j < 6 → Q j = 0 ∧ Q (18 + j) = 0 ∧ Q (32 + j) = 0) ∧ (∀ j, j < 32 → bt (Q 38) j = (decide (j < i) && bt wi j)) ∧ Q 30 = nI c ∧ Q 31 = 1 ∧ Q 39 = rd ∧ Q 40 = wr ∧ ∀ j, j < 104 → (6 ≤ j ∧ j < 18 ∨ 24 ≤ j ∧ j < 30 ∨ 41 ≤ j) → Q j = 0
theorem sp_begin55 {c : Nat} (hc : c ≤ 6) (wi rd wr : Int32) (vo : Nat → Int32) : ∀ (d f i : Nat) (Q : Nat → Int32), i + d = c → d < f → BR i c wi rd wr vo Q → ∃ Q', fX7_begin_55 wi (nI c) rd wr vo f (nI i) Q = some Q' ∧ BR c c wi rd wr vo Q' := by
  intro d
  induction d with
  | zero =>
    intro f i Q hi hf h
    obtain ⟨f, rfl⟩ : ∃ g, f = g + 1 := ⟨f - 1, by omega⟩
    obtain rfl : i = c := by omega
    refine ⟨Q, ?_, h⟩
    rw [fX7_begin_55_s, if_pos (nI_le (Nat.le_refl _) (by omega))]
  | succ d ih =>
    intro f i Q hi hf h
    obtain ⟨f, rfl⟩ : ∃ g, f = g + 1 := ⟨f - 1, by omega⟩
    obtain ⟨h1, h2, h3, h4, h5, h6, h7, h8⟩ := h
    have step : ∀ z u : Int32, ((z = 0 ∧ u = 0 ∧ bt wi i = false) ∨ (z = 1 ∧ u = -9 ∧ bt wi i = true)) → BR (i + 1) c wi rd wr vo (upd (upd (upd (upd Q (32 + i) (vo i)) 38 (wb (Q 38) i z)) i 1) (18 + i) u) := by
      intro z u hz
      have other : ∀ j, ¬ j = 18 + i → ¬ j = i → ¬ j = 38 → ¬ j = 32 + i → upd (upd (upd (upd Q (32 + i) (vo i)) 38 (wb (Q 38) i z)) i 1) (18 + i) u j = Q j := fun j a1 a2 a3 a4 => by rw [pk_un a1, pk_un a2, pk_un a3, pk_un a4]
      refine ⟨fun j hj => ?_, fun j hj1 hj2 => ?_, fun j hj => ?_, ?_, ?_, ?_, ?_, fun j hj hj2 => ?_⟩
      · by_cases e : j = i
        · subst e
          refine ⟨?_, ?_, ?_⟩
          · rw [pk_un (by omega), pk_us]
          · rw [pk_us]
            rcases hz with ⟨-, rfl, b⟩ | ⟨-, rfl, b⟩
            · rw [b, if_neg (by decide)]
            · rw [b, if_pos rfl]
          · rw [pk_un (by omega), pk_un (by omega), pk_un (by omega), pk_us]
        · rw [other j (by omega) (by omega) (by omega) (by omega), other (18 + j) (by omega) (by omega) (by omega) (by omega), other (32 + j) (by omega) (by omega) (by omega) (by omega)]
          exact h1 j (by omega)
      · rw [other j (by omega) (by omega) (by omega) (by omega), other (18 + j) (by omega) (by omega) (by omega) (by omega), other (32 + j) (by omega) (by omega) (by omega) (by omega)]
        exact h2 j (by omega) hj2
      · rw [pk_un (by omega), pk_un (by omega), pk_us, wb_bt (by omega) hj]
        by_cases e : j = i
        · subst e
          rw [if_pos rfl, decide_eq_true (show j < j + 1 by omega), Bool.true_and]
          rcases hz with ⟨rfl, -, b⟩ | ⟨rfl, -, b⟩
          · rw [b]; rfl
          · rw [b]; rfl
        · rw [if_neg e, h3 j hj]
          by_cases y : j < i
          · rw [decide_eq_true y, decide_eq_true (show j < i + 1 by omega)]
          · rw [decide_eq_false y, decide_eq_false (show ¬ j < i + 1 by omega)]
      · rw [other 30 (by omega) (by omega) (by omega) (by omega)]; exact h4
      · rw [other 31 (by omega) (by omega) (by omega) (by omega)]; exact h5
      · rw [other 39 (by omega) (by omega) (by omega) (by omega)]; exact h6
      · rw [other 40 (by omega) (by omega) (by omega) (by omega)]; exact h7
      · rw [other j (by omega) (by omega) (by omega) (by omega)]; exact h8 j hj hj2
    have hv : ∀ z : Int32, fX7_setVoter 0 (nI i) (vo i) z Q = some (upd (upd Q (32 + i) (vo i)) 38 (wb (Q 38) i z)) := fun z => by
      have e := sp_setVoter (R := Q) (M := 0) (by decide) (show i < 6 by omega) (vo i) z
      rw [show 32 + 0 * 9 + i = 32 + i by omega] at e
      exact e
    rw [fX7_begin_55_s, if_neg (nI_ge (by omega) (by omega))]
    unfold fX7_begin_80
    rw [ckN (by omega) (by decide), ckN (by omega) (by decide), nI_clamp (by omega), hv, bds, hv, bds, n18, ixs, show (0 : Int32) + nI i = nI i from by rw [n0, ixs, Nat.zero_add], ckN (by omega) (by decide), ckN (by omega) (by decide), ckN (by omega) (by decide), ckN (by omega) (by decide), nI_clamp (by omega), nI_clamp (by omega), nI_1]
    by_cases q : bt wi i = true
    · rw [if_pos ((bt_iff (by omega)).mpr q), if10]
      exact ih f (i + 1) _ (by omega) (by omega) (step 1 (-9) (Or.inr ⟨rfl, rfl, q⟩))
    · rw [if_neg (fun z => q ((bt_iff (by omega)).mp z)), if00, ckN (by omega) (by decide)]
      exact ih f (i + 1) _ (by omega) (by omega) (step 0 0 (Or.inl ⟨rfl, rfl, Bool.eq_false_iff.mpr q⟩))
theorem sp_begin2 {c : Nat} (hc : c ≤ 6) (wi rd wr : Int32) (vo : Nat → Int32) : ∀ (d f i : Nat) (Q : Nat → Int32), i + d = 104 → d < f → (∀ j, j < i → Q j = 0) → ∃ Q', fX7_begin_2 wi (nI c) rd wr vo f (nI i) Q = some Q' ∧ BR c c wi rd wr vo Q' := by
  intro d
  induction d with
  | zero =>
    intro f i Q hi hf h
    obtain ⟨f, rfl⟩ : ∃ g, f = g + 1 := ⟨f - 1, by omega⟩
    have hs : fX7_setNeeds 0 rd wr (upd (upd Q 30 (nI c)) 31 1) = some (upd (upd (upd (upd Q 30 (nI c)) 31 1) 39 rd) 40 wr) := sp_setNeeds (M := 0) (by decide) rd wr
    rw [fX7_begin_2_s, n104, if_pos (nI_le (by omega) (by omega)), n30, ckN (by decide) (by decide), n31, ckN (by decide) (by decide), nI_clamp (by decide), nI_clamp (by decide), hs, bds]
    have other : ∀ j, j < 104 → ¬ j = 30 → ¬ j = 31 → ¬ j = 39 → ¬ j = 40 → upd (upd (upd (upd Q 30 (nI c)) 31 1) 39 rd) 40 wr j = 0 := fun j hj a1 a2 a3 a4 => by rw [pk_un a4, pk_un a3, pk_un a2, pk_un a1]; exact h j (by omega)
    refine sp_begin55 hc wi rd wr vo c fuel 0 _ (by omega) (fuel_gt (by omega)) ⟨fun j hj => absurd hj (by omega), fun j _ hj => ⟨other j (by omega) (by omega) (by omega) (by omega) (by omega), other _ (by omega) (by omega) (by omega) (by omega) (by omega), other _ (by omega) (by omega) (by omega) (by omega) (by omega)⟩, fun j hj => ?_, ?_, ?_, ?_, pk_us, fun j hj hj2 => other j hj (by omega) (by omega) (by omega) (by omega)⟩
    · rw [other 38 (by decide) (by decide) (by decide) (by decide) (by decide), b_0, decide_eq_false (show ¬ j < 0 by omega), Bool.false_and]
    · rw [pk_un (by decide), pk_un (by decide), pk_un (by decide), pk_us]
    · rw [pk_un (by decide), pk_un (by decide), pk_us]
    · rw [pk_un (by decide), pk_us]
  | succ d ih =>
    intro f i Q hi hf h
    obtain ⟨f, rfl⟩ : ∃ g, f = g + 1 := ⟨f - 1, by omega⟩
    rw [fX7_begin_2_s, n104, if_neg (nI_ge (by omega) (by omega)), ckN (by omega) (by decide), nI_clamp (by omega), nI_1]
    refine ih f (i + 1) _ (by omega) (by omega) (fun j hj => ?_)
    by_cases q : j = i
    · subst q; rw [pk_us]
    · rw [pk_un q]; exact h j (by omega)
theorem sp_begin {c : Nat} (hc : c ≤ 6) (R : Nat → Int32) (wi rd wr : Int32) (vo : Nat → Int32) : ∃ Q', fX7_begin R wi (nI c) rd wr vo = some Q' ∧ BR c c wi rd wr vo Q' := sp_begin2 hc wi rd wr vo 104 fuel 0 R (by omega) (fuel_gt (by omega)) (fun j hj => absurd hj (by omega))
theorem rf_settles36 (dc ty cp um sm : Int32) (dr ik : Nat → Int32) : ∀ (d f i : Nat) (s : Nat → Int32), i + d = 103 → d < f → (∀ j, j < i → s j = dr j) → ∃ s', fX11_settles_36 dc f (nI i) ty cp um sm dr s ik = some (0, cp, 0, 0, dr, s', upd (upd ik 0 0) 1 0) ∧ ∀ j, j < 103 → s' j = dr j := by
  intro d
  induction d with
  | zero =>
    intro f i s hi hf h
    obtain ⟨f, rfl⟩ : ∃ g, f = g + 1 := ⟨f - 1, by omega⟩
    refine ⟨s, ?_, fun j hj => h j (by omega)⟩
    rw [fX11_settles_36_s, n103, if_pos (nI_le (by omega) (by omega))]
    rfl
  | succ d ih =>
    intro f i s hi hf h
    obtain ⟨f, rfl⟩ : ∃ g, f = g + 1 := ⟨f - 1, by omega⟩
    rw [fX11_settles_36_s, n103, if_neg (nI_ge (by omega) (by omega)), ckN (by omega) (by decide), ckN (by omega) (by decide), nI_clamp (by omega), nI_1]
    refine ih f (i + 1) _ (by omega) (by omega) (fun j hj => ?_)
    by_cases q : j = i
    · subst q; rw [pk_us]
    · rw [pk_un q]; exact h j (by omega)
theorem rf_settles {r : Nat} (h1 : 1 ≤ r) (h2 : r ≤ 30) (dc ty cp um sm : Int32) {dr : Nat → Int32} (e : dr 37 = nI r) (s ik : Nat → Int32) : ∃ s', fX11_settles ty cp dc um sm dr s ik = some (0, dc, 0, 0, dr, s', upd (upd ik 0 0) 1 0) ∧ ∀ j, j < 103 → s' j = dr j := by
  unfold fX11_settles
  rw [n37, ckN (by decide) (by decide), nI_clamp (by decide), e, if_neg (show ¬ nI r = 0 from fun z => absurd (nI_inj (a := r) (b := 0) (by omega) (by decide) z) (by omega))]
  exact rf_settles36 dc ty dc um sm dr ik 103 fuel 0 s (by omega) (fuel_gt (by omega)) (fun j hj => absurd hj (by omega))
/-- the new row -/
theorem new_shape {c : Nat} {wi rd wr : Int32} {vo dr Q s : Nat → Int32} (hD : DR c wi rd wr vo dr) (hF : Fine c rd wr dr) (hQ : BR c c wi rd wr vo Q) (hs : ∀ j, j < 103 → s j = dr j) : RowP c Q s := by
  obtain ⟨d1, d2, d3, d4, ⟨r, r1, r2, r3⟩, ⟨w, w1, w2, w3⟩, d7, d8, d9⟩ := hD
  obtain ⟨-, -, ft⟩ := hF
  obtain ⟨q1, q2, q3, q4, q5, q6, q7, q8⟩ := hQ
  have e38 : Q 38 = wi := b_ext (fun j hj => by
    rw [q3 j hj]
    by_cases y : j < c
    · rw [decide_eq_true y, Bool.true_and]
    · rw [decide_eq_false y, Bool.false_and, d4 j (by omega) hj])
  have low : ∀ j, j < 6 → Q j = dr j ∧ Q (18 + j) = dr (18 + j) ∧ Q (32 + j) = dr (31 + j) := by
    intro j hj
    by_cases y : j < c
    · obtain ⟨a1, a2, a3⟩ := q1 j y
      obtain ⟨b1, b2, v, -, b3, b4⟩ := d2 j y
      exact ⟨a1.trans b1.symm, a2.trans b2.symm, a3.trans (b3.trans b4.symm)⟩
    · obtain ⟨a1, a2, a3⟩ := q2 j (by omega) hj
      obtain ⟨b1, b2, b3⟩ := d3 j (by omega) hj
      exact ⟨a1.trans b1.symm, a2.trans b2.symm, a3.trans b3.symm⟩
  refine ⟨⟨fun j hj => ?_, q4, ?_, fun cc hcc => ?_⟩, 1, by decide, by decide, (hs 30 (by decide)).trans d8, fun j hj => ?_, fun j hj => ⟨0, by decide, ?_⟩, fun cc hcc => ?_⟩
  · rw [hs j (by omega)]
    by_cases y : j < 6
    · exact (low j y).1
    · by_cases y2 : j < 18
      · rw [q8 j (by omega) (by omega), d9 j (by omega) (by omega)]
      · by_cases y3 : j < 24
        · have e := (low (j - 18) (by omega)).2.1
          rw [show 18 + (j - 18) = j by omega] at e
          exact e
        · rw [q8 j (by omega) (by omega), d9 j (by omega) (by omega)]
  · rw [hs 30 (by decide), d8]; exact q5
  · by_cases y : cc = 0
    · subst y
      refine ⟨fun j hj => ?_, ?_, ?_, ?_⟩
      · rw [show 32 + 0 * 9 + j = 32 + j by omega, show 31 + 0 * 9 + j = 31 + j by omega, hs _ (by omega)]
        exact (low j hj).2.2
      · rw [show 32 + 0 * 9 + 6 = 38 by omega, show 31 + 0 * 9 + 8 = 39 by omega, hs _ (by decide), e38, d7]
      · rw [show 32 + 0 * 9 + 7 = 39 by omega, show 31 + 0 * 9 + 6 = 37 by omega, hs _ (by decide), q6, r3, r2]
      · rw [show 32 + 0 * 9 + 8 = 40 by omega, show 31 + 0 * 9 + 7 = 38 by omega, hs _ (by decide), q7, w3, w2]
    · have zz : ∀ a b, 41 ≤ a → a < 104 → 40 ≤ b → b < 103 → Q a = s b := fun a b h1 h2 h3 h4 => by
        rw [hs b h4, q8 a h2 (by omega), d9 b h4 (by omega)]
      exact ⟨fun j hj => zz _ _ (by omega) (by omega) (by omega) (by omega), zz _ _ (by omega) (by omega) (by omega) (by omega), zz _ _ (by omega) (by omega) (by omega) (by omega), zz _ _ (by omega) (by omega) (by omega) (by omega)⟩
  · rw [hs j (by omega)]; exact Or.inr (d2 j hj).1
  · rw [hs _ (by omega), d9 _ (by omega) (by omega)]; rfl
  · obtain rfl : cc = 0 := by omega
    have hv : ∀ j, j < 6 → Int32.toNatClampNeg (dr (31 + j)) ≤ 5 ∧ dr (31 + j) = nI (Int32.toNatClampNeg (dr (31 + j))) := by
      intro j hj
      by_cases y : j < c
      · obtain ⟨-, -, v, v1, -, v3⟩ := d2 j y
        rw [v3, nI_clamp (by omega)]
        exact ⟨v1, rfl⟩
      · rw [(d3 j (by omega) hj).2.2]
        exact ⟨by decide, rfl⟩
    refine ⟨fun j => Int32.toNatClampNeg (dr (31 + j)), fun j hj => ⟨(hv j hj).1, ?_⟩, fun j hj1 hj2 => ?_, r, w, ?_, ?_, r1, w1, fun h0 => ?_⟩
    · show s (31 + 0 * 9 + j) = _
      rw [show 31 + 0 * 9 + j = 31 + j by omega, hs _ (by omega)]
      exact (hv j hj).2
    · show Int32.toNatClampNeg (dr (31 + j)) = 0
      rw [(d3 j hj1 hj2).2.2]; rfl
    · show s (31 + 0 * 9 + 6) = nI r
      rw [show 31 + 0 * 9 + 6 = 37 by omega, hs _ (by decide)]; exact r3
    · show s (31 + 0 * 9 + 7) = nI w
      rw [show 31 + 0 * 9 + 7 = 38 by omega, hs _ (by decide)]; exact w3
    · have ht := ft h0
      rw [fA_nat (V := fun j => dr (31 + j)) (fun j hj => (hv j hj).2), r2, w2] at ht
      refine ⟨?_, ?_⟩
      · by_cases y : r ≤ vt (fun j => Int32.toNatClampNeg (dr (31 + j)))
        · exact y
        · exact absurd (nI_lt (by omega) (by omega)) ht.1
      · by_cases y : w ≤ vt (fun j => Int32.toNatClampNeg (dr (31 + j)))
        · exact y
        · exact absurd (nI_lt (by omega) (by omega)) ht.2
theorem sp_drop (K : Nat → Int32) : fX1_drop K = some (upd (upd K 0 0) 1 0) := by
  obtain ⟨f, hf⟩ : ∃ g, fuel = g + 3 := ⟨fuel - 3, by have := fuel_gt (d := 5) (by decide); omega⟩
  unfold fX1_drop
  rw [hf]
  rfl
