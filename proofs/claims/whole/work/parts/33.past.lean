/-! PURE. Rows that are kept: what can be undone, images -/
theorem CfgK_congr {n : Nat} {g g' : Nat → Int32} (h : ∀ j, j < 9 → g' j = g j) (hC : CfgK n g) : CfgK n g' := by
  obtain ⟨v, h1, h2, r, w, h3, h4, h5⟩ := hC
  exact ⟨v, fun j hj => ⟨(h1 j hj).1, by rw [h j (by omega)]; exact (h1 j hj).2⟩, h2, r, w, by rw [h 6 (by decide)]; exact h3, by rw [h 7 (by decide)]; exact h4, h5⟩
theorem RowK_congr {n : Nat} (hn : n ≤ 6) {s s' : Nat → Int32} (h : ∀ i, i < 103 → s' i = s i) (hK : RowK n s) : RowK n s' := by
  obtain ⟨M, h1, h2, h3, h4, h5, h6⟩ := hK
  refine ⟨M, h1, h2, by rw [h 30 (by decide)]; exact h3, fun c hc => by rw [h c (by omega)]; exact h4 c hc, fun c hc => by rw [h (24 + c) (by omega)]; exact h5 c hc, fun c hc => CfgK_congr (fun j hj => h (31 + c * 9 + j) (by omega)) (h6 c hc)⟩
theorem RowR_congr {n : Nat} {R R' s s' : Nat → Int32} (hR : ∀ i, i < 104 → R' i = R i) (h : ∀ i, i < 103 → s' i = s i) (hK : RowR n R s) : RowR n R' s' := by
  obtain ⟨h1, h2, h3, h4⟩ := hK
  refine ⟨fun i hi => by rw [hR i (by omega), h i (by omega)]; exact h1 i hi, by rw [hR 30 (by decide)]; exact h2, by rw [hR 31 (by decide), h 30 (by decide)]; exact h3, fun c hc => ⟨fun j hj => ?_, ?_, ?_, ?_⟩⟩
  · rw [hR _ (by omega), h _ (by omega)]; exact (h4 c hc).1 j hj
  · rw [hR _ (by omega), h _ (by omega)]; exact (h4 c hc).2.1
  · rw [hR _ (by omega), h _ (by omega)]; exact (h4 c hc).2.2.1
  · rw [hR _ (by omega), h _ (by omega)]; exact (h4 c hc).2.2.2
theorem RowP_congr {n : Nat} (hn : n ≤ 6) {R R' s s' : Nat → Int32} (hR : ∀ i, i < 104 → R' i = R i) (h : ∀ i, i < 103 → s' i = s i) (hK : RowP n R s) : RowP n R' s' := ⟨RowR_congr hR h hK.1, RowK_congr hn h hK.2⟩
theorem cl0 : Int32.toNatClampNeg (0 : Int32) = 0 := rfl
theorem cl104 : Int32.toNatClampNeg (104 : Int32) = 104 := rfl
theorem sp_saveTo {N m : Nat} (h : m * 104 + 104 ≤ N) (hN : N < 2 ^ 31) (R A : Nat → Int32) : fX7_saveTo N (nI m) R A = some (va_cpy R A 0 (m * 104) 104) := by
  unfold fX7_saveTo
  have e : nI m * 104 = nI (m * 104) := by rw [n104, pk_mul]
  have e2 : (nI (m * 104)).toNatClampNeg = m * 104 := nI_clamp (by omega)
  rw [e, cpI_in (by decide) (nI_pos (by omega)) (by decide) (by decide) (by rw [e2]; exact h), e2]
  rfl
theorem sp_loadFrom {N m : Nat} (h : m * 104 + 104 ≤ N) (hN : N < 2 ^ 31) (R A : Nat → Int32) : fX7_loadFrom N (nI m) R A = some (va_cpy A R (m * 104) 0 104) := by
  unfold fX7_loadFrom
  have e : nI m * 104 = nI (m * 104) := by rw [n104, pk_mul]
  have e2 : (nI (m * 104)).toNatClampNeg = m * 104 := nI_clamp (by omega)
  rw [e, cpI_in (nI_pos (by omega)) (by decide) (by decide) (by rw [e2]; exact h) (by decide), e2]
  rfl
theorem sp_remember {q k : Nat} (hq : q < 10) (hk : k ≤ 10) (P R : Nat → Int32) : fX4_remember (nI q) (nI k) P R = some (nI ((q + 1) % 10), nI (min (k + 1) 10), va_cpy R P 0 (q * 104) 104) := by
  unfold fX4_remember
  rw [sp_saveTo (by omega) (by decide), bds, nI_1]
  have e : ∀ y : Int32, fX4_remember_34 R y (nI q) (nI k) (va_cpy R P 0 (q * 104) 104) = some (y, nI (min (k + 1) 10), va_cpy R P 0 (q * 104) 104) := by
    intro y
    unfold fX4_remember_34
    rw [nI_1, n10]
    by_cases h : k + 1 ≤ 10
    · rw [if_neg (nI_nlt h (by omega)), Nat.min_eq_left h]
    · rw [if_pos (nI_lt (by omega) (by omega)), Nat.min_eq_right (by omega)]
  by_cases h : q + 1 < 10
  · rw [n10, if_neg (nI_ge h (by omega)), e, Nat.mod_eq_of_lt h]
  · rw [n10, if_pos (nI_le (by omega) (by omega)), e, show (q + 1) % 10 = 0 by omega]
    rfl
theorem sp_restore {q k : Nat} (hq : q < 10) (hk : k < 10) (P R : Nat → Int32) : fX4_restore (nI q) (nI (k + 1)) P R = some (1, nI ((q + 9) % 10), nI k, va_cpy P R ((q + 9) % 10 * 104) 0 104) := by
  unfold fX4_restore
  have e : ∀ m : Nat, m < 10 → fX4_restore_28 P (nI m) (nI q) (nI (k + 1)) R = some (1, nI m, nI k, va_cpy P R (m * 104) 0 104) := by
    intro m hm
    unfold fX4_restore_28
    rw [sp_loadFrom (by omega) (by decide), bds, nI_pred]
  rw [if_neg (nI_ne0 (by omega) (by omega))]
  by_cases h : q = 0
  · subst h
    rw [if_pos (by decide)]
    exact e 9 (by decide)
  · rw [n0, if_neg (nI_ge (by omega) (by omega)), nsub1 (by omega), e _ (by omega), show (q + 9) % 10 = q - 1 by omega]
theorem ix103 (k i : Nat) : (103 : Int32) * nI k + nI i = nI (k * 103 + i) := by
  rw [n103, pk_mul, ixs, Nat.mul_comm]
/-- the reference's copying loops -/
theorem rf_notes47 (s : Nat → Int32) {k : Nat} (hk : k < 10) : ∀ (d f i : Nat) (U : Nat → Int32), i + d = 103 → d < f → ∃ U', fX11_notes_47 s f (nI i) (nI k) U = some (nI (k + 1), U') ∧ ∀ j, U' j = if k * 103 + i ≤ j ∧ j < k * 103 + 103 then s (j - k * 103) else U j := by
  intro d
  induction d with
  | zero =>
    intro f i U hi hf
    obtain ⟨f, rfl⟩ : ∃ g, f = g + 1 := ⟨f - 1, by omega⟩
    refine ⟨U, ?_, fun j => by rw [if_neg (by omega)]⟩
    rw [fX11_notes_47_s, n103, if_pos (nI_le (by omega) (by omega)), nI_1]
  | succ d ih =>
    intro f i U hi hf
    obtain ⟨f, rfl⟩ : ∃ g, f = g + 1 := ⟨f - 1, by omega⟩
    obtain ⟨U', e, hU⟩ := ih f (i + 1) (upd U (k * 103 + i) (s i)) (by omega) (by omega)
    refine ⟨U', ?_, fun j => ?_⟩
    · rw [fX11_notes_47_s, ix103, n103, if_neg (nI_ge (by omega) (by omega)), ckN (by omega) (by decide), ckN (by omega) (by decide), nI_clamp (by omega), nI_clamp (by omega), nI_1]
      exact e
    · rw [hU j]
      by_cases hj : j = k * 103 + i
      · subst hj
        rw [if_neg (by omega), pk_us, if_pos (by omega), Nat.add_sub_cancel_left]
      · rw [pk_un hj]
        by_cases h2 : k * 103 + (i + 1) ≤ j ∧ j < k * 103 + 103
        · rw [if_pos h2, if_pos (by omega)]
        · rw [if_neg h2, if_neg (by omega)]
theorem rf_notes11 (s : Nat → Int32) : ∀ (d f i : Nat) (U : Nat → Int32), i + d = 927 → d < f → ∃ U0, fX11_notes_11 s f (nI i) (nI 10) U = fX11_notes_47 s fuel (nI 0) (nI 9) U0 ∧ ∀ j, U0 j = if i ≤ j ∧ j < 927 then U (j + 103) else U j := by
  intro d
  induction d with
  | zero =>
    intro f i U hi hf
    obtain ⟨f, rfl⟩ : ∃ g, f = g + 1 := ⟨f - 1, by omega⟩
    refine ⟨U, ?_, fun j => by rw [if_neg (by omega)]⟩
    rw [fX11_notes_11_s, n927, if_pos (nI_le (by omega) (by omega))]
    rfl
  | succ d ih =>
    intro f i U hi hf
    obtain ⟨f, rfl⟩ : ∃ g, f = g + 1 := ⟨f - 1, by omega⟩
    obtain ⟨U0, e, hU⟩ := ih f (i + 1) (upd U i (U (i + 103))) (by omega) (by omega)
    refine ⟨U0, ?_, fun j => ?_⟩
    · rw [fX11_notes_11_s, n927, if_neg (nI_ge (by omega) (by omega)), n103, ixs, ckN (by omega) (by decide), ckN (by omega) (by decide), nI_clamp (by omega), nI_clamp (by omega), nI_1]
      exact e
    · rw [hU j]
      by_cases hj : j = i
      · subst hj
        rw [if_neg (by omega), pk_us, if_pos (by omega)]
      · by_cases h2 : i + 1 ≤ j ∧ j < 927
        · rw [if_pos h2, if_pos (by omega), pk_un (by omega)]
        · rw [if_neg h2, if_neg (by omega), pk_un hj]
theorem rf_notes {k : Nat} (hk : k ≤ 10) (s U : Nat → Int32) : ∃ U', fX11_notes (nI k) s U = some (nI (min (k + 1) 10), U') ∧ (∀ i, i < 103 → U' ((min (k + 1) 10 - 1) * 103 + i) = s i) ∧ ∀ t, t + 1 < min (k + 1) 10 → ∀ i, i < 103 → U' ((min (k + 1) 10 - 1 - (t + 1)) * 103 + i) = U ((k - 1 - t) * 103 + i) := by
  unfold fX11_notes
  by_cases h : k = 10
  · subst h
    obtain ⟨U0, e0, h0⟩ := rf_notes11 s 927 fuel 0 U (by omega) (fuel_gt (by decide))
    obtain ⟨U', e, hU⟩ := rf_notes47 s (k := 9) (by decide) 103 fuel 0 U0 (by omega) (fuel_gt (by decide))
    refine ⟨U', ?_, fun i hi => ?_, fun t ht i hi => ?_⟩
    · rw [if_pos (by decide)]
      exact e0.trans e
    · have e1 : min (10 + 1) 10 - 1 = 9 := by decide
      rw [e1, hU, if_pos (by omega), Nat.add_sub_cancel_left]
    · have e1 : min (10 + 1) 10 = 10 := by decide
      rw [e1] at ht ⊢
      rw [hU, if_neg (by omega), h0, if_pos (by omega), show (10 - 1 - (t + 1)) * 103 + i + 103 = (10 - 1 - t) * 103 + i by omega]
  · obtain ⟨U', e, hU⟩ := rf_notes47 s (k := k) (by omega) 103 fuel 0 U (by omega) (fuel_gt (by decide))
    have e1 : min (k + 1) 10 = k + 1 := Nat.min_eq_left (by omega)
    refine ⟨U', ?_, fun i hi => ?_, fun t ht i hi => ?_⟩
    · rw [n10, if_neg (fun h2 => h (nI_inj (by omega) (by decide) h2)), e1]
      exact e
    · rw [e1, hU, if_pos (by omega), Nat.add_sub_cancel, Nat.add_sub_cancel_left]
    · rw [e1] at ht ⊢
      have e2 : k + 1 - 1 - (t + 1) = k - 1 - t := by omega
      rw [e2, hU, if_neg (by
        have : (k - 1 - t) * 103 + 103 ≤ k * 103 := by omega
        omega)]
theorem rf_undo (U : Nat → Int32) {k : Nat} (hk : k < 10) : ∀ (d f i : Nat) (th : Int32) (s : Nat → Int32), i + d = 103 → d < f → ∃ s', fX11_undo_27 U f (nI i) th (nI k) s = some (nI k, th, nI k, s') ∧ ∀ j, s' j = if i ≤ j ∧ j < 103 then U (k * 103 + j) else s j := by
  intro d
  induction d with
  | zero =>
    intro f i th s hi hf
    obtain ⟨f, rfl⟩ : ∃ g, f = g + 1 := ⟨f - 1, by omega⟩
    refine ⟨s, ?_, fun j => by rw [if_neg (by omega)]⟩
    rw [fX11_undo_27_s, n103, if_pos (nI_le (by omega) (by omega))]
  | succ d ih =>
    intro f i th s hi hf
    obtain ⟨f, rfl⟩ : ∃ g, f = g + 1 := ⟨f - 1, by omega⟩
    obtain ⟨s', e, hs⟩ := ih f (i + 1) th (upd s i (U (k * 103 + i))) (by omega) (by omega)
    refine ⟨s', ?_, fun j => ?_⟩
    · rw [fX11_undo_27_s, ix103, n103, if_neg (nI_ge (by omega) (by omega)), ckN (by omega) (by decide), ckN (by omega) (by decide), nI_clamp (by omega), nI_clamp (by omega), nI_1]
      exact e
    · rw [hs j]
      by_cases hj : j = i
      · subst hj
        rw [if_neg (by omega), pk_us, if_pos (by omega)]
      · rw [pk_un hj]
        by_cases h2 : i + 1 ≤ j ∧ j < 103
        · rw [if_pos h2, if_pos (by omega)]
        · rw [if_neg h2, if_neg (by omega)]
theorem cpy_in {f g : Nat → Int32} {sp dp n i : Nat} (h : i < n) : va_cpy f g sp dp n (dp + i) = f (sp + i) := by
  rw [pk_cpy_in (by omega) (by omega), Nat.add_sub_cancel_left]
theorem past_push {n : Nat} (hn : n ≤ 6) {pn ps um : Int32} {P U R s : Nat → Int32} (hP : PastR n pn ps P um U) (hRow : RowP n R s) : ∃ (pn' ps' um' : Int32) (P' U' : Nat → Int32), fX4_remember pn ps P R = some (pn', ps', P') ∧ fX11_notes um s U = some (um', U') ∧ PastR n pn' ps' P' um' U' := by
  obtain ⟨k, q, hk, hq, rfl, rfl, rfl, hp⟩ := hP
  obtain ⟨U', e, h0, h1⟩ := rf_notes hk s U
  refine ⟨_, _, _, _, U', sp_remember hq hk P R, e, min (k + 1) 10, (q + 1) % 10, by omega, by omega, rfl, rfl, rfl, fun t ht => ?_⟩
  cases t with
  | zero =>
    refine RowP_congr hn (fun i hi => ?_) (fun i hi => ?_) hRow
    · show va_cpy R P 0 (q * 104) 104 (((q + 1) % 10 + 9 - 0) % 10 * 104 + i) = R i
      rw [show ((q + 1) % 10 + 9 - 0) % 10 = q by omega, cpy_in hi, Nat.zero_add]
    · exact h0 i hi
  | succ t =>
    refine RowP_congr hn (fun i hi => ?_) (fun i hi => ?_) (hp t (by omega))
    · show va_cpy R P 0 (q * 104) 104 (((q + 1) % 10 + 9 - (t + 1)) % 10 * 104 + i) = P ((q + 9 - t) % 10 * 104 + i)
      rw [show ((q + 1) % 10 + 9 - (t + 1)) % 10 = (q + 9 - t) % 10 by omega, pk_cpy_out]
      have : (q + 9 - t) % 10 ≠ q := by omega
      omega
    · exact h1 t ht i hi
theorem sim_undo : Sim_undo RelV := by
  intro tl tA R pn ps P I K ss sw se vr ty t cp s um U kp iK sm sW sI ak th hR
  obtain ⟨n, hn, hcp, hT, hRo, ⟨k, q, hk, hq, rfl, rfl, rfl, hp⟩, hIm, hSe, hv⟩ := hR
  cases k with
  | zero => exact ⟨-2, R, nI q, nI 0, 0, nI 0, s, rfl, rfl, n, hn, hcp, hT, hRo, ⟨0, q, hk, hq, rfl, rfl, rfl, hp⟩, hIm, hSe, hv⟩
  | succ k =>
    obtain ⟨s', e, hs⟩ := rf_undo U (k := k) (by omega) 103 fuel 0 0 s (by omega) (fuel_gt (by decide))
    refine ⟨nI k, va_cpy P R ((q + 9) % 10 * 104) 0 104, nI ((q + 9) % 10), nI k, 0, nI k, s', ?_, ?_, n, hn, hcp, hT, ?_, ⟨k, (q + 9) % 10, by omega, by omega, rfl, rfl, rfl, fun t ht => ?_⟩, hIm, hSe, hv⟩
    · unfold fX10_undo
      rw [sp_restore hq (by omega)]
      rfl
    · unfold fX11_undo
      rw [if_neg (nI_ne0 (by omega) (by omega)), nI_pred]
      exact e
    · refine RowP_congr hn (fun i hi => ?_) (fun i hi => ?_) (hp 0 (by omega))
      · have h := cpy_in (f := P) (g := R) (sp := (q + 9) % 10 * 104) (dp := 0) (n := 104) hi
        rw [Nat.zero_add] at h
        exact h
      · rw [hs i, if_pos (by omega)]
        rfl
    · have h := hp (t + 1) (by omega)
      rw [show (q + 9 - (t + 1)) % 10 = ((q + 9) % 10 + 9 - t) % 10 by omega, show k + 1 - 1 - (t + 1) = k - 1 - t by omega] at h
      exact h
/-! images -/
theorem rf_keep (s : Nat → Int32) (cp : Int32) {m : Nat} (hm : m < 2) : ∀ (d f i : Nat) (th : Int32) (kp iK : Nat → Int32), i + d = 103 → d < f → ∃ kp', fX11_keep_18 (nI m) cp s f (nI i) th kp iK = some (cp, th, kp', upd iK m 1) ∧ ∀ j, kp' j = if m * 103 + i ≤ j ∧ j < m * 103 + 103 then s (j - m * 103) else kp j := by
  intro d
  induction d with
  | zero =>
    intro f i th kp iK hi hf
    obtain ⟨f, rfl⟩ : ∃ g, f = g + 1 := ⟨f - 1, by omega⟩
    refine ⟨kp, ?_, fun j => by rw [if_neg (by omega)]⟩
    rw [fX11_keep_18_s, n103, if_pos (nI_le (by omega) (by omega)), ckN hm (by decide), nI_clamp (by omega)]
    rfl
  | succ d ih =>
    intro f i th kp iK hi hf
    obtain ⟨f, rfl⟩ : ∃ g, f = g + 1 := ⟨f - 1, by omega⟩
    obtain ⟨kp', e, hs⟩ := ih f (i + 1) th (upd kp (m * 103 + i) (s i)) iK (by omega) (by omega)
    refine ⟨kp', ?_, fun j => ?_⟩
    · rw [fX11_keep_18_s, ix103, n103, if_neg (nI_ge (by omega) (by omega)), ckN (by omega) (by decide), ckN (by omega) (by decide), nI_clamp (by omega), nI_clamp (by omega), nI_1]
      exact e
    · rw [hs j]
      by_cases hj : j = m * 103 + i
      · subst hj
        rw [if_neg (by omega), pk_us, if_pos (by omega), Nat.add_sub_cancel_left]
      · rw [pk_un hj]
        by_cases h2 : m * 103 + (i + 1) ≤ j ∧ j < m * 103 + 103
        · rw [if_pos h2, if_pos (by omega)]
        · rw [if_neg h2, if_neg (by omega)]
theorem rf_back (kp iK : Nat → Int32) (cp : Int32) {m : Nat} (hm : m < 2) : ∀ (d f i : Nat) (th um : Int32) (s : Nat → Int32), i + d = 103 → d < f → ∃ s', fX11_back_30 (nI m) cp kp iK f (nI i) th um s = some (cp, th, 0, s') ∧ ∀ j, s' j = if i ≤ j ∧ j < 103 then kp (m * 103 + j) else s j := by
  intro d
  induction d with
  | zero =>
    intro f i th um s hi hf
    obtain ⟨f, rfl⟩ : ∃ g, f = g + 1 := ⟨f - 1, by omega⟩
    refine ⟨s, ?_, fun j => by rw [if_neg (by omega)]⟩
    rw [fX11_back_30_s, n103, if_pos (nI_le (by omega) (by omega))]
  | succ d ih =>
    intro f i th um s hi hf
    obtain ⟨f, rfl⟩ : ∃ g, f = g + 1 := ⟨f - 1, by omega⟩
    obtain ⟨s', e, hs⟩ := ih f (i + 1) th um (upd s i (kp (m * 103 + i))) (by omega) (by omega)
    refine ⟨s', ?_, fun j => ?_⟩
    · rw [fX11_back_30_s, ix103, n103, if_neg (nI_ge (by omega) (by omega)), ckN (by omega) (by decide), ckN (by omega) (by decide), nI_clamp (by omega), nI_clamp (by omega), nI_1]
      exact e
    · rw [hs j]
      by_cases hj : j = i
      · subst hj
        rw [if_neg (by omega), pk_us, if_pos (by omega)]
      · rw [pk_un hj]
        by_cases h2 : i + 1 ≤ j ∧ j < 103
        · rw [if_pos h2, if_pos (by omega)]
        · rw [if_neg h2, if_neg (by omega)]
theorem sim_keep : Sim_keep RelV := by
  intro x tl tA R pn ps P I K ss sw se vr ty t cp s um U kp iK sm sW sI ak th hR
  obtain ⟨n, hn, rfl, hT, hRo, hPa, hIm, hSe, hv⟩ := hR
  rcases iw x 0 1 with ⟨e, -⟩ | ⟨e, h1, h2⟩
  · refine ⟨-1, I, K, 0, kp, iK, ?_, ?_, n, hn, rfl, hT, hRo, hPa, hIm, hSe, hv⟩
    · unfold fX10_keep; rw [e]; rfl
    · unfold fX11_keep; rw [iw_eq, e]; rfl
  · obtain ⟨m, -, hm, rfl⟩ := iw_nat (a := 0) (b := 1) (by decide) (by decide) h1 h2
    obtain ⟨kp', e', hs⟩ := rf_keep s (nI n) (m := m) (by omega) 103 fuel 0 0 kp iK (by omega) (fuel_gt (by decide))
    refine ⟨nI n, va_cpy R I 0 (m * 104) 104, upd K m 1, 0, kp', upd iK m 1, ?_, ?_, n, hn, rfl, hT, hRo, hPa, fun m' hm' => ?_, hSe, hv⟩
    · unfold fX10_keep fX1_store
      rw [e, bds, if10, sp_saveTo (by omega) (by decide), bds, ckN (by omega) (by decide), nI_clamp (by omega), sp_copies, hRo.1.2.1]
      rfl
    · unfold fX11_keep
      rw [iw_eq, e, bds, if10]
      exact e'
    · by_cases hmm : m' = m
      · subst hmm
        rw [pk_us, pk_us]
        refine ⟨rfl, Or.inr ⟨rfl, RowP_congr hn (fun i hi => ?_) (fun i hi => ?_) hRo⟩⟩
        · show va_cpy R I 0 (m' * 104) 104 (m' * 104 + i) = R i
          rw [cpy_in hi, Nat.zero_add]
        · show kp' (m' * 103 + i) = s i
          rw [hs, if_pos (by omega), Nat.add_sub_cancel_left]
      · rw [pk_un hmm, pk_un hmm]
        refine ⟨(hIm m' hm').1, (hIm m' hm').2.imp id (fun h => ⟨h.1, RowP_congr hn (fun i hi => ?_) (fun i hi => ?_) h.2⟩)⟩
        · show va_cpy R I 0 (m * 104) 104 (m' * 104 + i) = I (m' * 104 + i)
          rw [pk_cpy_out (by omega)]
        · show kp' (m' * 103 + i) = kp (m' * 103 + i)
          rw [hs, if_neg (by omega)]
theorem sim_back : Sim_back RelV := by
  intro x tl tA R pn ps P I K ss sw se vr ty t cp s um U kp iK sm sW sI ak th hR
  obtain ⟨n, hn, rfl, hT, hRo, hPa, hIm, hSe, hv⟩ := hR
  rcases iw x 0 1 with ⟨e, -⟩ | ⟨e, h1, h2⟩
  · refine ⟨-1, R, ps, 0, um, s, ?_, ?_, n, hn, rfl, hT, hRo, hPa, hIm, hSe, hv⟩
    · unfold fX10_back; rw [e]; rfl
    · unfold fX11_back; rw [iw_eq, e]; rfl
  · obtain ⟨m, -, hm, rfl⟩ := iw_nat (a := 0) (b := 1) (by decide) (by decide) h1 h2
    obtain ⟨hkk, hc⟩ := hIm m (by omega)
    rcases hc with h0 | ⟨h0, hrow⟩
    · refine ⟨-2, R, ps, 0, um, s, ?_, ?_, n, hn, rfl, hT, hRo, hPa, hIm, hSe, hv⟩
      · unfold fX10_back fX1_restore
        rw [e, bds, if10, ckN (by omega) (by decide), nI_clamp (by omega), h0, if_pos rfl, ckN (by omega) (by decide)]
        rfl
      · unfold fX11_back
        rw [iw_eq, e, bds, if10, ckN (by omega) (by decide), nI_clamp (by omega), ← hkk, h0]
        rfl
    · obtain ⟨s', e', hs⟩ := rf_back kp iK (nI n) (m := m) (by omega) 103 fuel 0 0 um s (by omega) (fuel_gt (by decide))
      have hrow' : RowP n (va_cpy I R (m * 104) 0 104) s' := by
        refine RowP_congr hn (fun i hi => ?_) (fun i hi => ?_) hrow
        · have h := cpy_in (f := I) (g := R) (sp := m * 104) (dp := 0) (n := 104) hi
          rw [Nat.zero_add] at h
          exact h
        · rw [hs i, if_pos (by omega)]
      obtain ⟨k, q, hk, hq, rfl, rfl, rfl, hp⟩ := hPa
      refine ⟨nI n, va_cpy I R (m * 104) 0 104, 0, 0, 0, s', ?_, ?_, n, hn, rfl, hT, hrow', ⟨0, q, by decide, hq, rfl, rfl, rfl, fun t ht => absurd ht (by omega)⟩, hIm, hSe, hv⟩
      · unfold fX10_back fX1_restore
        rw [e, bds, if10, ckN (by omega) (by decide), nI_clamp (by omega), h0, if10, sp_loadFrom (by omega) (by decide), bds, ckN (by omega) (by decide), zc1]
        rw [bd2_in rfl, if10, sp_copies, hrow'.1.2.1]
        rfl
      · unfold fX11_back
        rw [iw_eq, e, bds, if10, ckN (by omega) (by decide), nI_clamp (by omega), ← hkk, h0, if10]
        exact e'
