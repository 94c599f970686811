/-! PURE. flips, moves, copy, count -/
theorem isCopy_r (x : Int32) (n : Nat) {R : Nat → Int32} (h : R 30 = nI n) : fX10_isCopy x R = fX11_isCopy x (nI n) := by
  unfold fX10_isCopy fX11_isCopy
  rw [sp_copies, bds, h]
  rfl
theorem isCopy_c (x : Int32) {n : Nat} (hn : n ≤ 6) : fX11_isCopy x (nI n) = some 0 ∨ (fX11_isCopy x (nI n) = some 1 ∧ ∃ j, j < n ∧ x = nI j) := by
  unfold fX11_isCopy
  rw [iw_eq]
  rcases iw x 0 (nI n - 1) with ⟨e, -⟩ | ⟨e, h1, h2⟩
  · left; rw [e]; rfl
  · right
    refine ⟨by rw [e]; rfl, ?_⟩
    cases n with
    | zero =>
      exfalso
      have h3 : (0 : Int32) ≤ x := Int32.not_lt.mp h1
      have h4 : x ≤ nI 0 - 1 := Int32.not_lt.mp h2
      exact absurd (Int32.le_trans h3 h4) (by decide)
    | succ n =>
      rw [nI_pred] at h2
      obtain ⟨j, -, hj, e⟩ := iw_nat (a := 0) (b := n) (by decide) (by omega) h1 h2
      exact ⟨j, by omega, e⟩
theorem RowP_set {n : Nat} (hn : n ≤ 6) {R s : Nat → Int32} {i : Nat} {v : Int32} (hi : i < 24) (hv : i < 6 → v = 0 ∨ v = 1) (h : RowP n R s) : RowP n (upd R i v) (upd s i v) := by
  obtain ⟨⟨h1, h2, h3, h4⟩, M, m1, m2, m3, m4, m5, m6⟩ := h
  refine ⟨⟨fun j hj => ?_, by rw [pk_un (by omega)]; exact h2, by rw [pk_un (by omega), pk_un (by omega)]; exact h3, fun c hc => ⟨fun j hj => ?_, ?_, ?_, ?_⟩⟩, M, m1, m2, by rw [pk_un (by omega)]; exact m3, fun c hc => ?_, fun c hc => ?_, fun c hc => CfgK_congr (fun j hj => pk_un (by omega)) (m6 c hc)⟩
  · by_cases e : j = i
    · subst e; rw [pk_us, pk_us]
    · rw [pk_un e, pk_un e]; exact h1 j hj
  · rw [pk_un (by omega), pk_un (by omega)]; exact (h4 c hc).1 j hj
  · rw [pk_un (by omega), pk_un (by omega)]; exact (h4 c hc).2.1
  · rw [pk_un (by omega), pk_un (by omega)]; exact (h4 c hc).2.2.1
  · rw [pk_un (by omega), pk_un (by omega)]; exact (h4 c hc).2.2.2
  · by_cases e : c = i
    · subst e; rw [pk_us]; exact hv (by omega)
    · rw [pk_un e]; exact m4 c hc
  · rw [pk_un (by omega)]; exact m5 c hc
theorem sim_flips : Sim_flips RelV := by
  intro x tl tA R pn ps P I K ss sw se vr ty t cp s um U kp iK sm sW sI ak th hR
  obtain ⟨n, hn, rfl, hT, hRo, hPa, hIm, hSe, hv⟩ := hR
  have e0 := isCopy_r x n hRo.1.2.1
  rcases isCopy_c x hn with e | ⟨e, j, hj, rfl⟩
  · refine ⟨-1, R, pn, ps, P, 0, um, s, U, ?_, ?_, n, hn, rfl, hT, hRo, hPa, hIm, hSe, hv⟩
    · unfold fX10_flips; rw [e0, e]; rfl
    · unfold fX11_flips; rw [e]; rfl
  · obtain ⟨pn', ps', um', P', U', e1, e2, hPa'⟩ := past_push hn hPa hRo
    have hs : R j = s j := hRo.1.1 j (by omega)
    have h01 : (1 : Int32) - s j = 0 ∨ (1 : Int32) - s j = 1 := by
      obtain ⟨M, -, -, -, m4, -⟩ := hRo.2
      rcases m4 j hj with q | q
      · rw [q]; exact Or.inr rfl
      · rw [q]; exact Or.inl rfl
    refine ⟨1 - s j, upd R j (1 - s j), pn', ps', P', 0, um', upd s j (1 - s j), U', ?_, ?_, n, hn, rfl, hT, RowP_set hn (by omega) (fun _ => h01) hRo, hPa', hIm, hSe, hv⟩
    · unfold fX10_flips
      rw [e0, e, bds, if10, e1, bd3_in rfl]
      unfold fX7_turn
      rw [n0, ixs, Nat.zero_add, ckN (by omega) (by decide), ckN (by omega) (by decide), ckN (by omega) (by decide), nI_clamp (by omega), hs, pk_us]
      rfl
    · unfold fX11_flips
      rw [e, bds, if10, e2, bd2_in rfl, n0, ixs, Nat.zero_add, ckN (by omega) (by decide), ckN (by omega) (by decide), ckN (by omega) (by decide), nI_clamp (by omega), pk_us]
theorem sim_moves : Sim_moves RelV := by
  intro x y tl tA R pn ps P I K ss sw se vr ty t cp s um U kp iK sm sW sI ak th hR
  obtain ⟨n, hn, rfl, hT, hRo, hPa, hIm, hSe, hv⟩ := hR
  have e0 := isCopy_r x n hRo.1.2.1
  have no : ∀ lr : Int32, fX10_moves x y R pn ps P = some (lr, R, pn, ps, P) → fX11_moves x y th (nI n) um s U = some (lr, 0, um, s, U) → ∃ (lr : Int32) (ox_now_row : Nat → Int32) (ox_past_next ox_past_size : Int32) (ox_past_rows : Nat → Int32) (om_thrown om_undoMany : Int32) (om_s om_undos : Nat → Int32), fX10_moves x y R pn ps P = some (lr, ox_now_row, ox_past_next, ox_past_size, ox_past_rows) ∧ fX11_moves x y th (nI n) um s U = some (lr, om_thrown, om_undoMany, om_s, om_undos) ∧ RelV tl tA ox_now_row ox_past_next ox_past_size ox_past_rows I K ss sw se vr ty t (nI n) om_s om_undoMany om_undos kp iK sm sW sI ak :=
    fun lr e1 e2 => ⟨lr, R, pn, ps, P, 0, um, s, U, e1, e2, n, hn, rfl, hT, hRo, hPa, hIm, hSe, hv⟩
  rcases isCopy_c x hn with e | ⟨e, j, hj, rfl⟩
  · refine no (-1) ?_ ?_
    · unfold fX10_moves; rw [e0, e]; rfl
    · unfold fX11_moves; rw [e]; rfl
  rcases isGroup_c y with e' | ⟨e', g, hg, rfl⟩
  · refine no (-1) ?_ ?_
    · unfold fX10_moves; rw [e0, e, bds, if10, e']; rfl
    · unfold fX11_moves; rw [e, bds, if10, isGroup_eq, e']; rfl
  have hs : R (6 + j) = s (6 + j) := hRo.1.1 (6 + j) (by omega)
  by_cases hq : s (6 + j) = nI g
  · refine no (-2) ?_ ?_
    · unfold fX10_moves; rw [e0, e, bds, if10, e', bds, if10, sp_groupOf (by omega), bds, hs, if_pos hq]
    · unfold fX11_moves; rw [e, bds, if10, isGroup_eq, e', bds, if10, n6, ixs, ckN (by omega) (by decide), nI_clamp (by omega), if_pos hq]
  · obtain ⟨pn', ps', um', P', U', e1, e2, hPa'⟩ := past_push hn hPa hRo
    refine ⟨s (6 + j), upd R (6 + j) (nI g), pn', ps', P', 0, um', upd s (6 + j) (nI g), U', ?_, ?_, n, hn, rfl, hT, RowP_set hn (by omega) (fun h => absurd h (by omega)) hRo, hPa', hIm, hSe, hv⟩
    · unfold fX10_moves
      rw [e0, e, bds, if10, e', bds, if10, sp_groupOf (by omega), bds, hs, if_neg hq, e1, bd3_in rfl]
      unfold fX7_setGroup
      rw [n6, ixs, ckN (by omega) (by decide), nI_clamp (by omega)]
      rfl
    · unfold fX11_moves
      rw [e, bds, if10, isGroup_eq, e', bds, if10, n6, ixs, ckN (by omega) (by decide), nI_clamp (by omega), if_neg hq, e2, bd2_in rfl, ckN (by omega) (by decide)]
