/-! PURE. votes -/
theorem vt_swap {v : Nat → Nat} {cp vv : Nat} (hcp : cp < 6) (h5 : ∀ j, j < 6 → v j ≤ 5) : nI (vt v) - nI (v cp) + nI vv = nI (vt (fun j => if j = cp then vv else v j)) := by
  have hle : v cp ≤ vt v := by
    unfold vt
    rcases (show cp = 0 ∨ cp = 1 ∨ cp = 2 ∨ cp = 3 ∨ cp = 4 ∨ cp = 5 by omega) with rfl | rfl | rfl | rfl | rfl | rfl <;> omega
  rw [pk_sub hle, ixs]
  congr 1
  unfold vt at hle ⊢
  rcases (show cp = 0 ∨ cp = 1 ∨ cp = 2 ∨ cp = 3 ∨ cp = 4 ∨ cp = 5 by omega) with rfl | rfl | rfl | rfl | rfl | rfl <;> simp <;> omega
theorem vt_le {v : Nat → Nat} {cp vv : Nat} (h5 : ∀ j, j < 6 → v j ≤ 5) (hvv : vv ≤ 5) : vt (fun j => if j = cp then vv else v j) ≤ 30 := by
  have h : ∀ j, j < 6 → (if j = cp then vv else v j) ≤ 5 := by
    intro j hj
    by_cases q : j = cp
    · rw [if_pos q]; exact hvv
    · rw [if_neg q]; exact h5 j hj
  have h0 := h 0 (by decide)
  have h1 := h 1 (by decide)
  have h2 := h 2 (by decide)
  have h3 := h 3 (by decide)
  have h4 := h 4 (by decide)
  have h5 := h 5 (by decide)
  unfold vt
  dsimp only
  omega
theorem sim_votes : Sim_votes RelV := by
  intro x1 x2 x3 x4 x5 x6 tl tA R pn ps P I K ss sw se vr ty t cp s um U kp iK sm sW sI ak mp mk mv ml ma mr mw th hR
  obtain ⟨n, hn, rfl, hT, hRo, hPa, hIm, hSe, rfl⟩ := hR
  have bad : ∀ (lr a1 a2 a3 a4 a5 a6 a7 : Int32), fX10_votes x1 x2 x3 x4 x5 x6 R pn ps P mp mk mv ml ma mr mw = some (lr, R, pn, ps, P, a1, a2, a3, a4, a5, a6, a7) → fX11_votes x1 x2 x3 x4 x5 x6 th (nI n) um s U = some (lr, 0, um, s, U) → ∃ (lr : Int32) (ox_now_row : Nat → Int32) (ox_past_next ox_past_size : Int32) (ox_past_rows : Nat → Int32) (ox_meeting_present ox_meeting_known ox_meeting_votes ox_meeting_latest ox_meeting_value ox_meeting_read ox_meeting_write om_thrown om_undoMany : Int32) (om_s om_undos : Nat → Int32), fX10_votes x1 x2 x3 x4 x5 x6 R pn ps P mp mk mv ml ma mr mw = some (lr, ox_now_row, ox_past_next, ox_past_size, ox_past_rows, ox_meeting_present, ox_meeting_known, ox_meeting_votes, ox_meeting_latest, ox_meeting_value, ox_meeting_read, ox_meeting_write) ∧ fX11_votes x1 x2 x3 x4 x5 x6 th (nI n) um s U = some (lr, om_thrown, om_undoMany, om_s, om_undos) ∧ RelV tl tA ox_now_row ox_past_next ox_past_size ox_past_rows I K ss sw se vr ty t (nI n) om_s om_undoMany om_undos kp iK sm sW sI vr :=
    fun lr a1 a2 a3 a4 a5 a6 a7 h1 h2 => ⟨lr, R, pn, ps, P, a1, a2, a3, a4, a5, a6, a7, 0, um, s, U, h1, h2, n, hn, rfl, hT, hRo, hPa, hIm, hSe, rfl⟩
  rcases isGroup_c x1 with e1 | ⟨e1, g, hg, rfl⟩
  · refine bad (-1) mp mk mv ml ma mr mw ?_ ?_
    · unfold fX10_votes; rw [e1]; rfl
    · unfold fX11_votes; rw [isGroup_eq, e1]; rfl
  have e0 := isCopy_r x2 n hRo.1.2.1
  rcases isCopy_c x2 hn with e2 | ⟨e2, i, hi, rfl⟩
  · refine bad (-1) mp mk mv ml ma mr mw ?_ ?_
    · unfold fX10_votes; rw [e1, bds, if10, e0, e2]; rfl
    · unfold fX11_votes; rw [isGroup_eq, e1, bds, if10, e2]; rfl
  rcases iw x3 0 5 with ⟨e3, -⟩ | ⟨e3, h1, h2⟩
  · refine bad (-1) mp mk mv ml ma mr mw ?_ ?_
    · unfold fX10_votes; rw [e1, bds, if10, e0, e2, bds, if10, e3]; rfl
    · unfold fX11_votes; rw [isGroup_eq, e1, bds, if10, e2, bds, if10, iw_eq, e3]; rfl
  obtain ⟨vv, -, hvv, rfl⟩ := iw_nat (a := 0) (b := 5) (by decide) (by decide) h1 h2
  rcases iw x4 0 1 with ⟨e4, -⟩ | ⟨e4, h1, h2⟩
  · refine bad (-1) mp mk mv ml ma mr mw ?_ ?_
    · unfold fX10_votes; rw [e1, bds, if10, e0, e2, bds, if10, e3, bds, if10, e4]; rfl
    · unfold fX11_votes; rw [isGroup_eq, e1, bds, if10, e2, bds, if10, iw_eq, e3, bds, if10, iw_eq, e4]; rfl
  obtain ⟨z, -, hz, rfl⟩ := iw_nat (a := 0) (b := 1) (by decide) (by decide) h1 h2
  rcases iw x5 1 30 with ⟨e5, -⟩ | ⟨e5, h1, h2⟩
  · refine bad (-1) mp mk mv ml ma mr mw ?_ ?_
    · unfold fX10_votes; rw [e1, bds, if10, e0, e2, bds, if10, e3, bds, if10, e4, bds, if10, e5]; rfl
    · unfold fX11_votes; rw [isGroup_eq, e1, bds, if10, e2, bds, if10, iw_eq, e3, bds, if10, iw_eq, e4, bds, if10, iw_eq, e5]; rfl
  obtain ⟨rd, hrd1, hrd2, rfl⟩ := iw_nat (a := 1) (b := 30) (by decide) (by decide) h1 h2
  rcases iw x6 1 30 with ⟨e6, -⟩ | ⟨e6, h1, h2⟩
  · refine bad (-1) mp mk mv ml ma mr mw ?_ ?_
    · unfold fX10_votes; rw [e1, bds, if10, e0, e2, bds, if10, e3, bds, if10, e4, bds, if10, e5, bds, if10, e6]; rfl
    · unfold fX11_votes; rw [isGroup_eq, e1, bds, if10, e2, bds, if10, iw_eq, e3, bds, if10, iw_eq, e4, bds, if10, iw_eq, e5, bds, if10, iw_eq, e6]; rfl
  obtain ⟨wr, hwr1, hwr2, rfl⟩ := iw_nat (a := 1) (b := 30) (by decide) (by decide) h1 h2
  obtain ⟨M, m1, m2, m3, m4, m5, m6⟩ := hRo.2
  have h31 : R 31 = nI M := hRo.1.2.2.1.trans m3
  have c30 : Int32.toNatClampNeg 30 = 30 := rfl
  by_cases hM8 : M = 8
  · subst hM8
    refine bad (-3) mp mk mv ml ma mr mw ?_ ?_
    · unfold fX10_votes; rw [e1, bds, if10, e0, e2, bds, if10, e3, bds, if10, e4, bds, if10, e5, bds, if10, e6, bds, if10, sp_configurations, bds, h31, if_neg (by decide)]
    · unfold fX11_votes; rw [isGroup_eq, e1, bds, if10, e2, bds, if10, iw_eq, e3, bds, if10, iw_eq, e4, bds, if10, iw_eq, e5, bds, if10, iw_eq, e6, bds, if10, c30, m3, if_pos (show nI 8 = 8 from rfl)]; rfl
  have hM7 : M < 8 := by omega
  have hlt : nI M < 8 := nI_lt (b := 8) hM7 (by decide)
  have hne8 : ¬ nI M = 8 := fun q => hM8 (nI_inj (by omega) (by decide) q)
  -- both sides as far as here
  have hC : fX10_votes (nI g) (nI i) (nI vv) (nI z) (nI rd) (nI wr) R pn ps P mp mk mv ml ma mr mw = (fun D => D) (bd7 (fX3_look (nI g) mp mk mv ml ma mr mw R) (fun jg22 jg23 jg24 jg25 jg26 jg27 jg28 => if jg22 = 0 then some ((-4), R, pn, ps, P, jg22, jg23, jg24, jg25, jg26, jg27, jg28) else bd1 (fX7_total jg23 R) (fun jr31 => bd1 (fX7_votesOf jg23 (nI i) R) (fun jr33 => bd1 (fX10_isLawful ((jr31 - jr33) + nI vv) (nI rd) (nI wr)) (fun jr35 => if jr35 = 0 then some ((-2), R, pn, ps, P, jg22, jg23, jg24, jg25, jg26, jg27, jg28) else bd1 (fX3_refusal jg28 1 jg22 jg24 jg26) (fun jr38 => if jr38 = 0 then bd3 (fX4_remember pn ps P R) (fun jg41 jg42 jg43 => bd2 (fX7_addLike jg23 R) (fun jr45 jg46 => bd1 (fX7_setNeeds jr45 (nI rd) (nI wr) jg46) (fun jg48 => if nI z = 1 then fX10_votes_231 jr45 1 (nI vv) (nI i) jr45 jg48 jg41 jg42 jg43 jg22 jg23 jg24 jg25 jg26 jg27 jg28 else fX10_votes_231 jr45 0 (nI vv) (nI i) jr45 jg48 jg41 jg42 jg43 jg22 jg23 jg24 jg25 jg26 jg27 jg28))) else some (jr38, R, pn, ps, P, jg22, jg23, jg24, jg25, jg26, jg27, jg28))))))) := by
    unfold fX10_votes
    rw [e1, bds, if10, e0, e2, bds, if10, e3, bds, if10, e4, bds, if10, e5, bds, if10, e6, bds, if10, sp_configurations, bds, h31, if_pos hlt]
  dsimp only at hC
  have hX : fX11_votes (nI g) (nI i) (nI vv) (nI z) (nI rd) (nI wr) th (nI n) um s U = bd1 (fX11_present (nI g) (nI n) s) (fun jr21 => if jr21 = 0 then some ((-4), (0), um, s, U) else bd1 (fX11_greatest jr21 24 (nI n) s) (fun jr24 => bd1 (fX11_confAt jr24) (fun jr26 => bd1 (fX11_totalOf 103 jr26 s) (fun jr28 => ckI 103 (jr26 + nI i) (bd1 (fX11_isLawful ((jr28 - (s (Int32.toNatClampNeg (jr26 + nI i)))) + nI vv) (nI rd) (nI wr)) (fun jr31 => if jr31 = 0 then some ((-2), (0), um, s, U) else bd1 (fX11_isEnough jr21 7 (nI n) s) (fun jr34 => if jr34 = 0 then some ((-4), (0), um, s, U) else bd1 (fX11_data jr21 (nI n) s) (fun jr37 => if jr37 = (-9) then some ((-5), (0), um, s, U) else bd2 (fX11_notes um s U) (fun jg40 jg41 => ckI 103 30 (bd1 (fX11_confAt (nI M)) (fun jr44 => fX11_votes_195 (nI i) (nI vv) (nI z) (nI rd) (nI wr) jr21 jr26 jr37 (nI M) jr44 (nI n) fuel 0 0 jg40 s jg41))))))))))) := by
    unfold fX11_votes
    rw [isGroup_eq, e1, bds, if10, e2, bds, if10, iw_eq, e3, bds, if10, iw_eq, e4, bds, if10, iw_eq, e5, bds, if10, iw_eq, e6, bds, if10, c30, m3, if_neg hne8]
    rfl
  rcases look_c hn hRo (nI g) mp mk mv ml ma mr mw with ⟨l1, l2⟩ | ⟨p, vo, la, va, c, M', hp, h30, hM', hc, hcf, l1, l2, l3, l4, l5, l6⟩
  · refine bad (-4) 0 (-9) 0 (-9) (-9) mr mw ?_ ?_
    · rw [hC, l1]; rfl
    · rw [hX, l2]; rfl
  obtain rfl : M' = M := nI_inj (by omega) (by omega) (h30.symm.trans m3)
  obtain ⟨v, v1, v2, -⟩ := id hcf
  have v1' : ∀ j, j < 6 → s (31 + c * 9 + j) = nI (v j) := fun j hj => (v1 j hj).2
  have hcls : R (32 + c * 9 + i) = s (31 + c * 9 + i) := (hRo.1.2.2.2 c (by omega)).1 i (by omega)
  have htot : fA (fun j => R (32 + c * 9 + j)) n 0 0 = nI (vt v) := (cfg_total hRo.1 (by omega) hn hcf).trans (fA_nat v1')
  have hnew : nI (vt v) - nI (v i) + nI vv = nI (vt (fun j => if j = i then vv else v j)) := vt_swap (by omega) (fun j hj => (v1 j hj).1)
  have hle30 : vt (fun j => if j = i then vv else v j) ≤ 30 := vt_le (fun j hj => (v1 j hj).1) hvv
  have hlawX : fX11_isLawful (nI (vt (fun j => if j = i then vv else v j))) (nI rd) (nI wr) = fX10_isLawful (nI (vt (fun j => if j = i then vv else v j))) (nI rd) (nI wr) := lawful_eq hrd1 hrd2 hwr1 hwr2 _
  have ei : (nI (31 + c * 9 + i)).toNatClampNeg = 31 + c * 9 + i := nI_clamp (by omega)
  rcases lawful_c (nI (vt (fun j => if j = i then vv else v j))) (nI rd) (nI wr) with q1 | ⟨q1, q2, q3⟩
  · refine bad (-2) p (nI c) vo la va (s (31 + c * 9 + 6)) (s (31 + c * 9 + 7)) ?_ ?_
    · rw [hC, l1, bd7_in rfl, if_neg hp, sp_total hRo.1.2.1 hn (by omega), bds, sp_votesOf (by omega) (by omega), bds, htot, hcls, v1' i (by omega), hnew, q1]; rfl
    · rw [hX, l2, bds, if_neg hp, l3, bds, rf_confAt, bds, rf_totalOf (by omega), bds, ixs, ckN (by omega) (by decide), ei, fA_nat v1', v1' i (by omega), hnew, hlawX, q1]; rfl
  have hlr : rd ≤ vt (fun j => if j = i then vv else v j) := Nat.le_of_not_lt (fun h => q2 (nI_lt h (by omega)))
  have hlw : wr ≤ vt (fun j => if j = i then vv else v j) := Nat.le_of_not_lt (fun h => q3 (nI_lt h (by omega)))
  have en := rf_isEnough (w := 7) hp (by omega) (by decide) l3 l5
  rw [← n7] at en
  have rf := sp_refusal (vo := vo) (va := va) (need := s (31 + c * 9 + 7)) hp 1
  by_cases hf : vo < s (31 + c * 9 + 7)
  · rw [if_pos hf] at en rf
    refine bad (-4) p (nI c) vo la va (s (31 + c * 9 + 6)) (s (31 + c * 9 + 7)) ?_ ?_
    · rw [hC, l1, bd7_in rfl, if_neg hp, sp_total hRo.1.2.1 hn (by omega), bds, sp_votesOf (by omega) (by omega), bds, htot, hcls, v1' i (by omega), hnew, q1, bds, if10, rf]; rfl
    · rw [hX, l2, bds, if_neg hp, l3, bds, rf_confAt, bds, rf_totalOf (by omega), bds, ixs, ckN (by omega) (by decide), ei, fA_nat v1', v1' i (by omega), hnew, hlawX, q1, bds, if10, en]; rfl
  rw [if_neg hf] at en rf
  rw [if_neg (by decide)] at rf
  by_cases hd : va = -9
  · rw [if_pos hd] at rf
    refine bad (-5) p (nI c) vo la va (s (31 + c * 9 + 6)) (s (31 + c * 9 + 7)) ?_ ?_
    · rw [hC, l1, bd7_in rfl, if_neg hp, sp_total hRo.1.2.1 hn (by omega), bds, sp_votesOf (by omega) (by omega), bds, htot, hcls, v1' i (by omega), hnew, q1, bds, if10, rf]; rfl
    · rw [hX, l2, bds, if_neg hp, l3, bds, rf_confAt, bds, rf_totalOf (by omega), bds, ixs, ckN (by omega) (by decide), ei, fA_nat v1', v1' i (by omega), hnew, hlawX, q1, bds, if10, en, bds, if10, l6, bds, if_pos hd]
  rw [if_neg hd] at rf
  obtain ⟨pn', ps', um', P', U', p1, p2, hPa'⟩ := past_push hn hPa hRo
  obtain ⟨s1, w1, hs1⟩ := rf_votes_loop (cp := nI i) (v := nI vv) (z := nI z) (rd := nI rd) (wr := nI wr) (p := p) (va := va) (cpn := nI n) (th := 0) (um := um') (U := U') hc hM7 9 fuel 0 s (by omega) (fuel_gt (by decide))
  have hs1_30 : s1 30 = nI M' := by rw [hs1, if_neg (by omega)]; exact m3
  have w2 := rf_votes_end (cp := i) (z := z) (M := M') (n := n) (by omega) hz hM7 (v := nI vv) (rd := nI rd) (wr := nI wr) (p := p) (k := nI (31 + c * 9)) (va := va) (th := 0) (um := um') (U := U') hs1_30
  obtain ⟨Z, hZ⟩ : ∃ Z : Int32, (if nI z = 1 then (1 : Int32) else 0) = Z := ⟨_, rfl⟩
  rw [hZ] at w2
  obtain ⟨R1, hR1⟩ : ∃ q, q = upd (va_cpy R R (32 + c * 9) (32 + M' * 9) 9) 31 (nI (M' + 1)) := ⟨_, rfl⟩
  obtain ⟨R2, hR2⟩ : ∃ q, q = upd (upd R1 (32 + M' * 9 + 7) (nI rd)) (32 + M' * 9 + 8) (nI wr) := ⟨_, rfl⟩
  obtain ⟨R3, hR3⟩ : ∃ q, q = upd (upd R2 (32 + M' * 9 + i) (nI vv)) (32 + M' * 9 + 6) (wb (R2 (32 + M' * 9 + 6)) i Z) := ⟨_, rfl⟩
  obtain ⟨S5, hS5⟩ : ∃ q, q = (upd (upd (upd (upd (upd (upd s1 (31 + M' * 9 + i) (nI vv)) (31 + M' * 9 + 6) (nI rd)) (31 + M' * 9 + 7) (nI wr)) (31 + M' * 9 + 8) (s1 (31 + M' * 9 + 8) &&& (((1 : Int32) <<< (nI i &&& 31)) ^^^ (-1)))) (31 + M' * 9 + 8) (wb (s1 (31 + M' * 9 + 8)) i Z)) 30 (nI (M' + 1))) := ⟨_, rfl⟩
  rw [← hS5] at w2
  have r1at : ∀ k, k < 9 → R1 (32 + M' * 9 + k) = R (32 + c * 9 + k) := fun k hk => by
    rw [hR1, pk_un (by omega), pk_cpy_in (by omega) (by omega), Nat.add_sub_cancel_left]
  have r1out : ∀ k, k ≠ 31 → (k < 32 + M' * 9 ∨ 32 + M' * 9 + 9 ≤ k) → R1 k = R k := fun k h1 h2 => by
    rw [hR1, pk_un h1, pk_cpy_out h2]
  have s1at : ∀ k, k < 9 → s1 (31 + M' * 9 + k) = s (31 + c * 9 + k) := fun k hk => by
    rw [hs1, if_pos (by omega), Nat.add_sub_cancel_left, Nat.add_comm k]
  have s1out : ∀ k, (k < 31 + M' * 9 ∨ 31 + M' * 9 + 9 ≤ k) → s1 k = s k := fun k h2 => by
    rw [hs1, if_neg (by omega)]
  have hW : wb (R2 (32 + M' * 9 + 6)) i Z = wb (s (31 + c * 9 + 8)) i Z := by
    rw [hR2, pk_un (by omega), pk_un (by omega), r1at 6 (by decide), (hRo.1.2.2.2 c (by omega)).2.1]
  have b2 : S5 30 = nI (M' + 1) := by rw [hS5, pk_us]
  have hrow3 : RowP n R3 S5 := by
    refine new_row (W := wb (s (31 + c * 9 + 8)) i Z) hn hc hM7 hi hvv hrd2 hwr2 hRo m3 (fun v' hv' => ?_) (fun k hk => ?_) ?_ (fun c' hc' hne k hk => ?_) (fun j hj => ?_) ?_ ?_ ?_ (fun k hk => ?_) b2 (fun c' hc' hne k hk => ?_) (fun j hj => ?_) ?_ ?_ ?_
    · have hv : ∀ j, j < 6 → v' j = v j := fun j hj => nI_inj (by have := (hv' j hj).1; omega) (by have := (v1 j hj).1; omega) ((hv' j hj).2.symm.trans (v1' j hj))
      have e : vt (fun j => if j = i then vv else v' j) = vt (fun j => if j = i then vv else v j) := by
        simp only [vt, hv 0 (by decide), hv 1 (by decide), hv 2 (by decide), hv 3 (by decide), hv 4 (by decide), hv 5 (by decide)]
      rw [e]
      exact ⟨hlr, hlw⟩
    · rw [hR3, pk_un (by omega), pk_un (by omega), hR2, pk_un (by omega), pk_un (by omega), r1out k (by omega) (by omega)]
    · rw [hR3, pk_un (by omega), pk_un (by omega), hR2, pk_un (by omega), pk_un (by omega), hR1, pk_us]
    · rw [hR3, pk_un (by omega), pk_un (by omega), hR2, pk_un (by omega), pk_un (by omega), r1out _ (by omega) (by omega)]
    · rw [hR3, pk_un (by omega)]
      by_cases q : j = i
      · subst q; rw [pk_us, if_pos rfl]
      · rw [pk_un (by omega), if_neg q, hR2, pk_un (by omega), pk_un (by omega), r1at j (by omega)]
    · rw [hR3, pk_us, hW]
    · rw [hR3, pk_un (by omega), pk_un (by omega), hR2, pk_un (by omega), pk_us]
    · rw [hR3, pk_un (by omega), pk_un (by omega), hR2, pk_us]
    · rw [hS5, pk_un (by omega), pk_un (by omega), pk_un (by omega), pk_un (by omega), pk_un (by omega), pk_un (by omega), s1out k (by omega)]
    · rw [hS5, pk_un (by omega), pk_un (by omega), pk_un (by omega), pk_un (by omega), pk_un (by omega), pk_un (by omega), s1out _ (by omega)]
    · rw [hS5, pk_un (by omega), pk_un (by omega), pk_un (by omega), pk_un (by omega), pk_un (by omega)]
      by_cases q : j = i
      · subst q; rw [pk_us, if_pos rfl]
      · rw [pk_un (by omega), if_neg q, s1at j (by omega)]
    · rw [hS5, pk_un (by omega), pk_us, s1at 8 (by decide)]
    · rw [hS5, pk_un (by omega), pk_un (by omega), pk_un (by omega), pk_un (by omega), pk_us]
    · rw [hS5, pk_un (by omega), pk_un (by omega), pk_un (by omega), pk_us]
  have hgr : fX11_greatest p 12 (nI n) S5 = some la := by
    rw [← l4, n12, rf_greatest hn (by decide), rf_greatest hn (by decide)]
    exact congrArg some (fM_congr n 0 (-9) (fun j _ hj => ⟨rfl, by
      show S5 (12 + j) = s (12 + j)
      rw [hS5, pk_un (by omega), pk_un (by omega), pk_un (by omega), pk_un (by omega), pk_un (by omega), pk_un (by omega), s1out _ (by omega)]⟩))
  obtain ⟨R', s', r1, r2, hRo'⟩ := renew_c (M := M' + 1) (cf := M') hn (by omega) (by omega) p la va hrow3 b2
  refine ⟨nI M', R', pn', ps', P', p, nI c, vo, la, va, s (31 + c * 9 + 6), s (31 + c * 9 + 7), 0, um', s', U', ?_, ?_, n, hn, rfl, hT, hRo', hPa', hIm, hSe, rfl⟩
  · have hend : (if nI z = 1 then fX10_votes_231 (nI M') 1 (nI vv) (nI i) (nI M') R2 pn' ps' P' p (nI c) vo la va (s (31 + c * 9 + 6)) (s (31 + c * 9 + 7)) else fX10_votes_231 (nI M') 0 (nI vv) (nI i) (nI M') R2 pn' ps' P' p (nI c) vo la va (s (31 + c * 9 + 6)) (s (31 + c * 9 + 7))) = some (nI M', R', pn', ps', P', p, nI c, vo, la, va, s (31 + c * 9 + 6), s (31 + c * 9 + 7)) := by
      have one : fX10_votes_231 (nI M') Z (nI vv) (nI i) (nI M') R2 pn' ps' P' p (nI c) vo la va (s (31 + c * 9 + 6)) (s (31 + c * 9 + 7)) = some (nI M', R', pn', ps', P', p, nI c, vo, la, va, s (31 + c * 9 + 6), s (31 + c * 9 + 7)) := by
        unfold fX10_votes_231
        rw [sp_setVoter hM7 (by omega), bds, ← hR3, r1]
        rfl
      by_cases q : nI z = 1
      · rw [if_pos q] at hZ ⊢
        rw [← hZ] at one
        exact one
      · rw [if_neg q] at hZ ⊢
        rw [← hZ] at one
        exact one
    rw [hC, l1, bd7_in rfl, if_neg hp, sp_total hRo.1.2.1 hn (by omega), bds, sp_votesOf (by omega) (by omega), bds, htot, hcls, v1' i (by omega), hnew, q1, bds, if10, rf, bds, if00, p1, bd3_in rfl, sp_addLike (by omega) hM7 h31, bd2_in rfl, ← hR1, sp_setNeeds hM7, bds, ← hR2]
    exact hend
  · rw [hX, l2, bds, if_neg hp, l3, bds, rf_confAt, bds, rf_totalOf (by omega), bds, ixs, ckN (by omega) (by decide), ei, fA_nat v1', v1' i (by omega), hnew, hlawX, q1, bds, if10, en, bds, if10, l6, bds, if_neg hd, p2, bd2_in rfl, n30, ckN (by decide) (by decide), rf_confAt, bds]
    refine w1.trans (w2.trans ?_)
    rw [hgr, bds, r2]
    rfl
