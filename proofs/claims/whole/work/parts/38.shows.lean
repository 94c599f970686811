/-! PURE. group, copy, count -/
theorem out_ne {y : Int32} {a b : Nat} (hb : b < 2 ^ 31) (ha : a < 2 ^ 31) (h : y < nI a ∨ nI b < y) : ∀ k, a ≤ k → k ≤ b → ¬ y = nI k := by
  intro k h1 h2 e
  subst e
  rcases h with h | h
  · exact nI_nlt h1 (by omega) h
  · exact nI_nlt h2 hb h
theorem lt8 {j : Nat} (h : j ≤ 7) : j = 0 ∨ j = 1 ∨ j = 2 ∨ j = 3 ∨ j = 4 ∨ j = 5 ∨ j = 6 ∨ j = 7 := by omega
theorem sp_can {p vo va need : Int32} (hp : ¬ p = 0) (nd : Int32) : fX3_can need nd p vo va = some (if vo < need then 0 else if nd = 0 then 1 else if va = -9 then 0 else 1) := by
  unfold fX3_can
  rw [sp_refusal hp, bds]
  by_cases h : vo < need
  · rw [if_pos h, if_pos h]; rfl
  · rw [if_neg h, if_neg h]
    by_cases h2 : nd = 0
    · rw [if_pos h2, if_pos h2]; rfl
    · rw [if_neg h2, if_neg h2]
      by_cases h3 : va = -9
      · rw [if_pos h3, if_pos h3]; rfl
      · rw [if_neg h3, if_neg h3]; rfl
theorem sim_group : Sim_group RelV := by
  intro x y tl tA R pn ps P I K ss sw se vr ty t cp s um U kp iK sm sW sI ak mp mk mv ml ma mr mw th hR
  obtain ⟨n, hn, rfl, hT, hRo, hPa, hIm, hSe, rfl⟩ := hR
  have out : ∀ (lr a1 a2 a3 a4 a5 a6 a7 : Int32), fX10_group x y R mp mk mv ml ma mr mw = some (lr, a1, a2, a3, a4, a5, a6, a7) → fX11_group x y th (nI n) s = some (lr, 0) → ∃ (lr ox_meeting_present ox_meeting_known ox_meeting_votes ox_meeting_latest ox_meeting_value ox_meeting_read ox_meeting_write om_thrown : Int32), fX10_group x y R mp mk mv ml ma mr mw = some (lr, ox_meeting_present, ox_meeting_known, ox_meeting_votes, ox_meeting_latest, ox_meeting_value, ox_meeting_read, ox_meeting_write) ∧ fX11_group x y th (nI n) s = some (lr, om_thrown) ∧ RelV tl tA R pn ps P I K ss sw se vr ty t (nI n) s um U kp iK sm sW sI vr :=
    fun lr a1 a2 a3 a4 a5 a6 a7 h1 h2 => ⟨lr, a1, a2, a3, a4, a5, a6, a7, 0, h1, h2, n, hn, rfl, hT, hRo, hPa, hIm, hSe, rfl⟩
  rcases isGroup_c x with e | ⟨e, g, hg, rfl⟩
  · refine out (-1) mp mk mv ml ma mr mw ?_ ?_
    · unfold fX10_group; rw [e]; rfl
    · unfold fX11_group; rw [isGroup_eq, e]; rfl
  obtain ⟨M, m1, m2, m3, -⟩ := hRo.2
  have h31 : R 31 = nI M := hRo.1.2.2.1.trans m3
  rcases look_c hn hRo (nI g) mp mk mv ml ma mr mw with ⟨e1, e2⟩ | ⟨p, vo, la, va, c, M', hp, h30, hM, hc, hcf, e1, e2, e3, e4, e5, e6⟩
  · rcases iw y 0 7 with ⟨e', hy⟩ | ⟨e', h1, h2⟩
    · have hne := out_ne (a := 0) (b := 7) (by decide) (by decide) hy
      refine out (-1) 0 (-9) 0 (-9) (-9) mr mw ?_ ?_
      · unfold fX10_group
        rw [e, bds, if10, e1, bd7_in rfl, if_neg (show ¬ y = 0 from hne 0 (by decide) (by decide)), if_neg (show ¬ y = 1 from hne 1 (by decide) (by decide)), if_neg (show ¬ y = 2 from hne 2 (by decide) (by decide)), if_neg (show ¬ y = 3 from hne 3 (by decide) (by decide)), if_neg (show ¬ y = 4 from hne 4 (by decide) (by decide)), if_neg (show ¬ y = 5 from hne 5 (by decide) (by decide)), if_neg (show ¬ y = 6 from hne 6 (by decide) (by decide)), if_neg (show ¬ y = 7 from hne 7 (by decide) (by decide))]
      · unfold fX11_group; rw [isGroup_eq, e, bds, if10, iw_eq, e']; rfl
    · obtain ⟨j, -, hj, rfl⟩ := iw_nat (a := 0) (b := 7) (by decide) (by decide) h1 h2
      have hX : fX11_group (nI g) (nI j) th (nI n) s = fX11_group_38 (nI n) s (nI j) 0 0 := by
        unfold fX11_group
        rw [isGroup_eq, e, bds, if10, iw_eq, e', bds, if10, e2, bds, if_pos (show (0 : Int32) = 0 from rfl)]
        by_cases q : nI j = 0
        · rw [if_pos q]
        · rw [if_neg q]
      have hC : ∀ z, fX10_group (nI g) (nI j) R mp mk mv ml ma mr mw = z ↔ (if nI j = 0 then some ((0 : Int32), (0 : Int32), (-9 : Int32), (0 : Int32), (-9 : Int32), (-9 : Int32), mr, mw) else if nI j = 1 then some (-9, 0, -9, 0, -9, -9, mr, mw) else if nI j = 2 then some (0, 0, -9, 0, -9, -9, mr, mw) else if nI j = 3 then some (-9, 0, -9, 0, -9, -9, mr, mw) else if nI j = 4 then some (0, 0, -9, 0, -9, -9, mr, mw) else if nI j = 5 then some (0, 0, -9, 0, -9, -9, mr, mw) else if nI j = 6 then some (0, 0, -9, 0, -9, -9, mr, mw) else if nI j = 7 then some (0, 0, -9, 0, -9, -9, mr, mw) else some (-1, 0, -9, 0, -9, -9, mr, mw)) = z := by
        intro z
        unfold fX10_group
        rw [e, bds, if10, e1, bd7_in rfl, sp_configurations, bds]
        by_cases q : (8 : Int32) ≤ R 31
        · rw [if_pos q]; exact Iff.rfl
        · rw [if_neg q]; exact Iff.rfl
      rcases lt8 hj with rfl | rfl | rfl | rfl | rfl | rfl | rfl | rfl
      · exact out 0 0 (-9) 0 (-9) (-9) mr mw ((hC _).mpr rfl) hX
      · exact out (-9) 0 (-9) 0 (-9) (-9) mr mw ((hC _).mpr rfl) hX
      · exact out 0 0 (-9) 0 (-9) (-9) mr mw ((hC _).mpr rfl) hX
      · exact out (-9) 0 (-9) 0 (-9) (-9) mr mw ((hC _).mpr rfl) hX
      · exact out 0 0 (-9) 0 (-9) (-9) mr mw ((hC _).mpr rfl) hX
      · exact out 0 0 (-9) 0 (-9) (-9) mr mw ((hC _).mpr rfl) hX
      · exact out 0 0 (-9) 0 (-9) (-9) mr mw ((hC _).mpr rfl) hX
      · exact out 0 0 (-9) 0 (-9) (-9) mr mw ((hC _).mpr rfl) hX
  · rcases iw y 0 7 with ⟨e', hy⟩ | ⟨e', h1, h2⟩
    · have hne := out_ne (a := 0) (b := 7) (by decide) (by decide) hy
      refine out (-1) p (nI c) vo la va (s (31 + c * 9 + 6)) (s (31 + c * 9 + 7)) ?_ ?_
      · unfold fX10_group
        rw [e, bds, if10, e1, bd7_in rfl, if_neg (show ¬ y = 0 from hne 0 (by decide) (by decide)), if_neg (show ¬ y = 1 from hne 1 (by decide) (by decide)), if_neg (show ¬ y = 2 from hne 2 (by decide) (by decide)), if_neg (show ¬ y = 3 from hne 3 (by decide) (by decide)), if_neg (show ¬ y = 4 from hne 4 (by decide) (by decide)), if_neg (show ¬ y = 5 from hne 5 (by decide) (by decide)), if_neg (show ¬ y = 6 from hne 6 (by decide) (by decide)), if_neg (show ¬ y = 7 from hne 7 (by decide) (by decide))]
      · unfold fX11_group; rw [isGroup_eq, e, bds, if10, iw_eq, e']; rfl
    · obtain ⟨j, -, hj, rfl⟩ := iw_nat (a := 0) (b := 7) (by decide) (by decide) h1 h2
      have en6 := rf_isEnough (w := 6) hp (by omega) (by decide) e3 e5
      have en7 := rf_isEnough (w := 7) hp (by omega) (by decide) e3 e5
      rw [← n6] at en6
      rw [← n7] at en7
      have hX : ¬ j = 0 → fX11_group (nI g) (nI j) th (nI n) s = fX11_group_78 (nI n) s (nI j) p (if va = -9 then 0 else 1) 0 := by
        intro hj0
        unfold fX11_group
        rw [isGroup_eq, e, bds, if10, iw_eq, e', bds, if10, e2, bds, if_neg (show ¬ nI j = 0 from fun q => hj0 (nI_inj (by omega) (by decide) q)), if_neg hp, e6, bds]
        by_cases q : va = -9
        · rw [if_pos q, if_pos q]
        · rw [if_neg q, if_neg q]
      have hC : ∀ z, fX10_group (nI g) (nI j) R mp mk mv ml ma mr mw = z ↔ (if nI j = 0 then some (p, p, nI c, vo, la, va, s (31 + c * 9 + 6), s (31 + c * 9 + 7)) else if nI j = 1 then some (nI c, p, nI c, vo, la, va, s (31 + c * 9 + 6), s (31 + c * 9 + 7)) else if nI j = 2 then some (vo, p, nI c, vo, la, va, s (31 + c * 9 + 6), s (31 + c * 9 + 7)) else if nI j = 3 then some (la, p, nI c, vo, la, va, s (31 + c * 9 + 6), s (31 + c * 9 + 7)) else if nI j = 4 then (if va = -9 then some (0, p, nI c, vo, la, va, s (31 + c * 9 + 6), s (31 + c * 9 + 7)) else some (1, p, nI c, vo, la, va, s (31 + c * 9 + 6), s (31 + c * 9 + 7))) else if nI j = 5 then some ((if vo < s (31 + c * 9 + 6) then 0 else if (1 : Int32) = 0 then 1 else if va = -9 then 0 else 1), p, nI c, vo, la, va, s (31 + c * 9 + 6), s (31 + c * 9 + 7)) else if nI j = 6 then some ((if vo < s (31 + c * 9 + 7) then 0 else if (0 : Int32) = 0 then 1 else if va = -9 then 0 else 1), p, nI c, vo, la, va, s (31 + c * 9 + 6), s (31 + c * 9 + 7)) else if nI j = 7 then (if (8 : Int32) ≤ R 31 then some (0, p, nI c, vo, la, va, s (31 + c * 9 + 6), s (31 + c * 9 + 7)) else some ((if vo < s (31 + c * 9 + 7) then 0 else if (1 : Int32) = 0 then 1 else if va = -9 then 0 else 1), p, nI c, vo, la, va, s (31 + c * 9 + 6), s (31 + c * 9 + 7))) else some (-1, p, nI c, vo, la, va, s (31 + c * 9 + 6), s (31 + c * 9 + 7))) = z := by
        intro z
        unfold fX10_group
        rw [e, bds, if10, e1, bd7_in rfl, sp_configurations, bds, sp_can hp, sp_can hp, sp_can hp]
        exact Iff.rfl
      rcases lt8 hj with rfl | rfl | rfl | rfl | rfl | rfl | rfl | rfl
      · refine out p p (nI c) vo la va _ _ ((hC _).mpr rfl) ?_
        unfold fX11_group
        rw [isGroup_eq, e, bds, if10, iw_eq, e', bds, if10, e2, bds, if_pos (show nI 0 = 0 from rfl)]
        rfl
      · refine out (nI c) p (nI c) vo la va _ _ ((hC _).mpr rfl) ((hX (by decide)).trans ?_)
        unfold fX11_group_78
        rw [if_neg (by decide), if_pos (show nI 1 = 1 from rfl), e3]
        rfl
      · refine out vo p (nI c) vo la va _ _ ((hC _).mpr rfl) ((hX (by decide)).trans ?_)
        unfold fX11_group_78
        rw [if_neg (by decide), if_neg (by decide), if_pos (show nI 2 = 2 from rfl), e3, bds, rf_confAt, bds, e5]
        rfl
      · refine out la p (nI c) vo la va _ _ ((hC _).mpr rfl) ((hX (by decide)).trans ?_)
        unfold fX11_group_78
        rw [if_neg (by decide), if_neg (by decide), if_neg (by decide), e4]
        rfl
      · by_cases q : va = -9
        · refine out 0 p (nI c) vo la va _ _ ((hC _).mpr (if_pos q)) ((hX (by decide)).trans ?_)
          rw [if_pos q]; rfl
        · refine out 1 p (nI c) vo la va _ _ ((hC _).mpr (if_neg q)) ((hX (by decide)).trans ?_)
          rw [if_neg q]; rfl
      · refine out (if vo < s (31 + c * 9 + 6) then 0 else if va = -9 then 0 else 1) p (nI c) vo la va _ _ ((hC _).mpr rfl) ((hX (by decide)).trans ?_)
        unfold fX11_group_78
        rw [if_pos (by decide), if_neg (by decide), if_pos (show nI 5 = 5 from rfl), en6, bds]
        by_cases q : va = -9
        · rw [if_pos q]
          by_cases q2 : vo < s (31 + c * 9 + 6)
          · rw [if_pos q2, if_pos q2]; rfl
          · rw [if_neg q2, if_neg q2]; rfl
        · rw [if_neg q]
          by_cases q2 : vo < s (31 + c * 9 + 6)
          · rw [if_pos q2]; rfl
          · rw [if_neg q2]; rfl
      · refine out (if vo < s (31 + c * 9 + 7) then 0 else 1) p (nI c) vo la va _ _ ((hC _).mpr rfl) ((hX (by decide)).trans ?_)
        unfold fX11_group_78
        rw [if_pos (by decide), if_neg (by decide), if_neg (by decide), en7, bds]
        by_cases q2 : vo < s (31 + c * 9 + 7)
        · rw [if_pos q2]; rfl
        · rw [if_neg q2]; rfl
      · refine out (if (8 : Int32) ≤ R 31 then 0 else if vo < s (31 + c * 9 + 7) then 0 else if va = -9 then 0 else 1) p (nI c) vo la va (s (31 + c * 9 + 6)) (s (31 + c * 9 + 7)) ((hC _).mpr ?_) ((hX (by decide)).trans ?_)
        · by_cases q3 : (8 : Int32) ≤ R 31
          · rw [if_pos q3, if_pos q3]; rfl
          · rw [if_neg q3, if_neg q3]; rfl
        · unfold fX11_group_78
          rw [if_pos (by decide), if_neg (by decide), if_neg (by decide), en7, bds, n30, ckN (by decide) (by decide), nI_clamp (by decide), ← hRo.1.2.2.1]
          by_cases q3 : (8 : Int32) ≤ R 31
          · rw [if_pos q3, if_pos q3]
            by_cases q : va = -9
            · rw [if_pos q]
              by_cases q2 : vo < s (31 + c * 9 + 7)
              · rw [if_pos q2]; rfl
              · rw [if_neg q2]; rfl
            · rw [if_neg q]
              by_cases q2 : vo < s (31 + c * 9 + 7)
              · rw [if_pos q2]; rfl
              · rw [if_neg q2]; rfl
          · rw [if_neg q3, if_neg q3]
            by_cases q : va = -9
            · rw [if_pos q]
              by_cases q2 : vo < s (31 + c * 9 + 7)
              · rw [if_pos q2, if_pos q2]; rfl
              · rw [if_neg q2, if_neg q2]; rfl
            · rw [if_neg q]
              by_cases q2 : vo < s (31 + c * 9 + 7)
              · rw [if_pos q2]; rfl
              · rw [if_neg q2]; rfl
/-! copy, count -/
theorem lt7 {j : Nat} (h : j ≤ 6) : j = 0 ∨ j = 1 ∨ j = 2 ∨ j = 3 ∨ j = 4 ∨ j = 5 ∨ j = 6 := by omega
theorem bt_val {x : Int32} {j : Nat} (hj : j < 32) : (x >>> (nI j &&& 31)) &&& 1 = if bt x j = true then 1 else 0 := by
  by_cases h : bt x j = true
  · rw [if_pos h]; exact (bt_iff hj).mpr h
  · rw [if_neg h]
    refine b_ext (fun i hi => ?_)
    rw [b_and, b_0, b_1 i hi]
    by_cases e : i = 0
    · subst e
      rw [b_sshr j hj x (by decide), if_pos (by omega), Nat.add_zero, Bool.eq_false_iff.mpr h]; rfl
    · rw [decide_eq_false e, Bool.and_false]
theorem sim_copy : Sim_copy RelV := by
  intro x y tl tA R pn ps P I K ss sw se vr ty t cp s um U kp iK sm sW sI ak th hR
  obtain ⟨n, hn, rfl, hT, hRo, hPa, hIm, hSe, rfl⟩ := hR
  have e0 := isCopy_r x n hRo.1.2.1
  have out : ∀ lr : Int32, fX10_copy x y R = some lr → fX11_copy x y th (nI n) s = some (lr, 0) → ∃ (lr om_thrown : Int32), fX10_copy x y R = some lr ∧ fX11_copy x y th (nI n) s = some (lr, om_thrown) ∧ RelV tl tA R pn ps P I K ss sw se vr ty t (nI n) s um U kp iK sm sW sI vr :=
    fun lr h1 h2 => ⟨lr, 0, h1, h2, n, hn, rfl, hT, hRo, hPa, hIm, hSe, rfl⟩
  rcases isCopy_c x hn with e | ⟨e, i, hi, rfl⟩
  · refine out (-1) ?_ ?_
    · unfold fX10_copy; rw [e0, e]; rfl
    · unfold fX11_copy; rw [e]; rfl
  obtain ⟨M, m1, m2, m3, m4, -⟩ := hRo.2
  have h31 : R 31 - 1 = nI (M - 1) := by rw [hRo.1.2.2.1, m3, nsub1 m1]
  have hr := hRo.1.1
  rcases iw y 0 6 with ⟨e', hy⟩ | ⟨e', h1, h2⟩
  · have hne := out_ne (a := 0) (b := 6) (by decide) (by decide) hy
    refine out (-1) ?_ ?_
    · unfold fX10_copy
      rw [e0, e, bds, if10, if_neg (show ¬ y = 0 from hne 0 (by decide) (by decide)), if_neg (show ¬ y = 1 from hne 1 (by decide) (by decide)), if_neg (show ¬ y = 2 from hne 2 (by decide) (by decide)), if_neg (show ¬ y = 3 from hne 3 (by decide) (by decide)), if_neg (show ¬ y = 4 from hne 4 (by decide) (by decide)), if_neg (show ¬ y = 5 from hne 5 (by decide) (by decide)), if_neg (show ¬ y = 6 from hne 6 (by decide) (by decide))]
    · unfold fX11_copy; rw [e, bds, if10, iw_eq, e']; rfl
  · obtain ⟨j, -, hj, rfl⟩ := iw_nat (a := 0) (b := 6) (by decide) (by decide) h1 h2
    have hX : j < 5 → fX11_copy (nI i) (nI j) th (nI n) s = some (s (j * 6 + i), 0) := by
      intro hj5
      unfold fX11_copy
      rw [e, bds, if10, iw_eq, e', bds, if10, n5, if_neg (nI_ge hj5 (by decide)), n6, pk_mul, ixs, Nat.mul_comm 6 j, ckN (by omega) (by decide), nI_clamp (by omega)]
    rcases lt7 hj with rfl | rfl | rfl | rfl | rfl | rfl | rfl
    · refine out (s i) ?_ ((hX (by decide)).trans (by rw [Nat.zero_mul, Nat.zero_add]))
      unfold fX10_copy
      rw [e0, e, bds, if10, if_pos (show nI 0 = 0 from rfl), sp_isUp (by omega), bds, hr i (by omega)]
      rcases m4 i hi with q | q
      · rw [q]; rfl
      · rw [q]; rfl
    · refine out (s (1 * 6 + i)) ?_ (hX (by decide))
      unfold fX10_copy
      rw [e0, e, bds, if10, if_neg (by decide), if_pos (show nI 1 = 1 from rfl), sp_groupOf (by omega), bds, hr _ (by omega)]
    · refine out (s (2 * 6 + i)) ?_ (hX (by decide))
      unfold fX10_copy
      rw [e0, e, bds, if10, if_neg (by decide), if_neg (by decide), if_pos (show nI 2 = 2 from rfl), sp_versionOf (by omega), bds, hr _ (by omega)]
    · refine out (s (3 * 6 + i)) ?_ (hX (by decide))
      unfold fX10_copy
      rw [e0, e, bds, if10, if_neg (by decide), if_neg (by decide), if_neg (by decide), if_pos (show nI 3 = 3 from rfl), sp_valueOf (by omega), bds, hr _ (by omega)]
    · refine out (s (4 * 6 + i)) ?_ (hX (by decide))
      unfold fX10_copy
      rw [e0, e, bds, if10, if_neg (by decide), if_neg (by decide), if_neg (by decide), if_neg (by decide), if_pos (show nI 4 = 4 from rfl), sp_configurationOf (by omega), bds, hr _ (by omega)]
    · refine out (s (31 + (M - 1) * 9 + i)) ?_ ?_
      · unfold fX10_copy
        rw [e0, e, bds, if10, if_neg (by decide), if_neg (by decide), if_neg (by decide), if_neg (by decide), if_neg (by decide), if_pos (show nI 5 = 5 from rfl), sp_newest, bds, h31, sp_votesOf (by omega) (by omega), bds, (hRo.1.2.2.2 (M - 1) (by omega)).1 i (by omega)]
      · unfold fX11_copy
        rw [e, bds, if10, iw_eq, e', bds, if10, if_pos (by decide), if_pos (show nI 5 = 5 from rfl), rf_newest m3 m1, bds, ixs, ckN (by omega) (by decide), nI_clamp (by omega)]
    · refine out (if bt (s (31 + (M - 1) * 9 + 8)) i = true then 1 else 0) ?_ ?_
      · unfold fX10_copy
        rw [e0, e, bds, if10, if_neg (by decide), if_neg (by decide), if_neg (by decide), if_neg (by decide), if_neg (by decide), if_neg (by decide), if_pos (show nI 6 = 6 from rfl), sp_newest, bds, h31, sp_isWitness (by omega) (by omega), bds, (hRo.1.2.2.2 (M - 1) (by omega)).2.1]
        by_cases q : bt (s (31 + (M - 1) * 9 + 8)) i = true
        · rw [if_pos q]; rfl
        · rw [if_neg q]; rfl
      · unfold fX11_copy
        rw [e, bds, if10, iw_eq, e', bds, if10, if_pos (by decide), if_neg (by decide), rf_newest m3 m1, bds, n8, ixs, ckN (by omega) (by decide), nI_clamp (by omega), bt_val (by omega)]
theorem sim_count : Sim_count RelV := by
  intro x tl tA R pn ps P I K ss sw se vr ty t cp s um U kp iK sm sW sI ak th hR
  obtain ⟨n, hn, rfl, ⟨k, hk, rfl, rfl, ht⟩, hRo, ⟨kp1, q, hkp, hq, rfl, rfl, rfl, hp⟩, hIm, ⟨ks, hks, rfl, rfl, hs⟩, rfl⟩ := hR
  have out : ∀ lr : Int32, fX10_count x (nI k) R (nI kp1) (nI ks) = some lr → fX11_count x th (nI k) (nI n) (nI kp1) (nI ks) s = some (lr, 0) → ∃ (lr om_thrown : Int32), fX10_count x (nI k) R (nI kp1) (nI ks) = some lr ∧ fX11_count x th (nI k) (nI n) (nI kp1) (nI ks) s = some (lr, om_thrown) ∧ RelV (nI k) tA R (nI q) (nI kp1) P I K (nI ks) sw se vr (nI k) t (nI n) s (nI kp1) U kp iK (nI ks) sW sI vr :=
    fun lr h1 h2 => ⟨lr, 0, h1, h2, n, hn, rfl, ⟨k, hk, rfl, rfl, ht⟩, hRo, ⟨kp1, q, hkp, hq, rfl, rfl, rfl, hp⟩, hIm, ⟨ks, hks, rfl, rfl, hs⟩, rfl⟩
  obtain ⟨M, m1, m2, m3, m4, m5, m6⟩ := hRo.2
  have h31 : R 31 - 1 = nI (M - 1) := by rw [hRo.1.2.2.1, m3, nsub1 m1]
  rcases iw x 0 7 with ⟨e', hy⟩ | ⟨e', h1, h2⟩
  · have hne := out_ne (a := 0) (b := 7) (by decide) (by decide) hy
    refine out (-1) ?_ ?_
    · unfold fX10_count
      rw [if_neg (show ¬ x = 0 from hne 0 (by decide) (by decide)), if_neg (show ¬ x = 1 from hne 1 (by decide) (by decide)), if_neg (show ¬ x = 2 from hne 2 (by decide) (by decide)), if_neg (show ¬ x = 3 from hne 3 (by decide) (by decide)), if_neg (show ¬ x = 4 from hne 4 (by decide) (by decide)), if_neg (show ¬ x = 5 from hne 5 (by decide) (by decide)), if_neg (show ¬ x = 6 from hne 6 (by decide) (by decide)), if_neg (show ¬ x = 7 from hne 7 (by decide) (by decide))]
    · unfold fX11_count; rw [iw_eq, e']; rfl
  · obtain ⟨j, -, hj, rfl⟩ := iw_nat (a := 0) (b := 7) (by decide) (by decide) h1 h2
    rcases lt8 hj with rfl | rfl | rfl | rfl | rfl | rfl | rfl | rfl
    · refine out (nI n) ?_ ?_
      · unfold fX10_count
        rw [if_pos (show nI 0 = 0 from rfl), sp_copies, hRo.1.2.1]; rfl
      · unfold fX11_count; rw [iw_eq, e']; rfl
    · refine out (s 30) ?_ ?_
      · unfold fX10_count
        rw [if_neg (by decide), if_pos (show nI 1 = 1 from rfl), sp_configurations, hRo.1.2.2.1]; rfl
      · unfold fX11_count; rw [iw_eq, e']; rfl
    · refine out (s (31 + (M - 1) * 9 + 6)) ?_ ?_
      · unfold fX10_count
        rw [if_neg (by decide), if_neg (by decide), if_pos (show nI 2 = 2 from rfl), sp_newest, bds, h31, sp_readOf (by omega), bds, (hRo.1.2.2.2 (M - 1) (by omega)).2.2.1]
      · unfold fX11_count
        rw [iw_eq, e', bds, if10, if_pos (by decide), if_neg (by decide), if_pos (show nI 2 = 2 from rfl), rf_newest m3 m1, bds, n6, ixs, ckN (by omega) (by decide), nI_clamp (by omega)]
    · refine out (s (31 + (M - 1) * 9 + 7)) ?_ ?_
      · unfold fX10_count
        rw [if_neg (by decide), if_neg (by decide), if_neg (by decide), if_pos (show nI 3 = 3 from rfl), sp_newest, bds, h31, sp_writeOf (by omega), bds, (hRo.1.2.2.2 (M - 1) (by omega)).2.2.2]
      · unfold fX11_count
        rw [iw_eq, e', bds, if10, if_pos (by decide), if_neg (by decide), if_neg (by decide), if_pos (show nI 3 = 3 from rfl), rf_newest m3 m1, bds, n7, ixs, ckN (by omega) (by decide), nI_clamp (by omega)]
    · refine out (fA (fun j => s (31 + (M - 1) * 9 + j)) 6 0 0) ?_ ?_
      · unfold fX10_count
        rw [if_neg (by decide), if_neg (by decide), if_neg (by decide), if_neg (by decide), if_pos (show nI 4 = 4 from rfl), sp_newest, bds, h31, sp_total hRo.1.2.1 hn (by omega), bds, cfg_total hRo.1 (by omega) hn (m6 (M - 1) (by omega))]
      · unfold fX11_count
        rw [iw_eq, e', bds, if10, if_pos (by decide), if_neg (by decide), if_neg (by decide), if_neg (by decide), rf_newest m3 m1, bds, rf_totalOf (by omega), bds]
    · refine out (nI ks) ?_ ?_
      · unfold fX10_count
        rw [if_neg (by decide), if_neg (by decide), if_neg (by decide), if_neg (by decide), if_neg (by decide), if_pos (show nI 5 = 5 from rfl)]
      · unfold fX11_count; rw [iw_eq, e']; rfl
    · refine out (nI k) ?_ ?_
      · unfold fX10_count
        rw [if_neg (by decide), if_neg (by decide), if_neg (by decide), if_neg (by decide), if_neg (by decide), if_neg (by decide), if_pos (show nI 6 = 6 from rfl)]
      · unfold fX11_count; rw [iw_eq, e']; rfl
    · refine out (nI kp1) ?_ ?_
      · unfold fX10_count
        rw [if_neg (by decide), if_neg (by decide), if_neg (by decide), if_neg (by decide), if_neg (by decide), if_neg (by decide), if_neg (by decide), if_pos (show nI 7 = 7 from rfl)]
      · unfold fX11_count; rw [iw_eq, e']; rfl
