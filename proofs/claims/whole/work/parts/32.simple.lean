/-! PURE. The ops that touch little -/
theorem fuel_gt {d : Nat} (h : d < 100000) : d < fuel := Nat.lt_trans h (by decide)
theorem sim_type : Sim_type RelV := by
  intro x tl tA R pn ps P I K ss sw se vr ty t cp s um U kp iK sm sW sI ak th hR
  obtain ⟨n, hn, hcp, ⟨k, hk, rfl, rfl, ht⟩, hrest⟩ := hR
  rcases iw x 0 255 with ⟨e, -⟩ | ⟨e, h1, h2⟩
  · refine ⟨-1, nI k, tA, 0, nI k, t, ?_, ?_, n, hn, hcp, ⟨k, hk, rfl, rfl, ht⟩, hrest⟩
    · unfold fX10_type; rw [e]; rfl
    · unfold fX11_type; rw [iw_eq, e]; rfl
  · obtain ⟨b, -, hb, rfl⟩ := iw_nat (a := 0) (b := 255) (by decide) (by decide) h1 h2
    by_cases hf : k = 120
    · subst hf
      refine ⟨-3, nI 120, tA, 0, nI 120, t, ?_, ?_, n, hn, hcp, ⟨120, hk, rfl, rfl, ht⟩, hrest⟩
      · unfold fX10_type; rw [e]; rfl
      · unfold fX11_type; rw [iw_eq, e]; rfl
    · refine ⟨nI (k + 1), nI (k + 1), upd tA k (nI b), 0, nI (k + 1), upd t k (nI b), ?_, ?_, n, hn, hcp, ⟨k + 1, by omega, rfl, rfl, fun i hi => ?_⟩, hrest⟩
      · unfold fX10_type
        rw [e, bds, if10]
        unfold fX2_append
        rw [n120, if_pos (nI_lt (by omega) (by decide)), ckN (by omega) (by decide), nI_clamp (by omega), nI_1]
        rfl
      · unfold fX11_type
        rw [iw_eq, e, bds, if10, n120, if_neg (fun h => hf (nI_inj (by omega) (by decide) h)), ckN (by omega) (by decide), nI_clamp (by omega), nI_1]
      · by_cases hik : i = k
        · subst hik
          rw [pk_us, pk_us]
          exact ⟨rfl, b, by omega, rfl⟩
        · rw [pk_un hik, pk_un hik]
          exact ht i (by omega)
theorem sim_clear : Sim_clear RelV := by
  intro tl tA R pn ps P I K ss sw se vr ty t cp s um U kp iK sm sW sI ak th hR
  obtain ⟨n, hn, hcp, ⟨k, hk, rfl, rfl, ht⟩, hrest⟩ := hR
  exact ⟨nI k, 0, 0, 0, rfl, rfl, n, hn, hcp, ⟨0, by decide, rfl, rfl, fun i hi => absurd hi (by omega)⟩, hrest⟩
theorem sim_asked : Sim_asked RelV := by
  intro tl tA R pn ps P I K ss sw se vr ty t cp s um U kp iK sm sW sI ak th hR
  obtain ⟨n, hn, hcp, hT, hRo, hPa, hIm, hSe, rfl⟩ := hR
  exact ⟨vr, 0, rfl, rfl, n, hn, hcp, hT, hRo, hPa, hIm, hSe, rfl⟩
theorem sim_forget : Sim_forget RelV := by
  intro tl tA R pn ps P I K ss sw se vr ty t cp s um U kp iK sm sW sI ak th hR
  obtain ⟨n, hn, hcp, hT, hRo, hPa, hIm, ⟨k, hk, rfl, rfl, hs⟩, hv⟩ := hR
  exact ⟨nI k, 0, 0, 0, rfl, rfl, n, hn, hcp, hT, hRo, hPa, hIm, ⟨0, by decide, rfl, rfl, fun i hi => absurd hi (by omega)⟩, hv⟩
theorem sees_new {k : Nat} {w z : Int32} {sw se sW sI : Nat → Int32} (hs : ∀ i, i < k → sw i = sW i ∧ se i = sI i ∧ (sW i = 0 ∨ sW i = 1) ∧ (sI i = 0 ∨ sI i = 1)) (hw : w = 0 ∨ w = 1) (hz : z = 0 ∨ z = 1) : ∀ i, i < k + 1 → upd sw k w i = upd sW k w i ∧ upd se k z i = upd sI k z i ∧ (upd sW k w i = 0 ∨ upd sW k w i = 1) ∧ (upd sI k z i = 0 ∨ upd sI k z i = 1) := by
  intro i hi
  by_cases hik : i = k
  · subst hik
    rw [pk_us, pk_us, pk_us, pk_us]
    exact ⟨rfl, rfl, hw, hz⟩
  · rw [pk_un hik, pk_un hik, pk_un hik, pk_un hik]
    exact hs i (by omega)
theorem zo {j : Nat} (h : j ≤ 1) : nI j = 0 ∨ nI j = 1 := by
  rcases (show j = 0 ∨ j = 1 by omega) with rfl | rfl
  · exact Or.inl rfl
  · exact Or.inr rfl
theorem sim_sees : Sim_sees RelV := by
  intro x y tl tA R pn ps P I K ss sw se vr ty t cp s um U kp iK sm sW sI ak th hR
  obtain ⟨n, hn, hcp, hT, hRo, hPa, hIm, ⟨k, hk, rfl, rfl, hs⟩, hv⟩ := hR
  have no : ∀ lr : Int32, fX10_sees x y (nI k) sw se = some (lr, nI k, sw, se) → fX11_sees x y th (nI k) sW sI = some (lr, 0, nI k, sW, sI) → ∃ (lr : Int32) (ox_seen_size : Int32) (ox_seen_ways : (Nat → Int32)) (ox_seen_enough : (Nat → Int32)) (om_thrown : Int32) (om_seenMany : Int32) (om_seenWay : (Nat → Int32)) (om_seenIs : (Nat → Int32)), fX10_sees x y (nI k) sw se = some (lr, ox_seen_size, ox_seen_ways, ox_seen_enough) ∧ fX11_sees x y th (nI k) sW sI = some (lr, om_thrown, om_seenMany, om_seenWay, om_seenIs) ∧ RelV tl tA R pn ps P I K ox_seen_size ox_seen_ways ox_seen_enough vr ty t cp s um U kp iK om_seenMany om_seenWay om_seenIs ak :=
    fun lr e1 e2 => ⟨lr, nI k, sw, se, 0, nI k, sW, sI, e1, e2, n, hn, hcp, hT, hRo, hPa, hIm, ⟨k, hk, rfl, rfl, hs⟩, hv⟩
  rcases iw x 0 1 with ⟨e, -⟩ | ⟨e, h1, h2⟩
  · refine no (-1) ?_ ?_
    · unfold fX10_sees; rw [e]; rfl
    · unfold fX11_sees; rw [iw_eq, e]; rfl
  obtain ⟨a, -, ha, rfl⟩ := iw_nat (a := 0) (b := 1) (by decide) (by decide) h1 h2
  rcases iw y 0 1 with ⟨e', -⟩ | ⟨e', h1', h2'⟩
  · refine no (-1) ?_ ?_
    · unfold fX10_sees; rw [e, bds, if10, e']; rfl
    · unfold fX11_sees; rw [iw_eq, iw_eq, e, bds, if10, e']; rfl
  obtain ⟨b, -, hb, rfl⟩ := iw_nat (a := 0) (b := 1) (by decide) (by decide) h1' h2'
  by_cases hf : k = 6
  · subst hf
    refine no (-3) ?_ ?_
    · unfold fX10_sees; rw [e, bds, if10, e', bds, if10]
      rcases (show b = 0 ∨ b = 1 by omega) with rfl | rfl <;> rfl
    · unfold fX11_sees; rw [iw_eq, iw_eq, e, bds, if10, e', bds, if10]; rfl
  · refine ⟨nI (k + 1), nI (k + 1), upd sw k (nI a), upd se k (nI b), 0, nI (k + 1), upd sW k (nI a), upd sI k (nI b), ?_, ?_, n, hn, hcp, hT, hRo, hPa, hIm, ⟨k + 1, by omega, rfl, rfl, sees_new hs (zo ha) (zo hb)⟩, hv⟩
    · have ap : ∀ z : Int32, vp_nar .boolean z = z → fX6_append (nI a) z (nI k) sw se = some (1, nI (k + 1), upd sw k (nI a), upd se k z) := by
        intro z hz
        unfold fX6_append
        rw [n6, if_pos (nI_lt (by omega) (by decide)), ckN (by omega) (by decide), ckN (by omega) (by decide), nI_clamp (by omega), nI_1, hz]
      unfold fX10_sees
      rw [e, bds, if10, e', bds, if10]
      rcases (show b = 0 ∨ b = 1 by omega) with rfl | rfl
      · rw [if_neg (by decide), ap 0 rfl]; rfl
      · rw [if_pos (by decide), ap 1 rfl]; rfl
    · unfold fX11_sees
      rw [iw_eq, iw_eq, e, bds, if10, e', bds, if10, n6, if_neg (fun h => hf (nI_inj (by omega) (by decide) h)), ckN (by omega) (by decide), ckN (by omega) (by decide), nI_clamp (by omega), nI_1]
