/-! PURE. file and the new object -/
theorem kept0 (K : Nat → Int32) (m : Nat) (hm : m < 2) : upd (upd K 0 0) 1 0 m = 0 := by
  rcases (show m = 0 ∨ m = 1 by omega) with rfl | rfl
  · rw [pk_un (by decide), pk_us]
  · exact pk_us
theorem sim_file : Sim_file RelV := by
  intro tl tA R pn ps P I K ss sw se vr ty t cp s um U kp iK sm sW sI ak twi tco trd twr tit tki tst tnu tbe tvo th spot tok pl val fa dc drf hR
  obtain ⟨n, hn, rfl, ⟨k, hk, rfl, rfl, ht⟩, hRo, hPa, hIm, hSe, rfl⟩ := hR
  have hTT : TT k tA t (fun i => Int32.toNatClampNeg (t i)) := ⟨hk, fun i hi => by
    obtain ⟨e, b, hb, e2⟩ := ht i hi
    show tA i = nI (Int32.toNatClampNeg (t i)) ∧ t i = nI (Int32.toNatClampNeg (t i)) ∧ Int32.toNatClampNeg (t i) < 256
    rw [e, e2, nI_clamp (by omega)]
    exact ⟨rfl, rfl, hb⟩⟩
  obtain ⟨dr0, eb, hD0⟩ := rf_begins dc drf tvo
  obtain ⟨k1, n1v, t1, v1, st1, sp1, a1, b1, c1, c2, c3, T1, o1, p1⟩ := adv hTT tki tst tnu tok pl val (Nat.zero_le k)
  have hO := file_loop hTT (nI n) um sm s iK 121 fuel fuel 0 0 st1 sp1 0 0 0 k1 n1v t1 v1 tvo dr0 (by omega) (fuel_gt (by omega)) (fuel_gt (by omega)) (Nat.zero_le _) (Nat.zero_le _) c2 c3 T1 o1 p1 hD0
  have eF : fX8_faultOf twi tco trd twr tit tki tst tnu tbe (nI k) tA tvo = fX8_faultOf_41 (nI k) tA fuel (nI 0) 0 (nI 0) 0 0 (nI 0) k1 (nI st1) n1v (nI sp1) tvo := by
    unfold fX8_faultOf
    rw [show fX9_rewind tbe = some 0 from rfl, bds, show fX9_advance tki tst tnu 0 (nI k) tA = _ from a1, bd4_in rfl]
    rfl
  have eM : fX11_file th (nI k) spot tok pl val fa (nI n) dc um sm t drf s iK = fX11_file_25 t fuel (nI 0) 0 (nI k) (nI sp1) t1 (nI st1) v1 (-1) (nI n) (nI 0) um sm dr0 s iK := by
    unfold fX11_file
    rw [eb, bd2_in rfl, show fX11_advances (nI k) 0 tok pl val t = _ from b1, bd4_in rfl]
    rfl
  rcases hO with ⟨p, hp, ⟨x1, x2, x3, x4, x5, x6, x7, x8, x9, vo, ec⟩, y1, y2, y3, y4, y5, y6, dr, er⟩ | ⟨i, c, wi, rd, wr, x1, x2, x3, x4, y1, y2, y3, y4, vo, dr, ec, er, hD, hF⟩
  · refine ⟨-10 - nI p, nI k, x1, x2, x3, x4, x5, x6, x7, x8, x9, vo, R, ps, K, ss, 0, nI k, y1, y2, y3, y4, y5, nI n, y6, um, sm, dr, s, iK, ?_, eM.trans er, n, hn, rfl, ⟨k, hk, rfl, rfl, ht⟩, hRo, hPa, hIm, hSe, rfl⟩
    unfold fX10_file
    rw [eF, ec, bd11_in rfl, if_neg]
    intro z
    have h1 : (0 : Int32) ≤ nI p := nI_pos' (by omega)
    rw [z] at h1
    exact absurd h1 (by decide)
  · obtain ⟨r, r1, r2, r3⟩ := hF.1
    have e37 : dr 37 = nI r := by
      obtain ⟨-, -, -, -, ⟨r', -, q1, q2⟩, -⟩ := hD
      rw [q2, ← q1, r3]
    obtain ⟨s', es, hs'⟩ := rf_settles r1 r2 (nI c) (nI k) (nI n) um sm e37 s iK
    obtain ⟨Q, eQ, hQ⟩ := sp_begin hD.1 R wi rd wr vo
    rw [es, bd7_in rfl] at er
    obtain ⟨pk, pq, -, p2, p3, -⟩ := hPa
    refine ⟨nI i, 0, wi, nI c, rd, wr, nI i, x1, x2, x3, x4, vo, Q, 0, upd (upd K 0 0) 1 0, 0, 0, 0, y1, y2, y3, y4, -1, nI c, nI c, 0, 0, dr, s', upd (upd iK 0 0) 1 0, ?_, eM.trans er, c, hD.1, rfl, ⟨0, by decide, rfl, rfl, fun j hj => absurd hj (by omega)⟩, new_shape hD hF hQ hs', ⟨0, pq, by decide, p2, p3, rfl, rfl, fun j hj => absurd hj (by omega)⟩, fun m hm => ?_, ⟨0, by decide, rfl, rfl, fun j hj => absurd hj (by omega)⟩, rfl⟩
    · unfold fX10_file
      rw [eF, ec, bd11_in rfl, if_pos rfl, eQ, bds, sp_drop, bds]
    · rw [kept0 K m hm, kept0 iK m hm]
      exact ⟨rfl, Or.inl rfl⟩
theorem simInit : Sim_init RelV := by
  obtain ⟨Q, eQ, hQ⟩ := sp_begin (c := 0) (by decide) (fun _ => 0) 0 1 1 (fun _ => 0)
  obtain ⟨dr0, eb, hD0⟩ := rf_begins 0 (fun _ => 0) (fun _ => 0)
  have a37 : dr0 37 = 0 := by
    obtain ⟨-, -, -, -, ⟨r', -, q1, q2⟩, -⟩ := hD0
    rw [q2, ← q1]
  have es0 : fX11_settles 0 0 0 0 0 dr0 (fun _ => 0) (fun _ => 0) = fX11_settles_36 0 fuel (nI 0) 0 0 0 0 (upd (upd dr0 37 1) 38 1) (fun _ => 0) (fun _ => 0) := by
    unfold fX11_settles
    rw [n37, ckN (by decide) (by decide), ckN (by decide) (by decide), nI_clamp (by decide), n38, ckN (by decide) (by decide), nI_clamp (by decide), if_pos a37]
    rfl
  obtain ⟨s', es, hs'⟩ := rf_settles36 0 0 0 0 0 (upd (upd dr0 37 1) 38 1) (fun _ => 0) 103 fuel 0 (fun _ => 0) (by omega) (fuel_gt (by omega)) (fun j hj => absurd hj (by omega))
  have hD : DR 0 0 1 1 (fun _ => 0) (upd (upd dr0 37 1) 38 1) := by
    obtain ⟨d1, d2, d3, d4, -, -, d7, d8, d9⟩ := hD0
    have other : ∀ j, ¬ j = 37 → ¬ j = 38 → upd (upd dr0 37 1) 38 1 j = dr0 j := fun j a b => by rw [pk_un b, pk_un a]
    refine ⟨d1, fun j hj => absurd hj (by omega), fun j hj1 hj2 => ?_, d4, ⟨1, by decide, rfl, ?_⟩, ⟨1, by decide, rfl, pk_us⟩, ?_, ?_, fun j hj hj2 => ?_⟩
    · rw [other j (by omega) (by omega), other (18 + j) (by omega) (by omega), other (31 + j) (by omega) (by omega)]; exact d3 j hj1 hj2
    · rw [pk_un (by decide), pk_us]; rfl
    · rw [other 39 (by decide) (by decide)]; exact d7
    · rw [other 30 (by decide) (by decide)]; exact d8
    · rw [other j (by omega) (by omega)]; exact d9 j hj hj2
  have hF : Fine 0 1 1 (upd (upd dr0 37 1) 38 1) := ⟨⟨1, by decide, by decide, rfl⟩, ⟨1, by decide, by decide, rfl⟩, fun z => absurd z (by decide)⟩
  refine ⟨Q, 0, dr0, 0, 0, 0, 0, upd (upd dr0 37 1) 38 1, s', upd (upd (fun _ => 0) 0 0) 1 0, eQ, eb, es0.trans es, 0, by decide, rfl, ⟨0, by decide, rfl, rfl, fun j hj => absurd hj (by omega)⟩, new_shape hD hF hQ hs', ⟨0, 0, by decide, by decide, rfl, rfl, rfl, fun j hj => absurd hj (by omega)⟩, fun m hm => ?_, ⟨0, by decide, rfl, rfl, fun j hj => absurd hj (by omega)⟩, rfl⟩
  rw [kept0 (fun _ => 0) m hm]
  exact ⟨rfl, Or.inl rfl⟩
