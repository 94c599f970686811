/-! PURE. file: the loop -/
theorem rf_item12 {w c : Nat} (h1 : 1 ≤ w) (h2 : w ≤ 2) (hc : c < 6) {ty sp tok pl val y x1 x2 x3 x4 fa : Int32} {t dr : Nat → Int32} (hn : fX11_number 0 5 ty sp tok pl val (-1) t = some (y, x1, x2, x3, x4, fa)) : ∃ dr', fX11_readsItem (nI w) ty sp tok pl val (-1) (nI c) t dr = some (x1, x2, x3, x4, fa, nI (c + 1), dr') ∧ ∀ j, dr' j = if j = 39 then dr 39 ||| (if w = 2 then (1 : Int32) <<< (nI c &&& 31) else 0) else if j = 18 + c then (if w = 2 then -9 else 0) else if j = c then 1 else if j = 31 + c then y else dr j := by
  have look : ∀ (z u : Int32) (j : Nat), upd (upd (upd (upd dr (31 + c) y) c 1) (18 + c) z) 39 u j = if j = 39 then u else if j = 18 + c then z else if j = c then 1 else if j = 31 + c then y else dr j := by
    intro z u j
    by_cases a : j = 39
    · subst a; rw [pk_us, if_pos rfl]
    · rw [pk_un a, if_neg a]
      by_cases a : j = 18 + c
      · subst a; rw [pk_us, if_pos rfl]
      · rw [pk_un a, if_neg a]
        by_cases a : j = c
        · subst a; rw [pk_us, if_pos rfl]
        · rw [pk_un a, if_neg a]
          by_cases a : j = 31 + c
          · subst a; rw [pk_us, if_pos rfl]
          · rw [pk_un a, if_neg a]
  have e39 : ∀ z : Int32, upd (upd (upd dr (31 + c) y) c 1) (18 + c) z 39 = dr 39 := fun z => by
    rw [pk_un (by omega), pk_un (by omega), pk_un (by omega)]
  unfold fX11_readsItem
  rw [if_pos (show nI w ≤ 2 from nI_le h2 (by decide)), hn, bd6_in rfl, n31, n18, ixs, ixs, show (0 : Int32) + nI c = nI c from by rw [n0, ixs, Nat.zero_add], ckN (by omega) (by decide), ckN (by omega) (by decide), nI_clamp (by omega), nI_clamp (by omega)]
  unfold fX11_readsItem_81
  rw [n39, ckN (by omega) (by decide), ckN (by omega) (by decide), ckN (by omega) (by decide), ckN (by omega) (by decide), ckN (by omega) (by decide), ckN (by omega) (by decide), nI_clamp (show 18 + c < 2 ^ 31 by omega), nI_clamp (show 39 < 2 ^ 31 by decide), nI_1, e39, e39]
  rcases (show w = 1 ∨ w = 2 by omega) with rfl | rfl
  · rw [if_neg (show ¬ nI 1 = 2 by decide), if_neg (show ¬ nI 1 = 2 by decide)]
    refine ⟨_, rfl, fun j => ?_⟩
    rw [look, if_neg (show ¬ (1 : Nat) = 2 by decide), if_neg (show ¬ (1 : Nat) = 2 by decide)]
  · rw [if_pos (show nI 2 = 2 from rfl), if_pos (show nI 2 = 2 from rfl)]
    refine ⟨_, rfl, fun j => ?_⟩
    rw [look, if_pos (show (2 : Nat) = 2 from rfl), if_pos (show (2 : Nat) = 2 from rfl)]
    try rfl
theorem rf_item34 {w : Nat} (h1 : 3 ≤ w) (h2 : w ≤ 4) {ty sp tok pl val y x1 x2 x3 x4 fa dc : Int32} {t dr : Nat → Int32} (hn : fX11_number 1 30 ty sp tok pl val (-1) t = some (y, x1, x2, x3, x4, fa)) : fX11_readsItem (nI w) ty sp tok pl val (-1) dc t dr = some (x1, x2, x3, x4, fa, dc, upd dr (34 + w) y) := by
  have a7 : ∀ {α : Type} (K : Option α), ckI 103 ((31 : Int32) + (6 : Int32)) K = K := fun K => ckN (k := 37) (by decide) (by decide)
  have a8 : ∀ {α : Type} (K : Option α), ckI 103 ((31 : Int32) + (7 : Int32)) K = K := fun K => ckN (k := 38) (by decide) (by decide)
  have c7 : Int32.toNatClampNeg ((31 : Int32) + (6 : Int32)) = 37 := rfl
  have c8 : Int32.toNatClampNeg ((31 : Int32) + (7 : Int32)) = 38 := rfl
  unfold fX11_readsItem
  rw [if_neg (show ¬ nI w ≤ (2 : Int32) from show ¬ nI w ≤ nI 2 from nI_ge (by omega) (by omega)), hn, bd6_in rfl, bd6_in rfl, a7, a8, c7, c8]
  rcases (show w = 3 ∨ w = 4 by omega) with rfl | rfl
  · rw [if_pos (show nI 3 = 3 from rfl)]
  · rw [if_neg (show ¬ nI 4 = 3 by decide)]
/-- an item, told -/
theorem DR_12 {c : Nat} {wi rd wr : Int32} {vo dr dr' : Nat → Int32} (h : DR c wi rd wr vo dr) (hc : c < 6) {w m : Nat} (h1 : 1 ≤ w) (h2 : w ≤ 2) (hm : m ≤ 5) (hd : ∀ j, dr' j = if j = 39 then dr 39 ||| (if w = 2 then (1 : Int32) <<< (nI c &&& 31) else 0) else if j = 18 + c then (if w = 2 then -9 else 0) else if j = c then 1 else if j = 31 + c then nI m else dr j) (i : Int32) : ∃ wi' vo', fX8_addItem (nI w) (nI m) wi (nI c) rd wr i vo = some (wi', nI (c + 1), rd, wr, i + 1, vo') ∧ DR (c + 1) wi' rd wr vo' dr' := by
  obtain ⟨d1, d2, d3, d4, ⟨r, r1, r2, r3⟩, ⟨q, q1, q2, q3⟩, d7, d8, d9⟩ := h
  have other : ∀ j, ¬ j = 39 → ¬ j = 18 + c → ¬ j = c → ¬ j = 31 + c → dr' j = dr j := fun j a1 a2 a3 a4 => by rw [hd, if_neg a1, if_neg a2, if_neg a3, if_neg a4]
  have build : ∀ wi' : Int32, dr' 39 = wi' → (∀ j, j < c → bt wi' j = bt wi j) → ((w = 2 ∧ bt wi' c = true) ∨ (w = 1 ∧ bt wi' c = false)) → (∀ j, c + 1 ≤ j → j < 32 → bt wi' j = false) → DR (c + 1) wi' rd wr (upd vo c (nI m)) dr' := by
    intro wi' e39 hb hbc hbh
    refine ⟨by omega, fun j hj => ?_, fun j hj1 hj2 => ?_, hbh, ⟨r, r1, r2, ?_⟩, ⟨q, q1, q2, ?_⟩, e39, ?_, fun j hj hj2 => ?_⟩
    · by_cases z : j = c
      · subst z
        refine ⟨?_, ?_, m, hm, pk_us, ?_⟩
        · rw [hd, if_neg (by omega), if_neg (by omega), if_pos rfl]
        · rw [hd, if_neg (by omega), if_pos rfl]
          rcases hbc with ⟨rfl, b⟩ | ⟨rfl, b⟩
          · rw [if_pos rfl, if_pos b]
          · rw [if_neg (by decide), b, if_neg (by decide)]
        · rw [hd, if_neg (by omega), if_neg (by omega), if_neg (by omega), if_pos rfl]
      · obtain ⟨x1, x2, v, v1, v2, v3⟩ := d2 j (by omega)
        refine ⟨?_, ?_, v, v1, ?_, ?_⟩
        · rw [other j (by omega) (by omega) (by omega) (by omega)]; exact x1
        · rw [other (18 + j) (by omega) (by omega) (by omega) (by omega), hb j (by omega)]; exact x2
        · rw [pk_un z]; exact v2
        · rw [other (31 + j) (by omega) (by omega) (by omega) (by omega)]; exact v3
    · obtain ⟨x1, x2, x3⟩ := d3 j (by omega) hj2
      refine ⟨?_, ?_, ?_⟩
      · rw [other j (by omega) (by omega) (by omega) (by omega)]; exact x1
      · rw [other (18 + j) (by omega) (by omega) (by omega) (by omega)]; exact x2
      · rw [other (31 + j) (by omega) (by omega) (by omega) (by omega)]; exact x3
    · rw [other 37 (by omega) (by omega) (by omega) (by omega)]; exact r3
    · rw [other 38 (by omega) (by omega) (by omega) (by omega)]; exact q3
    · rw [other 30 (by omega) (by omega) (by omega) (by omega)]; exact d8
    · rw [other j (by omega) (by omega) (by omega) (by omega)]; exact d9 j hj hj2
  unfold fX8_addItem
  rw [if_neg (show ¬ nI w = 3 from fun z => absurd (nI_inj (a := w) (b := 3) (by omega) (by decide) z) (by omega)), if_neg (show ¬ nI w = 4 from fun z => absurd (nI_inj (a := w) (b := 4) (by omega) (by decide) z) (by omega)), n6, if_neg (nI_ge hc (by decide)), ckN (by omega) (by decide), nI_clamp (by omega), nI_1]
  have h39 := hd 39
  rw [if_pos rfl] at h39
  rcases (show w = 1 ∨ w = 2 by omega) with rfl | rfl
  · rw [if_neg (show ¬ nI 1 = 2 by decide)]
    rw [if_neg (show ¬ (1 : Nat) = 2 by decide), Int32.or_zero, d7] at h39
    exact ⟨wi, _, rfl, build wi h39 (fun j _ => rfl) (Or.inr ⟨rfl, d4 c (Nat.le_refl _) (by omega)⟩) (fun j hj1 hj2 => d4 j (by omega) hj2)⟩
  · rw [if_pos (show nI 2 = 2 from rfl)]
    rw [if_pos (show (2 : Nat) = 2 from rfl), d7] at h39
    refine ⟨_, _, rfl, build _ h39 (fun j hj => ?_) (Or.inl ⟨rfl, ?_⟩) (fun j hj1 hj2 => ?_)⟩
    · rw [bt_or1 (by omega) (by omega), decide_eq_false (show ¬ c = j by omega), Bool.or_false]
    · rw [bt_or1 (by omega) (by omega), decide_eq_true rfl, Bool.or_true]
    · rw [bt_or1 (by omega) hj2, decide_eq_false (show ¬ c = j by omega), Bool.or_false]; exact d4 j (by omega) hj2
theorem DR_34 {c : Nat} {wi rd wr : Int32} {vo dr : Nat → Int32} (h : DR c wi rd wr vo dr) {w m : Nat} (h1 : 3 ≤ w) (h2 : w ≤ 4) (hm : m ≤ 30) (i : Int32) : ∃ rd' wr', fX8_addItem (nI w) (nI m) wi (nI c) rd wr i vo = some (wi, nI c, rd', wr', i + 1, vo) ∧ DR c wi rd' wr' vo (upd dr (34 + w) (nI m)) := by
  obtain ⟨d1, d2, d3, d4, ⟨r, r1, r2, r3⟩, ⟨q, q1, q2, q3⟩, d7, d8, d9⟩ := h
  have other : ∀ j, ¬ j = 34 + w → upd dr (34 + w) (nI m) j = dr j := fun j a => pk_un a
  have build : ∀ rd' wr' : Int32, (∃ r, r ≤ 30 ∧ rd' = nI r ∧ upd dr (34 + w) (nI m) 37 = nI r) → (∃ r, r ≤ 30 ∧ wr' = nI r ∧ upd dr (34 + w) (nI m) 38 = nI r) → DR c wi rd' wr' vo (upd dr (34 + w) (nI m)) := by
    intro rd' wr' a b
    refine ⟨d1, fun j hj => ?_, fun j hj1 hj2 => ?_, d4, a, b, ?_, ?_, fun j hj hj2 => ?_⟩
    · rw [other j (by omega), other (18 + j) (by omega), other (31 + j) (by omega)]; exact d2 j hj
    · rw [other j (by omega), other (18 + j) (by omega), other (31 + j) (by omega)]; exact d3 j hj1 hj2
    · rw [other 39 (by omega)]; exact d7
    · rw [other 30 (by omega)]; exact d8
    · rw [other j (by omega)]; exact d9 j hj hj2
  unfold fX8_addItem
  rcases (show w = 3 ∨ w = 4 by omega) with rfl | rfl
  · rw [if_pos (show nI 3 = 3 from rfl)]
    exact ⟨_, _, rfl, build _ _ ⟨m, hm, rfl, pk_us⟩ ⟨q, q1, q2, by rw [other 38 (by decide)]; exact q3⟩⟩
  · rw [if_neg (show ¬ nI 4 = 3 by decide), if_pos (show nI 4 = 4 from rfl)]
    exact ⟨_, _, rfl, build _ _ ⟨r, r1, r2, by rw [other 37 (by decide)]; exact r3⟩ ⟨m, hm, rfl, pk_us⟩⟩
