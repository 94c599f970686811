/-! PURE. chance -/
theorem cop2 {u a : Nat} (h : u % 2 = 1 ∨ a = 0) : Nat.Coprime u (2 ^ a) := by
  rcases h with h | rfl
  · refine Nat.Coprime.pow_right a ?_
    show Nat.gcd u 2 = 1
    rw [Nat.gcd_comm, Nat.gcd_rec, h]
    rfl
  · exact Nat.coprime_one_right u
theorem cop5 {u b : Nat} (h : ¬ u % 5 = 0 ∨ b = 0) : Nat.Coprime u (5 ^ b) := by
  rcases h with h | rfl
  · refine Nat.Coprime.pow_right b ?_
    show Nat.gcd u 5 = 1
    rw [Nat.gcd_comm, Nat.gcd_rec]
    rcases (show u % 5 = 1 ∨ u % 5 = 2 ∨ u % 5 = 3 ∨ u % 5 = 4 by omega) with e | e | e | e <;> rw [e] <;> rfl
  · exact Nat.coprime_one_right u
theorem nz {k : Nat} (hk : k < 2 ^ 31) : nI k = 0 ↔ k = 0 := ⟨fun h => nI_inj hk (by decide) h, fun h => by rw [h]; rfl⟩
/-- by five, after by two -/
theorem sp_red74 {n : Nat} {T : Int32} {lk : Nat → Int32} {d f i : Nat} (ih : ∀ (u a b : Nat), u < 2 ^ 31 → 2 ^ a * 5 ^ b < 2 ^ 31 → d ≤ a → d ≤ b → (u % 2 = 1 ∨ a = d) → (¬ u % 5 = 0 ∨ b = d) → ∃ u' l' g, fX0_reduce_40 (nI n) T lk f (nI (i + 1)) (nI u) (nI (2 ^ a * 5 ^ b)) = some (nI u', nI l') ∧ u' * g = u ∧ l' * g = 2 ^ a * 5 ^ b ∧ Nat.gcd u' l' = 1) (u a b : Nat) (hu : u < 2 ^ 31) (hl : 2 ^ a * 5 ^ b < 2 ^ 31) (ha : d ≤ a) (hb : d + 1 ≤ b) (h2 : u % 2 = 1 ∨ a = d) (h5 : ¬ u % 5 = 0 ∨ b = d + 1) : ∃ u' l' g, fX0_reduce_74 (fX0_reduce_40 (nI n) T lk f) (nI n) T lk (nI i) (nI u) (nI (2 ^ a * 5 ^ b)) = some (nI u', nI l') ∧ u' * g = u ∧ l' * g = 2 ^ a * 5 ^ b ∧ Nat.gcd u' l' = 1 := by
  unfold fX0_reduce_74
  rw [n5, pk_rem hu (by decide) (by decide), nI_1]
  by_cases q : u % 5 = 0
  · rw [if_pos ((nz (by omega)).mpr q), pk_div hu (by decide) (by decide), pk_div hl (by decide) (by decide)]
    obtain rfl : b = d + 1 := by omega
    have el : 2 ^ a * 5 ^ (d + 1) = 5 * (2 ^ a * 5 ^ d) := by rw [Nat.pow_succ, ← Nat.mul_assoc, Nat.mul_comm]
    have el' : 2 ^ a * 5 ^ (d + 1) / 5 = 2 ^ a * 5 ^ d := by rw [el, Nat.mul_div_cancel_left _ (by decide)]
    obtain ⟨u', l', g, e, e1, e2, e3⟩ := ih (u / 5) a d (by omega) (by omega) ha (Nat.le_refl _) (by omega) (Or.inr rfl)
    rw [el']
    refine ⟨u', l', g * 5, e, ?_, ?_, e3⟩
    · rw [← Nat.mul_assoc, e1]; omega
    · rw [← Nat.mul_assoc, e2, el]; omega
  · rw [if_neg (fun z => q ((nz (by omega)).mp z))]
    exact ih u a b hu hl ha (by omega) h2 (Or.inl q)
theorem sp_red40 {n : Nat} (hn : n ≤ 6) {T : Int32} {lk : Nat → Int32} : ∀ (d f i u a b : Nat), i + d = n → d < f → u < 2 ^ 31 → 2 ^ a * 5 ^ b < 2 ^ 31 → d ≤ a → d ≤ b → (u % 2 = 1 ∨ a = d) → (¬ u % 5 = 0 ∨ b = d) → ∃ u' l' g, fX0_reduce_40 (nI n) T lk f (nI i) (nI u) (nI (2 ^ a * 5 ^ b)) = some (nI u', nI l') ∧ u' * g = u ∧ l' * g = 2 ^ a * 5 ^ b ∧ Nat.gcd u' l' = 1 := by
  intro d
  induction d with
  | zero =>
    intro f i u a b hi hf hu hl ha hb h2 h5
    obtain ⟨f, rfl⟩ : ∃ g, f = g + 1 := ⟨f - 1, by omega⟩
    refine ⟨u, 2 ^ a * 5 ^ b, 1, ?_, Nat.mul_one _, Nat.mul_one _, Nat.Coprime.mul_right (cop2 h2) (cop5 h5)⟩
    rw [fX0_reduce_40_s, if_pos (nI_le (by omega) (by omega))]
  | succ d ih =>
    intro f i u a b hi hf hu hl ha hb h2 h5
    obtain ⟨f, rfl⟩ : ∃ g, f = g + 1 := ⟨f - 1, by omega⟩
    have ih' := fun (u a b : Nat) => ih f (i + 1) u a b (by omega) (by omega)
    rw [fX0_reduce_40_s, if_neg (nI_ge (by omega) (by omega)), n2, pk_rem hu (by decide) (by decide)]
    by_cases q : u % 2 = 0
    · rw [if_pos ((nz (by omega)).mpr q), pk_div hu (by decide) (by decide), pk_div hl (by decide) (by decide)]
      obtain rfl : a = d + 1 := by omega
      have el : 2 ^ (d + 1) * 5 ^ b = 2 * (2 ^ d * 5 ^ b) := by rw [Nat.pow_succ, Nat.mul_comm (2 ^ d), Nat.mul_assoc]
      have el' : 2 ^ (d + 1) * 5 ^ b / 2 = 2 ^ d * 5 ^ b := by rw [el, Nat.mul_div_cancel_left _ (by decide)]
      obtain ⟨u', l', g, e, e1, e2, e3⟩ := sp_red74 ih' (u / 2) d b (by omega) (by omega) (Nat.le_refl _) (by omega) (Or.inr rfl) (by omega)
      rw [el']
      refine ⟨u', l', g * 2, e, ?_, ?_, e3⟩
      · rw [← Nat.mul_assoc, e1]; omega
      · rw [← Nat.mul_assoc, e2, el]; omega
    · rw [if_neg (fun z => q ((nz (by omega)).mp z))]
      exact sp_red74 ih' u a b hu hl (by omega) (by omega) (Or.inl (by omega)) h5
theorem ten (n : Nat) : 10 ^ n = 2 ^ n * 5 ^ n := by rw [← Nat.mul_pow]
theorem ten_le {n : Nat} (hn : n ≤ 6) : 1 ≤ 10 ^ n ∧ 10 ^ n ≤ 1000000 := by
  rcases (show n = 0 ∨ n = 1 ∨ n = 2 ∨ n = 3 ∨ n = 4 ∨ n = 5 ∨ n = 6 by omega) with rfl | rfl | rfl | rfl | rfl | rfl | rfl <;> decide
theorem sp_red16 {n : Nat} (hn : n ≤ 6) {T : Int32} {lk : Nat → Int32} {u : Nat} (hu : u < 2 ^ 31) : ∀ (d f i : Nat), i + d = n → d < f → ∃ u' l' g, fX0_reduce_16 (nI n) T lk f (nI i) (nI u) (nI (10 ^ i)) = some (nI u', nI l') ∧ u' * g = u ∧ l' * g = 10 ^ n ∧ Nat.gcd u' l' = 1 := by
  intro d
  induction d with
  | zero =>
    intro f i hi hf
    obtain ⟨f, rfl⟩ : ∃ g, f = g + 1 := ⟨f - 1, by omega⟩
    obtain rfl : i = n := by omega
    rw [fX0_reduce_16_s, if_pos (nI_le (Nat.le_refl _) (by omega)), ten i]
    exact sp_red40 hn i fuel 0 u i i (by omega) (fuel_gt (by omega)) hu (by rw [← ten]; have := ten_le hn; omega) (Nat.le_refl _) (Nat.le_refl _) (Or.inr rfl) (Or.inr rfl)
  | succ d ih =>
    intro f i hi hf
    obtain ⟨f, rfl⟩ : ∃ g, f = g + 1 := ⟨f - 1, by omega⟩
    rw [fX0_reduce_16_s, if_neg (nI_ge (by omega) (by omega)), n10, pk_mul, nI_1, ← Nat.pow_succ]
    exact ih f (i + 1) (by omega) (by omega)
theorem rf_whole4 {n : Nat} (hn : n ≤ 6) : ∀ (d f i : Nat), i + d = n → d < f → fX11_wholeOf_4 (nI n) f (nI (10 ^ i)) (nI i) = some (nI (10 ^ n)) := by
  intro d
  induction d with
  | zero =>
    intro f i hi hf
    obtain ⟨f, rfl⟩ : ∃ g, f = g + 1 := ⟨f - 1, by omega⟩
    obtain rfl : i = n := by omega
    rw [fX11_wholeOf_4_s, if_pos (nI_le (Nat.le_refl _) (by omega))]
  | succ d ih =>
    intro f i hi hf
    obtain ⟨f, rfl⟩ : ∃ g, f = g + 1 := ⟨f - 1, by omega⟩
    rw [fX11_wholeOf_4_s, if_neg (nI_ge (by omega) (by omega)), n10, pk_mul, nI_1, ← Nat.pow_succ]
    exact ih f (i + 1) (by omega) (by omega)
theorem rf_whole {n : Nat} (hn : n ≤ 6) : fX11_wholeOf (nI n) = some (nI (10 ^ n)) := rf_whole4 hn n fuel 0 (by omega) (fuel_gt (by omega))
theorem rf_gcd4 : ∀ (f a b : Nat), a < 2 ^ 31 → b < 2 ^ 31 → b < f → fX11_gcd_4 f (nI a) (nI b) = some (nI (Nat.gcd a b)) := by
  intro f
  induction f with
  | zero => intro a b ha hb hf; omega
  | succ f ih =>
    intro a b ha hb hf
    rw [fX11_gcd_4_s]
    by_cases q : b = 0
    · subst q
      rw [if_pos (show nI 0 = 0 from rfl), Nat.gcd_zero_right]
    · have hm : a % b < b := Nat.mod_lt a (by omega)
      rw [if_neg (fun z => q ((nz hb).mp z)), show dvI (nI b) _ = _ from if_neg (fun z => q ((nz hb).mp z)), pk_rem ha (by omega) hb, ih b (a % b) hb (by omega) (by omega), Nat.gcd_comm a b, Nat.gcd_rec b a, Nat.gcd_comm]
theorem fuel_big : 1000000 < fuel := by decide
/-- the reference's end: from the sum of the parts to its answer -/
theorem rf_chance_end {n : Nat} (hn : n ≤ 6) {up u' l' g : Nat} (e1 : u' * g = up) (e2 : l' * g = 10 ^ n) (e3 : Nat.gcd u' l' = 1) (hup : up < 2 ^ 31) (x w wh : Int32) (s : Nat → Int32) (f : Nat) : fX11_chance_41 x w wh (nI n) s (f + 1) (nI up) (nI (2 ^ n)) 0 = some (if wh = 0 then nI u' else nI l', 0) := by
  have hp := pw_le hn
  have ht := ten_le hn
  have hg : Nat.gcd up (10 ^ n) = g := by rw [← e1, ← e2, Nat.gcd_mul_right, e3, Nat.one_mul]
  have g0 : 0 < g := by
    rcases Nat.eq_zero_or_pos g with h | h
    · rw [h, Nat.mul_zero] at e2; omega
    · exact h
  have gle : g ≤ 10 ^ n := by
    rw [← hg]
    exact Nat.gcd_le_right _ (by omega)
  have ge0 : ¬ nI g = 0 := fun z => absurd ((nz (by omega)).mp z) (by omega)
  have hgc : fX11_gcd (nI up) (nI (10 ^ n)) = some (nI g) := by
    have h := rf_gcd4 fuel up (10 ^ n) hup (by omega) (Nat.lt_of_le_of_lt ht.2 fuel_big)
    rw [hg] at h
    exact h
  rw [fX11_chance_41_s, sets_n n hn, if_pos (nI_le (Nat.le_refl _) (by omega)), rf_whole hn, bds, hgc, bds, bds, pk_div hup g0 (by omega), pk_div (by omega) g0 (by omega)]
  have d1 : up / g = u' := by rw [← e1, Nat.mul_div_cancel _ g0]
  have d2 : 10 ^ n / g = l' := by rw [← e2, Nat.mul_div_cancel _ g0]
  rw [d1, d2]
  by_cases q : wh = 0
  · rw [if_pos q, if_pos q]
    exact if_neg ge0
  · rw [if_neg q, if_neg q]
    exact if_neg ge0
/-- the reference's sum -/
theorem rf_chance_loop {n M x need : Nat} (hn : n ≤ 6) (hx : x ≤ 10) (hnd : need ≤ 30) {s : Nat → Int32} {v : Nat → Nat} (h : s 30 = nI M) (h1 : 1 ≤ M) (h8 : M ≤ 8) (hv : ∀ j, j < 6 → v j ≤ 5 ∧ s (31 + (M - 1) * 9 + j) = nI (v j)) (hsv : ∀ m, m < 64 → sv v n m < 1000) (w wh : Int32) (hw : wants s M w = nI need) : ∀ (d f m : Nat), m + d = 2 ^ n → d < f → ∃ f', fX11_chance_41 (nI x) w wh (nI n) s f (nI (sumTo (fun m => ge need (sv v n m) * wt x n m) m)) (nI m) 0 = fX11_chance_41 (nI x) w wh (nI n) s (f' + 1) (nI (sumTo (fun m => ge need (sv v n m) * wt x n m) (2 ^ n))) (nI (2 ^ n)) 0 := by
  have hp := pw_le hn
  intro d
  induction d with
  | zero =>
    intro f m hm hf
    obtain ⟨f, rfl⟩ : ∃ g, f = g + 1 := ⟨f - 1, by omega⟩
    obtain rfl : m = 2 ^ n := by omega
    exact ⟨f, rfl⟩
  | succ d ih =>
    intro f m hm hf
    obtain ⟨f, rfl⟩ : ∃ g, f = g + 1 := ⟨f - 1, by omega⟩
    obtain ⟨f', e⟩ := ih f (m + 1) (by omega) (by omega)
    refine ⟨f', ?_⟩
    have hvs : vs s n M (nI m) = nI (sv v n m) := fV_sv (by omega) hn (fun j hj => (hv j hj).2) n 0 (by omega)
    have hs := hsv m (by omega)
    rw [← e, sumTo_s, fX11_chance_41_s, sets_n n hn, if_neg (nI_ge (by omega) (by omega)), rf_enoughNow hn h h1 h8, bds, hvs, hw, rf_part (by omega) hx hn, bds, nI_1, ixs]
    unfold ge
    by_cases q : need ≤ sv v n m
    · rw [if_neg (nI_nlt q (by omega)), if10, if_pos q, Nat.one_mul]
    · rw [if_pos (nI_lt (by omega) (by omega)), if00, if_neg q, Nat.zero_mul, Int32.add_zero]
      rfl
theorem vl_len (v : Nat → Nat) : ∀ k, (vl v k).length = k := by
  intro k
  induction k with
  | zero => rfl
  | succ k ih => exact congrArg (· + 1) ih
theorem vl_sum {v : Nat → Nat} {c : Nat} : ∀ k, (∀ j, j < k → v j ≤ c) → (vl v k).sum ≤ c * k := by
  intro k
  induction k with
  | zero => intro h; exact Nat.le_refl _
  | succ k ih =>
    intro h
    have h1 := ih (fun j hj => h j (by omega))
    have h2 := h k (by omega)
    show (v k :: vl v k).sum ≤ _
    rw [List.sum_cons, Nat.mul_succ]
    omega
theorem sv_le {v : Nat → Nat} {c : Nat} (m : Nat) : ∀ k, (∀ j, j < k → v j ≤ c) → sv v k m ≤ c * k := by
  intro k
  induction k with
  | zero => intro h; exact Nat.le_refl _
  | succ k ih =>
    intro h
    have h1 := ih (fun j hj => h j (by omega))
    have h2 := h k (by omega)
    rw [sv_s, Nat.mul_succ]
    by_cases q : tb m k = true
    · rw [if_pos q]; omega
    · rw [if_neg q]; omega
/-- the class's joins -/
theorem sp_chance_loop {n M x : Nat} (hn : n ≤ 6) (hx : x ≤ 10) {R s : Nat → Int32} {v : Nat → Nat} (hR : RowR n R s) (h : s 30 = nI M) (h1 : 1 ≤ M) (h8 : M ≤ 8) (hv : ∀ j, j < 6 → v j ≤ 5 ∧ s (31 + (M - 1) * 9 + j) = nI (v j)) (w wh up lo : Int32) : ∀ (d f i : Nat) (lk : Nat → Int32), i + d = n → d < f → (∀ j, j ≤ (vl v i).sum → lk j = nI (EH x (vl v i) (dl j))) → ∃ f' lk', fX10_chance_40 (nI x) w wh R f (nI i) (nI (vl v i).sum) up lo lk = fX10_chance_40 (nI x) w wh R (f' + 1) (nI n) (nI (vl v n).sum) up lo lk' ∧ ∀ j, j ≤ (vl v n).sum → lk' j = nI (EH x (vl v n) (dl j)) := by
  have h31 : R 31 = nI M := hR.2.2.1.trans h
  intro d
  induction d with
  | zero =>
    intro f i lk hi hf hk
    obtain ⟨f, rfl⟩ : ∃ g, f = g + 1 := ⟨f - 1, by omega⟩
    obtain rfl : i = n := by omega
    exact ⟨f, lk, rfl, hk⟩
  | succ d ih =>
    intro f i lk hi hf hk
    obtain ⟨f, rfl⟩ : ∃ g, f = g + 1 := ⟨f - 1, by omega⟩
    have hs := vl_sum (v := v) (c := 5) i (fun j hj => (hv j (by omega)).1)
    have hvi := (hv i (by omega)).1
    obtain ⟨lk', e, hk'⟩ := sp_join (a := v i) hx (show (vl v i).sum + v i ≤ 30 by omega) lk hk
    rw [fX10_chance_40_s, sp_copies, bds, hR.2.1, if_neg (nI_ge (by omega) (by omega)), sp_newestM h31 h1, bds, sp_votesOf (by omega) (by omega), bds, (hR.2.2.2 (M - 1) (by omega)).1 i (by omega), (hv i (by omega)).2, e, bd2_in rfl, nI_1]
    exact ih f (i + 1) lk' (by omega) (by omega) hk'
theorem sim_chance : Sim_chance RelV := by
  intro x w wh tl tA R pn ps P I K ss sw se vr ty t cp s um U kp iK sm sW sI ak ct cu cl ck th hR
  obtain ⟨n, hn, rfl, hT, hRo, hPa, hIm, hSe, rfl⟩ := hR
  have out : ∀ (lr a1 a2 a3 : Int32) (a4 : Nat → Int32), fX10_chance x w wh R ct cu cl ck = some (lr, a1, a2, a3, a4) → fX11_chance x w wh th (nI n) s = some (lr, 0) → ∃ (lr ox1 ox2 ox3 : Int32) (ox4 : Nat → Int32) (om_thrown : Int32), fX10_chance x w wh R ct cu cl ck = some (lr, ox1, ox2, ox3, ox4) ∧ fX11_chance x w wh th (nI n) s = some (lr, om_thrown) ∧ RelV tl tA R pn ps P I K ss sw se vr ty t (nI n) s um U kp iK sm sW sI vr :=
    fun lr a1 a2 a3 a4 h1 h2 => ⟨lr, a1, a2, a3, a4, 0, h1, h2, n, hn, rfl, hT, hRo, hPa, hIm, hSe, rfl⟩
  rcases iw x 0 10 with ⟨e, -⟩ | ⟨e, hx1, hx2⟩
  · refine out (-1) ct cu cl ck ?_ ?_
    · unfold fX10_chance; rw [e]; rfl
    · unfold fX11_chance; rw [iw_eq, e]; rfl
  rcases iw w 0 1 with ⟨e', -⟩ | ⟨e', -, -⟩
  · refine out (-1) ct cu cl ck ?_ ?_
    · unfold fX10_chance; rw [e, bds, if10, e']; rfl
    · unfold fX11_chance; rw [iw_eq, e, bds, if10, iw_eq, e']; rfl
  rcases iw wh 0 1 with ⟨e'', -⟩ | ⟨e'', -, -⟩
  · refine out (-1) ct cu cl ck ?_ ?_
    · unfold fX10_chance; rw [e, bds, if10, e', bds, if10, e'']; rfl
    · unfold fX11_chance; rw [iw_eq, e, bds, if10, iw_eq, e', bds, if10, iw_eq, e'']; rfl
  obtain ⟨x, -, hx, rfl⟩ := iw_nat (a := 0) (b := 10) (by decide) (by decide) hx1 hx2
  have hRo' := hRo
  obtain ⟨hRR, M, m1, m2, m3, m4, m5, m6⟩ := hRo'
  obtain ⟨v, hv, hv0, r, q, e6, e7, hr, hq, -⟩ := m6 (M - 1) (by omega)
  have h31 : R 31 = nI M := hRR.2.2.1.trans m3
  have ht := ten_le hn
  obtain ⟨need, hnd, hw⟩ : ∃ need, need ≤ 30 ∧ wants s M w = nI need := by
    unfold wants
    by_cases z : w = 0
    · rw [if_pos z]; exact ⟨r, hr, e6⟩
    · rw [if_neg z]; exact ⟨q, hq, e7⟩
  have hsum : (vl v n).sum ≤ 30 := Nat.le_trans (vl_sum (c := 5) n (fun j hj => (hv j (by omega)).1)) (by omega)
  have hup : EH x (vl v n) (ge need) < 2 ^ 31 := by
    have h := EH_ge_le hx (vl v n) need
    rw [vl_len] at h
    omega
  obtain ⟨u', l', g, er, e1, e2, e3⟩ := sp_red16 (T := nI (vl v n).sum) (lk := fun _ => 0) hn hup n fuel 0 (by omega) (fuel_gt (by omega))
  obtain ⟨f1, lk', ec, hk'⟩ := sp_chance_loop hn hx hRR m3 m1 m2 hv w wh cu cl n fuel 0 (upd ck 0 1) (by omega) (fuel_gt (by omega)) (fun j hj => by
    obtain rfl : j = 0 := Nat.le_zero.mp hj
    rw [pk_us]
    rfl)
  obtain ⟨u2, l2, g2, er2, e12, e22, e32⟩ := sp_red16 (T := nI (vl v n).sum) (lk := lk') hn hup n fuel 0 (by omega) (fuel_gt (by omega))
  obtain ⟨f2, em⟩ := rf_chance_loop (v := v) hn hx hnd m3 m1 m2 hv (fun m _ => Nat.lt_of_le_of_lt (sv_le (c := 5) m n (fun j hj => (hv j (by omega)).1)) (by omega)) w wh hw (2 ^ n) fuel 0 (by omega) (fuel_gt (by have := pw_le hn; omega))
  refine out (if wh = 0 then nI u2 else nI l2) (nI (vl v n).sum) (nI u2) (nI l2) lk' ?_ ?_
  · have hred : fX0_reduce (nI need) (nI n) (nI (vl v n).sum) cu cl lk' = some (nI u2, nI l2) := by
      unfold fX0_reduce
      rw [sp_atLeast hsum hk' (by omega), bds]
      exact er2
    have hbeg : fX0_begin ct ck = some (0, upd ck 0 1) := rfl
    unfold fX10_chance
    rw [e, bds, if10, e', bds, if10, e'', bds, if10, hbeg, bd2_in rfl]
    refine Eq.trans ec ?_
    rw [fX10_chance_40_s, sp_copies, bds, hRR.2.1, if_pos (nI_le (Nat.le_refl _) (by omega)), sp_newestM h31 m1, bds, sp_wants hRR m1 m2, bds, bds, hw, hred, bd2_in rfl]
    by_cases z : wh = 0
    · rw [if_pos z, if_pos z]
    · rw [if_neg z, if_neg z]
  · unfold fX11_chance
    rw [iw_eq, e, bds, if10, iw_eq, e', bds, if10, iw_eq, e'', bds, if10]
    refine Eq.trans em ?_
    rw [enum x v n hn (ge need)]
    exact rf_chance_end hn e12 e22 e32 hup _ w wh s f2
