/-! PURE. best, second half -/
theorem orb {i m : Nat} (hi : i < 6) (hm : m < 2 ^ i) : nI m ||| ((1 : Int32) <<< (nI i &&& 31)) = nI (2 ^ i + m) := (by decide +kernel : ∀ i, i < 6 → ∀ m, m < 2 ^ i → nI m ||| ((1 : Int32) <<< (nI i &&& 31)) = nI (2 ^ i + m)) i hi m hm
theorem pw_s {i : Nat} (hi : i < 6) : 2 ^ (i + 1) = 2 ^ i + 2 ^ i ∧ 2 ^ i ≤ 32 := (by decide +kernel : ∀ i, i < 6 → 2 ^ (i + 1) = 2 ^ i + 2 ^ i ∧ 2 ^ i ≤ 32) i hi
theorem sv_low {v : Nat → Nat} {i m : Nat} (hi : i < 6) (hm : m < 2 ^ i) : sv v (i + 1) m = sv v i m := by rw [sv_s, (tb_split hi hm).1, if_neg (by decide), Nat.add_zero]
theorem sv_high {v : Nat → Nat} {i m : Nat} (hi : i < 6) (hm : m < 2 ^ i) : sv v (i + 1) (2 ^ i + m) = sv v i m + v i := by
  have h := tb_split hi hm
  rw [sv_s, h.2.1, if_pos rfl, sv_congr i h.2.2]
/-- the heaps of one more copy -/
theorem rf_sums40 {k n i : Nat} (hk : k < 4096) (hi : i < 6) (jk : Int32 → (Nat → Int32) → (Nat → Int32) → Option (Int32 × (Nat → Int32) × (Nat → Int32))) (parts sums : Nat → Int32) : ∀ (d f m : Nat) (hp : Nat → Int32), m + d = 2 ^ i → d < f → (∀ j, j < 2 ^ i → hp j = nI (sv (vc k) i j)) → (∀ j, j < m → hp (2 ^ i + j) = nI (sv (vc k) i j + vc k i)) → ∃ hp', fX11_sumsBy_40 jk (nI k) (nI i) (nI n) parts f (nI m) sums hp = jk (nI (i + 1)) sums hp' ∧ ∀ j, j < 2 ^ (i + 1) → hp' j = nI (sv (vc k) (i + 1) j) := by
  have hp2 := pw_s hi
  intro d
  induction d with
  | zero =>
    intro f m hp hm hf h1 h2
    obtain ⟨f, rfl⟩ : ∃ g, f = g + 1 := ⟨f - 1, by omega⟩
    refine ⟨hp, ?_, fun j hj => ?_⟩
    · rw [fX11_sumsBy_40_s, sets_n i (by omega), if_pos (nI_le (by omega) (by omega)), nI_1]
    · by_cases q : j < 2 ^ i
      · rw [sv_low hi q, h1 j q]
      · have e := h2 (j - 2 ^ i) (by omega)
        have e' := sv_high (v := vc k) (m := j - 2 ^ i) hi (by omega)
        rw [show 2 ^ i + (j - 2 ^ i) = j by omega] at e e'
        rw [e, e']
  | succ d ih =>
    intro f m hp hm hf h1 h2
    obtain ⟨f, rfl⟩ : ∃ g, f = g + 1 := ⟨f - 1, by omega⟩
    rw [fX11_sumsBy_40_s, orb hi (by omega), sets_n i (by omega), if_neg (nI_ge (by omega) (by omega)), ckN (by omega) (by decide), ckN (by omega) (by decide), nI_clamp (by omega), nI_clamp (by omega), nI_1, vin hk hi, h1 m (by omega), ixs]
    refine ih f (m + 1) _ (by omega) (by omega) (fun j hj => ?_) (fun j hj => ?_)
    · rw [pk_un (by omega)]
      exact h1 j hj
    · by_cases q : j = m
      · subst q; rw [pk_us]
      · rw [pk_un (by omega)]
        exact h2 j (by omega)
theorem rf_sums30 {k n : Nat} (hk : k < 4096) (hn : n ≤ 6) (parts sums : Nat → Int32) : ∀ (d f i : Nat) (hp : Nat → Int32), i + d = n → d < f → (∀ j, j < 2 ^ i → hp j = nI (sv (vc k) i j)) → ∃ hp', fX11_sumsBy_30 (nI k) (nI n) parts f (nI i) sums hp = fX11_sumsBy_85 (nI n) parts fuel 0 sums hp' ∧ ∀ j, j < 2 ^ n → hp' j = nI (sv (vc k) n j) := by
  intro d
  induction d with
  | zero =>
    intro f i hp hi hf h1
    obtain ⟨f, rfl⟩ : ∃ g, f = g + 1 := ⟨f - 1, by omega⟩
    obtain rfl : i = n := by omega
    refine ⟨hp, ?_, h1⟩
    rw [fX11_sumsBy_30_s, if_pos (nI_le (Nat.le_refl _) (by omega))]
  | succ d ih =>
    intro f i hp hi hf h1
    obtain ⟨f, rfl⟩ : ∃ g, f = g + 1 := ⟨f - 1, by omega⟩
    have hp2 := pw_s (i := i) (by omega)
    obtain ⟨hp1, e, h2⟩ := rf_sums40 (n := n) hk (show i < 6 by omega) (fX11_sumsBy_30 (nI k) (nI n) parts f) parts sums (2 ^ i) fuel 0 hp (by omega) (fuel_gt (by omega)) h1 (fun j hj => absurd hj (by omega))
    rw [fX11_sumsBy_30_s, if_neg (nI_ge (by omega) (by omega)), show fX11_sumsBy_40 _ (nI k) (nI i) (nI n) parts fuel 0 sums hp = _ from e]
    exact ih f (i + 1) hp1 (by omega) (by omega) h2
/-- every set's part, to its heap -/
theorem rf_sums85 {k n x : Nat} (hn : n ≤ 6) {parts hp : Nat → Int32} (hpa : ∀ j, j < 2 ^ n → parts j = nI (wt x n j)) (hhp : ∀ j, j < 2 ^ n → hp j = nI (sv (vc k) n j)) : ∀ (d f m : Nat) (sums : Nat → Int32), m + d = 2 ^ n → d < f → (∀ t, t < 20 → sums t = nI (sumTo (fun m => dl t (sv (vc k) n m) * wt x n m) m)) → ∃ sums', fX11_sumsBy_85 (nI n) parts f (nI m) sums hp = fX11_sumsBy_124 (nI n) parts fuel 18 sums' hp ∧ ∀ t, t < 20 → sums' t = nI (EH x (vl (vc k) n) (dl t)) := by
  have hp2 := pw_le hn
  intro d
  induction d with
  | zero =>
    intro f m sums hm hf h1
    obtain ⟨f, rfl⟩ : ∃ g, f = g + 1 := ⟨f - 1, by omega⟩
    obtain rfl : m = 2 ^ n := by omega
    refine ⟨sums, ?_, fun t ht => ?_⟩
    · rw [fX11_sumsBy_85_s, sets_n n hn, if_pos (nI_le (Nat.le_refl _) (by omega))]
    · rw [h1 t ht, enum x (vc k) n hn (dl t)]
  | succ d ih =>
    intro f m sums hm hf h1
    obtain ⟨f, rfl⟩ : ∃ g, f = g + 1 := ⟨f - 1, by omega⟩
    have hsv : sv (vc k) n m ≤ 18 := Nat.le_trans (sv_le (c := 3) m n (fun j _ => vc_lt k j)) (by omega)
    rw [fX11_sumsBy_85_s, sets_n n hn, if_neg (nI_ge (by omega) (by omega)), ckN (by omega) (by decide), nI_clamp (show m < 2 ^ 31 by omega), hhp m (by omega), ckN (by omega) (by decide), ckN (by omega) (by decide), ckN (by omega) (by decide), nI_clamp (by omega), nI_1, hpa m (by omega), h1 _ (by omega), ixs]
    refine ih f (m + 1) _ (by omega) (by omega) (fun t ht => ?_)
    rw [sumTo_s]
    by_cases q : t = sv (vc k) n m
    · rw [q, pk_us]
      unfold dl
      rw [if_pos (show sv (vc k) n m = sv (vc k) n m from rfl), Nat.one_mul]
    · rw [pk_un q, h1 t ht]
      have z : dl t (sv (vc k) n m) = 0 := if_neg (fun e => q e.symm)
      rw [z, Nat.zero_mul, Nat.add_zero]
theorem sv_full {v : Nat → Nat} {n : Nat} (hn : n ≤ 6) : sv v n (2 ^ n - 1) = (vl v n).sum := by
  have hb : ∀ j, j < n → tb (2 ^ n - 1) j = true := (by decide +kernel : ∀ n, n < 7 → ∀ j, j < n → tb (2 ^ n - 1) j = true) n (by omega)
  have go : ∀ k, k ≤ n → sv v k (2 ^ n - 1) = (vl v k).sum := by
    intro k
    induction k with
    | zero => intro _; rfl
    | succ k ih =>
      intro hk
      rw [sv_s, hb k (by omega), if_pos rfl, ih (by omega), vl_s, List.sum_cons, Nat.add_comm]
  exact go n (Nat.le_refl _)
/-- from exactly to at least -/
theorem rf_sums124 {k n x : Nat} (hn : n ≤ 6) {parts hp : Nat → Int32} (hhp : ∀ j, j < 2 ^ n → hp j = nI (sv (vc k) n j)) : ∀ (t f : Nat) (sums : Nat → Int32), t ≤ 19 → t < f → (∀ j, j < t → sums j = nI (EH x (vl (vc k) n) (dl j))) → (∀ j, t ≤ j → j < 20 → sums j = nI (EH x (vl (vc k) n) (ge j))) → ∃ sums', fX11_sumsBy_124 (nI n) parts f (nI t - 1) sums hp = some (nI (vl (vc k) n).sum, sums', hp) ∧ ∀ j, j < 20 → sums' j = nI (EH x (vl (vc k) n) (ge j)) := by
  have hp2 := pw_le hn
  intro t
  induction t with
  | zero =>
    intro f sums ht hf h1 h2
    obtain ⟨f, rfl⟩ : ∃ g, f = g + 1 := ⟨f - 1, by omega⟩
    refine ⟨sums, ?_, fun j hj => h2 j (by omega) hj⟩
    rw [fX11_sumsBy_124_s, if_pos (by decide), sets_n n hn, nsub1 hp2.1, ckN (by omega) (by decide), nI_clamp (by omega), hhp _ (by omega), sv_full hn]
  | succ t ih =>
    intro f sums ht hf h1 h2
    obtain ⟨f, rfl⟩ : ∃ g, f = g + 1 := ⟨f - 1, by omega⟩
    rw [fX11_sumsBy_124_s, nI_pred, if_neg (nI_pos (by omega)), nI_1, ckN (by omega) (by decide), ckN (by omega) (by decide), ckN (by omega) (by decide), nI_clamp (by omega), nI_clamp (by omega), m1e, h1 t (by omega), h2 (t + 1) (by omega) (by omega), ixs]
    refine ih f _ (by omega) (by omega) (fun j hj => ?_) (fun j h3 h4 => ?_)
    · rw [pk_un (by omega)]
      exact h1 j (by omega)
    · by_cases q : j = t
      · subst q; rw [pk_us, EH_ge_s (i := j)]
      · rw [pk_un q]
        exact h2 j (by omega) h4
theorem rf_sums2 {k n : Nat} (parts : Nat → Int32) (heaps : Nat → Int32) : ∀ (d f i : Nat) (sums : Nat → Int32), i + d = 20 → d < f → (∀ j, j < i → sums j = 0) → ∃ sums', fX11_sumsBy_2 (nI k) (nI n) parts f (nI i) sums heaps = fX11_sumsBy_30 (nI k) (nI n) parts fuel 0 sums' (upd heaps 0 0) ∧ ∀ j, j < 20 → sums' j = 0 := by
  intro d
  induction d with
  | zero =>
    intro f i sums hi hf h1
    obtain ⟨f, rfl⟩ : ∃ g, f = g + 1 := ⟨f - 1, by omega⟩
    refine ⟨sums, ?_, fun j hj => h1 j (by omega)⟩
    rw [fX11_sumsBy_2_s, n20, if_pos (nI_le (by omega) (by omega)), show Int32.toNatClampNeg (0 : Int32) = 0 from rfl]
    exact ckN (k := 0) (n := 64) (by decide) (by decide)
  | succ d ih =>
    intro f i sums hi hf h1
    obtain ⟨f, rfl⟩ : ∃ g, f = g + 1 := ⟨f - 1, by omega⟩
    rw [fX11_sumsBy_2_s, n20, if_neg (nI_ge (by omega) (by omega)), ckN (by omega) (by decide), nI_clamp (by omega), nI_1]
    refine ih f (i + 1) _ (by omega) (by omega) (fun j hj => ?_)
    by_cases q : j = i
    · subst q; rw [pk_us]
    · rw [pk_un q]; exact h1 j (by omega)
theorem rf_sumsBy {k n x : Nat} (hk : k < 4096) (hn : n ≤ 6) {parts : Nat → Int32} (hpa : ∀ j, j < 2 ^ n → parts j = nI (wt x n j)) (sums heaps : Nat → Int32) : ∃ sums' heaps', fX11_sumsBy (nI k) (nI n) sums parts heaps = some (nI (vl (vc k) n).sum, sums', heaps') ∧ ∀ j, j < 20 → sums' j = nI (EH x (vl (vc k) n) (ge j)) := by
  have hp2 := pw_le hn
  have hs := vc_sum k hn
  obtain ⟨s1, e1, z1⟩ := rf_sums2 (k := k) (n := n) parts heaps 20 fuel 0 sums (by omega) (fuel_gt (by omega)) (fun j hj => absurd hj (by omega))
  obtain ⟨h2, e2, z2⟩ := rf_sums30 hk hn parts s1 n fuel 0 (upd heaps 0 0) (by omega) (fuel_gt (by omega)) (fun j hj => by
    obtain rfl : j = 0 := by
      rw [Nat.pow_zero] at hj
      omega
    rw [pk_us]
    rfl)
  obtain ⟨s3, e3, z3⟩ := rf_sums85 (k := k) (x := x) hn hpa z2 (2 ^ n) fuel 0 s1 (by omega) (fuel_gt (by omega)) (fun t ht => z1 t ht)
  obtain ⟨s4, e4, z4⟩ := rf_sums124 (k := k) (x := x) (parts := parts) hn z2 19 fuel s3 (by omega) (fuel_gt (by omega)) (fun j hj => z3 j (by omega)) (fun j h3 h4 => by
    obtain rfl : j = 19 := by omega
    rw [z3 19 (by omega), EH_dl_big (by omega), EH_ge_big (by omega)])
  refine ⟨s4, h2, ?_, z4⟩
  exact (e1.trans e2).trans (e3.trans e4)
/-- the class's joins for a code -/
theorem sp_run35 {k n x a : Nat} (hk : k < 4096) (hn : n ≤ 6) (hx : x ≤ 10) (ha : a ≤ 10) (jk : Int32 → Int32 → Int32 → Int32 → Int32 → (Nat → Int32) → Option (Int32 × Int32 × Int32 × Int32 × (Nat → Int32))) (mu vo wr : Int32) : ∀ (d f i : Nat) (lk : Nat → Int32), i + d = n → d < f → (∀ j, j ≤ (vl (vc k) i).sum → lk j = nI (EH x (vl (vc k) i) (dl j))) → ∃ lk', fX5_run_35 jk (nI n) (nI x) (nI a) (nI k) f (nI i) mu vo wr (nI (vl (vc k) i).sum) lk = jk (nI (k + 1)) (twf (Aw x a n k) (nI k) ((vl (vc k) n).sum - (vl (vc k) n).sum / 2) ((vl (vc k) n).sum / 2 + 1) (mu, vo, wr)).1 (twf (Aw x a n k) (nI k) ((vl (vc k) n).sum - (vl (vc k) n).sum / 2) ((vl (vc k) n).sum / 2 + 1) (mu, vo, wr)).2.1 (twf (Aw x a n k) (nI k) ((vl (vc k) n).sum - (vl (vc k) n).sum / 2) ((vl (vc k) n).sum / 2 + 1) (mu, vo, wr)).2.2 (nI (vl (vc k) n).sum) lk' := by
  have hs := vc_sum k hn
  intro d
  induction d with
  | zero =>
    intro f i lk hi hf hl
    obtain ⟨f, rfl⟩ : ∃ g, f = g + 1 := ⟨f - 1, by omega⟩
    obtain rfl : i = n := by omega
    refine ⟨lk, ?_⟩
    have e : fX5_tryWrites (nI k) (nI a) mu vo wr (nI (vl (vc k) i).sum) lk = some (twf (Aw x a i k) (nI k) ((vl (vc k) i).sum - (vl (vc k) i).sum / 2) ((vl (vc k) i).sum / 2 + 1) (mu, vo, wr)) := by
      unfold fX5_tryWrites
      rw [n2, pk_div (by omega) (by decide) (by decide), nI_1]
      exact sp_try10 ha hn hl _ fuel _ mu vo wr (by omega) (fuel_gt (by omega))
    rw [fX5_run_35_s, if_pos (nI_le (Nat.le_refl _) (by omega)), e, bd3_in rfl, nI_1]
  | succ d ih =>
    intro f i lk hi hf hl
    obtain ⟨f, rfl⟩ : ∃ g, f = g + 1 := ⟨f - 1, by omega⟩
    have hsi := vl_sum (v := vc k) (c := 3) i (fun j _ => vc_lt k j)
    have hvi := vc_lt k i
    obtain ⟨lk', e, hl'⟩ := sp_join (a := vc k i) hx (show (vl (vc k) i).sum + vc k i ≤ 30 by omega) lk hl
    rw [fX5_run_35_s, if_neg (nI_ge (by omega) (by omega)), sp_vin hk (by omega), bds, e, bd2_in rfl, nI_1]
    exact ih f (i + 1) lk' (by omega) (by omega) hl'
theorem codes_n : ∀ n, n ≤ 6 → (1 : Int32) <<< ((2 * nI n) &&& 31) = nI (4 ^ n) ∧ 4 ^ n ≤ 4096 := by
  intro n hn
  exact (by decide +kernel : ∀ n, n < 7 → (1 : Int32) <<< ((2 * nI n) &&& 31) = nI (4 ^ n) ∧ 4 ^ n ≤ 4096) n (by omega)
theorem first_code {x a n : Nat} (h0 : 1 ≤ n) (hn : n ≤ 6) (hx : x ≤ 10) (ha : a ≤ 10) (vo wr vo' wr' : Int32) : twf (Aw x a n 1) (nI 1) ((vl (vc 1) n).sum - (vl (vc 1) n).sum / 2) ((vl (vc 1) n).sum / 2 + 1) (-9, vo, wr) = twf (Aw x a n 1) (nI 1) ((vl (vc 1) n).sum - (vl (vc 1) n).sum / 2) ((vl (vc 1) n).sum / 2 + 1) (-9, vo', wr') := by
  have hs : (vl (vc 1) n).sum = 1 := (by decide +kernel : ∀ n, n < 7 → 1 ≤ n → (vl (vc 1) n).sum = 1) n (by omega) h0
  have hA : ¬ Aw x a n 1 1 ≤ -9 := by
    have hb : ∀ j, EH x (vl (vc 1) n) (ge j) ≤ 1000000 := fun j => by
      have h := EH_ge_le hx (vl (vc 1) n) j
      rw [vl_len] at h
      exact Nat.le_trans h (ten_le hn).2
    have h1 : a * EH x (vl (vc 1) n) (ge ((vl (vc 1) n).sum + 1 - 1)) ≤ 10 * 1000000 := Nat.mul_le_mul ha (hb _)
    have h2 : (10 - a) * EH x (vl (vc 1) n) (ge 1) ≤ 10 * 1000000 := Nat.mul_le_mul (by omega) (hb _)
    intro h
    have h3 : (0 : Int32) ≤ Aw x a n 1 1 := nI_pos' (by omega)
    exact absurd (Int32.le_trans h3 h) (by decide)
  rw [hs]
  show twf _ _ 1 1 _ = twf _ _ 1 1 _
  rw [twf_s, twf_s, if_neg hA, if_neg hA]
/-- code by code -/
theorem best_loop {x a n : Nat} (h0 : 1 ≤ n) (hn : n ≤ 6) (hx : x ≤ 10) (ha : a ≤ 10) (wh : Int32) {parts : Nat → Int32} (hpa : ∀ j, j < 2 ^ n → parts j = nI (wt x n j)) : ∀ (d f f' k : Nat) (mu vo wr vo' wr' tot : Int32) (lk sums heaps : Nat → Int32), k + d = 4 ^ n → 1 ≤ k → d < f → d < f' → ((vo = vo' ∧ wr = wr') ∨ (k = 1 ∧ mu = -9 ∧ d ≠ 0)) → (∀ j, 1 ≤ j → j < k → ∀ w, (vl (vc j) n).sum / 2 + 1 ≤ w → w < (vl (vc j) n).sum + 1 → Aw x a n j w ≤ mu) → ∃ (mu1 vo1 wr1 tot1 : Int32) (lk1 sums1 heaps1 : Nat → Int32), fX5_run_9 (nI n) (nI x) (nI a) f (nI k) mu vo wr tot lk = some (mu1, vo1, wr1, tot1, lk1) ∧ fX11_best_85 (nI a) wh (nI n) f' mu vo' wr' (nI k) 0 sums parts heaps = some (if wh = 0 then mu1 else if wh = 1 then vo1 else wr1, 0, sums1, parts, heaps1) := by
  have hc := codes_n n hn
  intro d
  induction d with
  | zero =>
    intro f f' k mu vo wr vo' wr' tot lk sums heaps hk h1 hf hf' hvw hmu
    obtain ⟨f, rfl⟩ : ∃ g, f = g + 1 := ⟨f - 1, by omega⟩
    obtain ⟨f', rfl⟩ : ∃ g, f' = g + 1 := ⟨f' - 1, by omega⟩
    obtain ⟨rfl, rfl⟩ : vo = vo' ∧ wr = wr' := by
      rcases hvw with h | h
      · exact h
      · exact absurd rfl h.2.2
    refine ⟨mu, vo, wr, tot, lk, sums, heaps, ?_, ?_⟩
    · rw [fX5_run_9_s, hc.1, if_pos (nI_le (by omega) (by omega))]
    · rw [fX11_best_85_s, hc.1, if_pos (nI_le (by omega) (by omega))]
      by_cases q : wh = 0
      · rw [if_pos q, if_pos q]
      · rw [if_neg q, if_neg q]
        by_cases q : wh = 1
        · rw [if_pos q, if_pos q]
        · rw [if_neg q, if_neg q]
  | succ d ih =>
    intro f f' k mu vo wr vo' wr' tot lk sums heaps hk h1 hf hf' hvw hmu
    obtain ⟨f, rfl⟩ : ∃ g, f = g + 1 := ⟨f - 1, by omega⟩
    obtain ⟨f', rfl⟩ : ∃ g, f' = g + 1 := ⟨f' - 1, by omega⟩
    have hk4 : k < 4096 := by omega
    have hs := vc_sum k hn
    obtain ⟨sums', heaps', es, hsu⟩ := rf_sumsBy (x := x) hk4 hn hpa sums heaps
    have eR : fX11_best_85 (nI a) wh (nI n) (f' + 1) mu vo' wr' (nI k) 0 sums parts heaps = fX11_best_85 (nI a) wh (nI n) f' (twf (Aw x a n k) (nI k) ((vl (vc k) n).sum - (vl (vc k) n).sum / 2) ((vl (vc k) n).sum / 2 + 1) (mu, vo', wr')).1 (twf (Aw x a n k) (nI k) ((vl (vc k) n).sum - (vl (vc k) n).sum / 2) ((vl (vc k) n).sum / 2 + 1) (mu, vo', wr')).2.1 (twf (Aw x a n k) (nI k) ((vl (vc k) n).sum - (vl (vc k) n).sum / 2) ((vl (vc k) n).sum / 2 + 1) (mu, vo', wr')).2.2 (nI (k + 1)) 0 sums' parts heaps' := by
      rw [fX11_best_85_s, hc.1, if_neg (nI_ge (by omega) (by omega)), es, bd3_in rfl, n2, pk_div (by omega) (by decide) (by decide), nI_1]
      exact rf_try ha hn hsu (fX11_best_85 (nI a) wh (nI n) f') wh parts heaps' _ fuel _ (mu, vo', wr') (by omega) (by omega) (fuel_gt (by omega))
    rw [eR, fX5_run_9_s, hc.1, if_neg (nI_ge (by omega) (by omega))]
    have grow : ∀ (st : Int32 × Int32 × Int32), st.1 = mu → ∀ j, 1 ≤ j → j < k + 1 → ∀ w, (vl (vc j) n).sum / 2 + 1 ≤ w → w < (vl (vc j) n).sum + 1 → Aw x a n j w ≤ (twf (Aw x a n k) (nI k) ((vl (vc k) n).sum - (vl (vc k) n).sum / 2) ((vl (vc k) n).sum / 2 + 1) st).1 := by
      intro st hst j hj1 hj2 w hw1 hw2
      have h := twf_ge (A := Aw x a n k) (c := nI k) ((vl (vc k) n).sum - (vl (vc k) n).sum / 2) ((vl (vc k) n).sum / 2 + 1) st
      by_cases q : j = k
      · subst q
        exact h.2 w hw1 (by omega)
      · refine Int32.le_trans (hmu j hj1 (by omega) w hw1 hw2) ?_
        rw [← hst]
        exact h.1
    rcases sp_fall hn h0 hk4 with ef | ⟨ef, i, hi, hlt⟩
    · obtain ⟨lk', er⟩ := sp_run35 hk4 hn hx ha (fX5_run_9 (nI n) (nI x) (nI a) f) mu vo wr n fuel 0 (upd lk 0 1) (by omega) (fuel_gt (by omega)) (fun j hj => by
        obtain rfl : j = 0 := Nat.le_zero.mp hj
        rw [pk_us]
        rfl)
      rw [ef, bds, if10, show fX0_begin tot lk = some (0, upd lk 0 1) from rfl, bd2_in rfl, show fX5_run_35 _ (nI n) (nI x) (nI a) (nI k) fuel 0 mu vo wr 0 (upd lk 0 1) = _ from er]
      have same : twf (Aw x a n k) (nI k) ((vl (vc k) n).sum - (vl (vc k) n).sum / 2) ((vl (vc k) n).sum / 2 + 1) (mu, vo', wr') = twf (Aw x a n k) (nI k) ((vl (vc k) n).sum - (vl (vc k) n).sum / 2) ((vl (vc k) n).sum / 2 + 1) (mu, vo, wr) := by
        rcases hvw with ⟨rfl, rfl⟩ | ⟨rfl, rfl, -⟩
        · rfl
        · exact first_code h0 hn hx ha vo' wr' vo wr
      rw [same]
      exact ih f f' (k + 1) _ _ _ _ _ _ lk' sums' heaps' (by omega) (by omega) (by omega) (by omega) (Or.inl ⟨rfl, rfl⟩) (grow (mu, vo, wr) rfl)
    · have hsw := sw2_ok hk4 (show i < 5 by omega) hlt
      have hE := sw2_EH (x := x) hn hk4 hi hlt
      have hAw : ∀ w, Aw x a n (sw2 k i) w = Aw x a n k w := fun w => by
        unfold Aw
        rw [hE.1, hE.1, hE.2]
      have hid : twf (Aw x a n k) (nI k) ((vl (vc k) n).sum - (vl (vc k) n).sum / 2) ((vl (vc k) n).sum / 2 + 1) (mu, vo', wr') = (mu, vo', wr') := by
        refine twf_id _ _ _ (fun w hw1 hw2 => ?_)
        rw [← hAw w]
        refine hmu (sw2 k i) hsw.2.1 hsw.1 w ?_ ?_
        · rw [hE.2]; exact hw1
        · rw [hE.2]; omega
      have hg := grow (mu, vo', wr') rfl
      rw [hid] at hg
      rw [hid, ef, bds, if00, nI_1]
      refine ih f f' (k + 1) mu vo wr vo' wr' tot lk sums' heaps' (by omega) (by omega) (by omega) (by omega) ?_ hg
      rcases hvw with h | ⟨rfl, -, -⟩
      · exact Or.inl h
      · have := hsw.2.1
        have := hsw.1
        omega
theorem rf_parts {x n : Nat} (hn : n ≤ 6) (hx : x ≤ 10) (a wh b1 b2 b3 : Int32) (sums heaps : Nat → Int32) : ∀ (d f m : Nat) (parts : Nat → Int32), m + d = 2 ^ n → d < f → (∀ j, j < m → parts j = nI (wt x n j)) → ∃ parts', fX11_best_51 (nI x) a wh b1 b2 b3 (nI n) f (nI m) 0 sums parts heaps = fX11_best_85 a wh (nI n) fuel b1 b2 b3 1 0 sums parts' heaps ∧ ∀ j, j < 2 ^ n → parts' j = nI (wt x n j) := by
  have hp2 := pw_le hn
  intro d
  induction d with
  | zero =>
    intro f m parts hm hf h1
    obtain ⟨f, rfl⟩ : ∃ g, f = g + 1 := ⟨f - 1, by omega⟩
    refine ⟨parts, ?_, fun j hj => h1 j (by omega)⟩
    rw [fX11_best_51_s, sets_n n hn, if_pos (nI_le (by omega) (by omega))]
  | succ d ih =>
    intro f m parts hm hf h1
    obtain ⟨f, rfl⟩ : ∃ g, f = g + 1 := ⟨f - 1, by omega⟩
    rw [fX11_best_51_s, sets_n n hn, if_neg (nI_ge (by omega) (by omega)), rf_part (by omega) hx hn, bds, ckN (by omega) (by decide), nI_clamp (by omega), nI_1]
    refine ih f (m + 1) _ (by omega) (by omega) (fun j hj => ?_)
    by_cases q : j = m
    · subst q; rw [pk_us]
    · rw [pk_un q]; exact h1 j (by omega)
theorem sim_best : Sim_best RelV := by
  intro x a wh tl tA R pn ps P I K ss sw se vr ty t cp s um U kp iK sm sW sI ak ct ck sm0 sv0 sw0 th su pa he hR
  obtain ⟨n, hn, rfl, hT, hRo, hPa, hIm, hSe, rfl⟩ := hR
  have out : ∀ (lr a1 : Int32) (a2 : Nat → Int32) (a3 a4 a5 : Int32) (b1 b2 b3 : Nat → Int32), fX10_best x a wh R ct ck sm0 sv0 sw0 = some (lr, a1, a2, a3, a4, a5) → fX11_best x a wh th (nI n) su pa he = some (lr, 0, b1, b2, b3) → ∃ (lr ox1 : Int32) (ox2 : Nat → Int32) (ox3 ox4 ox5 om_thrown : Int32) (o1 o2 o3 : Nat → Int32), fX10_best x a wh R ct ck sm0 sv0 sw0 = some (lr, ox1, ox2, ox3, ox4, ox5) ∧ fX11_best x a wh th (nI n) su pa he = some (lr, om_thrown, o1, o2, o3) ∧ RelV tl tA R pn ps P I K ss sw se vr ty t (nI n) s um U kp iK sm sW sI vr :=
    fun lr a1 a2 a3 a4 a5 b1 b2 b3 h1 h2 => ⟨lr, a1, a2, a3, a4, a5, 0, b1, b2, b3, h1, h2, n, hn, rfl, hT, hRo, hPa, hIm, hSe, rfl⟩
  rcases iw x 0 10 with ⟨e, -⟩ | ⟨e, hx1, hx2⟩
  · refine out (-1) ct ck sm0 sv0 sw0 su pa he ?_ ?_
    · unfold fX10_best; rw [e]; rfl
    · unfold fX11_best; rw [iw_eq, e]; rfl
  rcases iw a 0 10 with ⟨e', -⟩ | ⟨e', ha1, ha2⟩
  · refine out (-1) ct ck sm0 sv0 sw0 su pa he ?_ ?_
    · unfold fX10_best; rw [e, bds, if10, e']; rfl
    · unfold fX11_best; rw [iw_eq, e, bds, if10, iw_eq, e']; rfl
  rcases iw wh 0 2 with ⟨e'', -⟩ | ⟨e'', -, -⟩
  · refine out (-1) ct ck sm0 sv0 sw0 su pa he ?_ ?_
    · unfold fX10_best; rw [e, bds, if10, e', bds, if10, e'']; rfl
    · unfold fX11_best; rw [iw_eq, e, bds, if10, iw_eq, e', bds, if10, iw_eq, e'']; rfl
  obtain ⟨x, -, hx, rfl⟩ := iw_nat (a := 0) (b := 10) (by decide) (by decide) hx1 hx2
  obtain ⟨a, -, ha, rfl⟩ := iw_nat (a := 0) (b := 10) (by decide) (by decide) ha1 ha2
  have hp2 := pw_le hn
  have hc := codes_n n hn
  obtain ⟨parts, em, hpa⟩ := rf_parts hn hx (nI a) wh (-9) (-9) (-9) su he (2 ^ n) fuel 0 pa (by omega) (fuel_gt (by omega)) (fun j hj => absurd hj (by omega))
  have eM : fX11_best (nI x) (nI a) wh th (nI n) su pa he = fX11_best_85 (nI a) wh (nI n) fuel (-9) (-9) (-9) 1 0 su parts he := by
    unfold fX11_best
    rw [iw_eq, e, bds, if10, iw_eq, e', bds, if10, iw_eq, e'', bds, if10]
    exact em
  have h30 : R 30 = nI n := hRo.1.2.1
  by_cases h0 : n = 0
  · subst h0
    refine out (-9) ct ck sm0 sv0 sw0 su parts he ?_ ?_
    · unfold fX10_best
      rw [e, bds, if10, e', bds, if10, e'', bds, if10, sp_copies, bds, h30, if_pos (show nI 0 = 0 from rfl)]
    · obtain ⟨f, hf⟩ : ∃ g, fuel = g + 1 := ⟨fuel - 1, by have := fuel_gt (d := 5) (by decide); omega⟩
      rw [eM, hf, fX11_best_85_s, hc.1, if_pos (show nI (4 ^ 0) ≤ 1 from by decide)]
      by_cases q : wh = 0
      · rw [if_pos q]
      · rw [if_neg q]
        by_cases q : wh = 1
        · rw [if_pos q]
        · rw [if_neg q]
  · have hp4 : 4 ≤ 4 ^ n := (by decide +kernel : ∀ n, n < 7 → 1 ≤ n → 4 ≤ 4 ^ n) n (by omega) (by omega)
    obtain ⟨mu1, vo1, wr1, tot1, lk1, sums1, heaps1, e1, e2⟩ := best_loop (by omega) hn hx ha wh hpa (4 ^ n - 1) fuel fuel 1 (-9) sv0 sw0 (-9) (-9) ct ck su he (by omega) (by omega) (fuel_gt (by omega)) (fuel_gt (by omega)) (Or.inr ⟨rfl, rfl, by omega⟩) (fun j h1 h2 => absurd h1 (by omega))
    refine out _ tot1 lk1 mu1 vo1 wr1 sums1 parts heaps1 ?_ (eM.trans e2)
    have er : fX5_run (nI n) (nI x) (nI a) sm0 sv0 sw0 ct ck = some (mu1, vo1, wr1, tot1, lk1) := e1
    unfold fX10_best
    rw [e, bds, if10, e', bds, if10, e'', bds, if10, sp_copies, bds, h30, if_neg (show ¬ nI n = 0 from fun q => h0 (nI_inj (by omega) (by decide) q)), bds, er, bd5_in rfl]
    by_cases q : wh = 0
    · rw [if_pos q, if_pos q]
    · rw [if_neg q, if_neg q]
      by_cases q : wh = 1
      · rw [if_pos q, if_pos q]
      · rw [if_neg q, if_neg q]
