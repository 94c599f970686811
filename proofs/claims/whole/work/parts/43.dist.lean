/-! PURE. How likely: the expectation over independent copies -/
def EH (x : Nat) : List Nat → (Nat → Nat) → Nat
  | [], g => g 0
  | a :: l, g => (10 - x) * EH x l g + x * EH x l (fun t => g (t + a))
theorem EH_c (x a : Nat) (l : List Nat) (g : Nat → Nat) : EH x (a :: l) g = (10 - x) * EH x l g + x * EH x l (fun t => g (t + a)) := rfl
theorem EH_congr {x : Nat} : ∀ (l : List Nat) (g g' : Nat → Nat), (∀ t, t ≤ l.sum → g t = g' t) → EH x l g = EH x l g' := by
  intro l
  induction l with
  | nil => intro g g' h; exact h 0 (Nat.zero_le _)
  | cons a l ih =>
    intro g g' h
    rw [List.sum_cons] at h
    rw [EH_c, EH_c, ih g g' (fun t ht => h t (by omega)), ih (fun t => g (t + a)) (fun t => g' (t + a)) (fun t ht => h (t + a) (by omega))]
theorem EH_add {x : Nat} : ∀ (l : List Nat) (g g' : Nat → Nat), EH x l (fun t => g t + g' t) = EH x l g + EH x l g' := by
  intro l
  induction l with
  | nil => intro g g'; rfl
  | cons a l ih =>
    intro g g'
    rw [EH_c, EH_c, EH_c, ih g g', ih (fun t => g (t + a)) (fun t => g' (t + a)), Nat.mul_add, Nat.mul_add, Nat.add_add_add_comm]
theorem EH_zero {x : Nat} : ∀ (l : List Nat), EH x l (fun _ => 0) = 0 := by
  intro l
  induction l with
  | nil => rfl
  | cons a l ih => rw [EH_c, ih]; rfl
theorem EH_one {x : Nat} (hx : x ≤ 10) : ∀ (l : List Nat), EH x l (fun _ => 1) = 10 ^ l.length := by
  intro l
  induction l with
  | nil => rfl
  | cons a l ih => rw [EH_c, ih, ← Nat.add_mul, show 10 - x + x = 10 by omega, List.length_cons, Nat.pow_succ, Nat.mul_comm]
theorem EH_mono {x : Nat} : ∀ (l : List Nat) (g g' : Nat → Nat), (∀ t, g t ≤ g' t) → EH x l g ≤ EH x l g' := by
  intro l
  induction l with
  | nil => intro g g' h; exact h 0
  | cons a l ih =>
    intro g g' h
    exact Nat.add_le_add (Nat.mul_le_mul_left _ (ih g g' h)) (Nat.mul_le_mul_left _ (ih _ _ (fun t => h (t + a))))
def dl (i t : Nat) : Nat := if t = i then 1 else 0
def ge (i t : Nat) : Nat := if i ≤ t then 1 else 0
theorem EH_dl_big {x : Nat} {l : List Nat} {i : Nat} (h : l.sum < i) : EH x l (dl i) = 0 := by
  rw [EH_congr l (dl i) (fun _ => 0) (fun t ht => if_neg (by omega)), EH_zero]
theorem EH_ge_big {x : Nat} {l : List Nat} {i : Nat} (h : l.sum < i) : EH x l (ge i) = 0 := by
  rw [EH_congr l (ge i) (fun _ => 0) (fun t ht => if_neg (by omega)), EH_zero]
theorem EH_ge_s {x : Nat} {l : List Nat} {i : Nat} : EH x l (ge i) = EH x l (dl i) + EH x l (ge (i + 1)) := by
  rw [← EH_add]
  refine EH_congr l _ _ (fun t _ => ?_)
  unfold ge dl
  by_cases h : t = i
  · rw [if_pos h, if_pos (by omega), if_neg (by omega)]
  · by_cases h2 : i ≤ t
    · rw [if_neg h, if_pos h2, if_pos (by omega)]
    · rw [if_neg h, if_neg h2, if_neg (by omega)]
theorem EH_dl_c {x a : Nat} {l : List Nat} {i : Nat} : EH x (a :: l) (dl i) = EH x l (dl i) * (10 - x) + (if i < a then 0 else EH x l (dl (i - a)) * x) := by
  rw [EH_c, Nat.mul_comm]
  by_cases h : i < a
  · rw [if_pos h, EH_congr l (fun t => dl i (t + a)) (fun _ => 0) (fun t _ => if_neg (by omega)), EH_zero, Nat.mul_zero]
  · rw [if_neg h, EH_congr l (fun t => dl i (t + a)) (dl (i - a)) (fun t _ => ?_), Nat.mul_comm x]
    unfold dl
    by_cases q : t = i - a
    · rw [if_pos q, if_pos (by omega)]
    · rw [if_neg q, if_neg (by omega)]
theorem EH_ge_le {x : Nat} (hx : x ≤ 10) (l : List Nat) (i : Nat) : EH x l (ge i) ≤ 10 ^ l.length := by
  rw [← EH_one hx l]
  refine EH_mono l _ _ (fun t => ?_)
  unfold ge
  by_cases h : i ≤ t
  · rw [if_pos h]; exact Nat.le_refl _
  · rw [if_neg h]; exact Nat.zero_le _
/-! the class: joining, summing -/
theorem m1e (k : Nat) : nI k + (-1) = nI k - 1 := by
  cases k with
  | zero => rfl
  | succ k => rw [nI_pred, pk_m1]
theorem sp_join15 {x a : Nat} {l : List Nat} (hx : x ≤ 10) (hl : l.sum + a ≤ 30) : ∀ (k f : Nat) (lk : Nat → Int32), k ≤ l.sum + a + 1 → k < f → (∀ i, k ≤ i → i ≤ l.sum + a → lk i = nI (EH x (a :: l) (dl i))) → (∀ i, i < k → i ≤ l.sum → lk i = nI (EH x l (dl i))) → ∃ lk', fX0_join_15 (nI a) (nI x) (nI (l.sum + a)) f (nI k - 1) (nI l.sum) lk = some (nI (l.sum + a), lk') ∧ ∀ i, i ≤ l.sum + a → lk' i = nI (EH x (a :: l) (dl i)) := by
  intro k
  induction k with
  | zero =>
    intro f lk hk hf hn ho
    obtain ⟨f, rfl⟩ : ∃ g, f = g + 1 := ⟨f - 1, by omega⟩
    refine ⟨lk, ?_, fun i hi => hn i (by omega) hi⟩
    rw [fX0_join_15_s, if_pos (by decide)]
  | succ k ih =>
    intro f lk hk hf hn ho
    obtain ⟨f, rfl⟩ : ∃ g, f = g + 1 := ⟨f - 1, by omega⟩
    have e : ∀ (y z : Nat), y = EH x l (dl k) * (10 - x) → z = (if k < a then 0 else EH x l (dl (k - a)) * x) → ∃ lk', fX0_join_15 (nI a) (nI x) (nI (l.sum + a)) f (nI k - 1) (nI l.sum) (upd lk k (nI y + nI z)) = some (nI (l.sum + a), lk') ∧ ∀ i, i ≤ l.sum + a → lk' i = nI (EH x (a :: l) (dl i)) := by
      intro y z hy hz
      refine ih f _ (by omega) (by omega) (fun i h1 h2 => ?_) (fun i h1 h2 => ?_)
      · by_cases q : i = k
        · subst q
          rw [pk_us, ixs, EH_dl_c, hy, hz]
        · rw [pk_un q]
          exact hn i (by omega) h2
      · rw [pk_un (by omega)]
        exact ho i (by omega) h2
    have e45 : ∀ y : Nat, y = EH x l (dl k) * (10 - x) → ∃ lk', fX0_join_45 (fX0_join_15 (nI a) (nI x) (nI (l.sum + a)) f) (nI a) (nI x) (nI (l.sum + a)) (nI k) (nI y) (nI l.sum) lk = some (nI (l.sum + a), lk') ∧ ∀ i, i ≤ l.sum + a → lk' i = nI (EH x (a :: l) (dl i)) := by
      intro y hy
      unfold fX0_join_45 fX0_join_68
      rw [ckN (by omega) (by decide), nI_clamp (by omega), m1e]
      by_cases q : k < a
      · rw [if_pos (nI_lt q (by omega))]
        exact e y 0 hy (by rw [if_pos q])
      · rw [if_neg (nI_nlt (by omega) (by omega)), pk_sub (by omega), ckN (by omega) (by decide), nI_clamp (by omega), ckN (by omega) (by decide), ho (k - a) (by omega) (by omega), pk_mul]
        exact e y _ hy (by rw [if_neg q])
    rw [fX0_join_15_s, nI_pred, if_neg (nI_pos (by omega))]
    by_cases q : l.sum < k
    · rw [if_pos (nI_lt q (by omega))]
      exact e45 0 (by rw [EH_dl_big q, Nat.zero_mul])
    · rw [if_neg (nI_nlt (by omega) (by omega)), ckN (by omega) (by decide), nI_clamp (by omega), ho k (by omega) (by omega), n10, pk_sub hx, pk_mul]
      exact e45 _ rfl
theorem sp_join {x a : Nat} {l : List Nat} (hx : x ≤ 10) (hl : l.sum + a ≤ 30) (lk : Nat → Int32) (h : ∀ i, i ≤ l.sum → lk i = nI (EH x l (dl i))) : ∃ lk', fX0_join (nI a) (nI x) (nI l.sum) lk = some (nI (a :: l).sum, lk') ∧ ∀ i, i ≤ (a :: l).sum → lk' i = nI (EH x (a :: l) (dl i)) := by
  rw [List.sum_cons, Nat.add_comm a]
  obtain ⟨lk', e, h'⟩ := sp_join15 hx hl (l.sum + a + 1) fuel lk (Nat.le_refl _) (fuel_gt (by omega)) (fun i h1 h2 => absurd h1 (by omega)) (fun i _ h2 => h i h2)
  refine ⟨lk', ?_, h'⟩
  unfold fX0_join
  rw [ixs, n30, if_neg (nI_nlt hl (by decide))]
  rw [nI_pred] at e
  exact e
theorem sp_atLeast8 {x : Nat} {l : List Nat} (hl : l.sum ≤ 30) {lk : Nat → Int32} (h : ∀ i, i ≤ l.sum → lk i = nI (EH x l (dl i))) : ∀ (d f j a : Nat), l.sum + 1 ≤ j + d → j < 1000 → d < f → fX0_atLeast_8 (nI l.sum) lk f (nI a) (nI j) = some (nI (a + EH x l (ge j))) := by
  intro d
  induction d with
  | zero =>
    intro f j a hj hj2 hf
    obtain ⟨f, rfl⟩ : ∃ g, f = g + 1 := ⟨f - 1, by omega⟩
    rw [fX0_atLeast_8_s, if_pos (nI_lt (by omega) (by omega)), EH_ge_big (by omega), Nat.add_zero]
  | succ d ih =>
    intro f j a hj hj2 hf
    obtain ⟨f, rfl⟩ : ∃ g, f = g + 1 := ⟨f - 1, by omega⟩
    rw [fX0_atLeast_8_s]
    by_cases q : l.sum < j
    · rw [if_pos (nI_lt q (by omega)), EH_ge_big q, Nat.add_zero]
    · rw [if_neg (nI_nlt (by omega) (by omega)), ckN (by omega) (by decide), nI_clamp (by omega), h j (by omega), ixs, nI_1, ih f (j + 1) _ (by omega) (by omega) (by omega), EH_ge_s (i := j), Nat.add_assoc]
theorem sp_atLeast {x : Nat} {l : List Nat} (hl : l.sum ≤ 30) {lk : Nat → Int32} (h : ∀ i, i ≤ l.sum → lk i = nI (EH x l (dl i))) {j : Nat} (hj : j < 1000) : fX0_atLeast (nI j) (nI l.sum) lk = some (nI (EH x l (ge j))) := by
  unfold fX0_atLeast
  rw [if_neg (nI_pos (by omega))]
  have e := sp_atLeast8 hl h (l.sum + 1) fuel j 0 (by omega) hj (fuel_gt (by omega))
  rw [Nat.zero_add] at e
  exact e
/-! the reference: set by set -/
def tb (m j : Nat) : Bool := decide (m / 2 ^ j % 2 = 1)
theorem tb_bt {m j : Nat} (hm : m < 64) (hj : j < 6) : bt (nI m) j = tb m j := (by decide +kernel : ∀ m, m < 64 → ∀ j, j < 6 → bt (nI m) j = tb m j) m hm j hj
theorem tb_split {k m : Nat} (hk : k < 6) (hm : m < 2 ^ k) : tb m k = false ∧ tb (2 ^ k + m) k = true ∧ ∀ j, j < k → tb (2 ^ k + m) j = tb m j := (by decide +kernel : ∀ k, k < 6 → ∀ m, m < 2 ^ k → tb m k = false ∧ tb (2 ^ k + m) k = true ∧ ∀ j, j < k → tb (2 ^ k + m) j = tb m j) k hk m hm
def wt (x : Nat) : Nat → Nat → Nat
  | 0, _ => 1
  | k + 1, m => wt x k m * (if tb m k = true then x else 10 - x)
def sv (v : Nat → Nat) : Nat → Nat → Nat
  | 0, _ => 0
  | k + 1, m => sv v k m + (if tb m k = true then v k else 0)
def vl (v : Nat → Nat) : Nat → List Nat
  | 0 => []
  | k + 1 => v k :: vl v k
def sumTo (F : Nat → Nat) : Nat → Nat
  | 0 => 0
  | m + 1 => sumTo F m + F m
theorem sumTo_s (F : Nat → Nat) (m : Nat) : sumTo F (m + 1) = sumTo F m + F m := rfl
theorem wt_s (x k m : Nat) : wt x (k + 1) m = wt x k m * (if tb m k = true then x else 10 - x) := rfl
theorem sv_s (v : Nat → Nat) (k m : Nat) : sv v (k + 1) m = sv v k m + (if tb m k = true then v k else 0) := rfl
theorem wt_congr {x m m' : Nat} : ∀ k, (∀ j, j < k → tb m j = tb m' j) → wt x k m = wt x k m' := by
  intro k
  induction k with
  | zero => intro h; rfl
  | succ k ih => intro h; rw [wt_s, wt_s, ih (fun j hj => h j (by omega)), h k (by omega)]
theorem sv_congr {v : Nat → Nat} {m m' : Nat} : ∀ k, (∀ j, j < k → tb m j = tb m' j) → sv v k m = sv v k m' := by
  intro k
  induction k with
  | zero => intro h; rfl
  | succ k ih => intro h; rw [sv_s, sv_s, ih (fun j hj => h j (by omega)), h k (by omega)]
theorem sumTo_congr {F G : Nat → Nat} : ∀ k, (∀ m, m < k → F m = G m) → sumTo F k = sumTo G k := by
  intro k
  induction k with
  | zero => intro h; rfl
  | succ k ih => intro h; rw [sumTo_s, sumTo_s, ih (fun j hj => h j (by omega)), h k (by omega)]
theorem sumTo_mul {F : Nat → Nat} {c : Nat} : ∀ k, sumTo (fun m => c * F m) k = c * sumTo F k := by
  intro k
  induction k with
  | zero => rfl
  | succ k ih => rw [sumTo_s, sumTo_s, ih, Nat.mul_add]
theorem sumTo_add {F : Nat → Nat} (a : Nat) : ∀ b, sumTo F (a + b) = sumTo F a + sumTo (fun m => F (a + m)) b := by
  intro b
  induction b with
  | zero => rfl
  | succ b ih => rw [← Nat.add_assoc, sumTo_s, sumTo_s, ih, Nat.add_assoc]
theorem enum (x : Nat) (v : Nat → Nat) : ∀ k, k ≤ 6 → ∀ g : Nat → Nat, sumTo (fun m => g (sv v k m) * wt x k m) (2 ^ k) = EH x (vl v k) g := by
  intro k
  induction k with
  | zero => intro _ g; show 0 + g 0 * 1 = g 0; omega
  | succ k ih =>
    intro hk g
    show _ = EH x (v k :: vl v k) g
    rw [EH_c, ← ih (by omega) g, ← ih (by omega) (fun t => g (t + v k)), ← sumTo_mul, ← sumTo_mul, Nat.pow_succ, Nat.mul_two, sumTo_add]
    congr 1
    · refine sumTo_congr _ (fun m hm => ?_)
      rw [sv_s, wt_s, (tb_split (by omega) hm).1, if_neg (by decide), if_neg (by decide), Nat.add_zero, ← Nat.mul_assoc, Nat.mul_comm]
    · refine sumTo_congr _ (fun m hm => ?_)
      have h := tb_split (k := k) (by omega) hm
      rw [sv_s, wt_s, h.2.1, if_pos rfl, if_pos rfl, sv_congr k h.2.2, wt_congr k h.2.2, ← Nat.mul_assoc, Nat.mul_comm]
theorem rf_part5 {m x n : Nat} (hm : m < 64) (hx : x ≤ 10) (hn : n ≤ 6) : ∀ (d f i : Nat), i + d = n → d < f → fX11_partOf_5 (nI m) (nI x) (nI n) f (nI (wt x i m)) (nI i) = some (nI (wt x n m)) := by
  intro d
  induction d with
  | zero =>
    intro f i hi hf
    obtain ⟨f, rfl⟩ : ∃ g, f = g + 1 := ⟨f - 1, by omega⟩
    obtain rfl : i = n := by omega
    rw [fX11_partOf_5_s, if_pos (nI_le (Nat.le_refl _) (by omega))]
  | succ d ih =>
    intro f i hi hf
    obtain ⟨f, rfl⟩ : ∃ g, f = g + 1 := ⟨f - 1, by omega⟩
    have h := ih f (i + 1) (by omega) (by omega)
    rw [wt_s] at h
    rw [fX11_partOf_5_s, if_neg (nI_ge (by omega) (by omega)), rf_has (by omega), bds, tb_bt hm (by omega), n10, pk_sub hx, pk_mul, pk_mul, nI_1]
    by_cases q : tb m i = true
    · rw [if_pos q] at h
      rw [if_pos q, if10]
      exact h
    · rw [if_neg q] at h
      rw [if_neg q, if00]
      exact h
theorem rf_part {m x n : Nat} (hm : m < 64) (hx : x ≤ 10) (hn : n ≤ 6) : fX11_partOf (nI m) (nI x) (nI n) = some (nI (wt x n m)) := rf_part5 hm hx hn n fuel 0 (by omega) (fuel_gt (by omega))
theorem fV_sv {V : Nat → Int32} {v : Nat → Nat} {m n : Nat} (hm : m < 64) (hn : n ≤ 6) (hV : ∀ j, j < 6 → V j = nI (v j)) : ∀ (d i : Nat), i + d = n → fV V (nI m) d i (nI (sv v i m)) = nI (sv v n m) := by
  intro d
  induction d with
  | zero => intro i hi; obtain rfl : i = n := by omega
            rfl
  | succ d ih =>
    intro i hi
    have h := ih (i + 1) (by omega)
    show fV V (nI m) d (i + 1) _ = _
    rw [tb_bt hm (by omega), hV i (by omega), ixs]
    rw [sv_s] at h
    by_cases q : tb m i = true
    · rw [if_pos q] at h
      rw [if_pos q]
      exact h
    · rw [if_neg q, Nat.add_zero] at h
      rw [if_neg q]
      exact h
