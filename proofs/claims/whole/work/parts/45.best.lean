/-! PURE. best -/
def vc (k j : Nat) : Nat := k / 4 ^ j % 4
theorem vc_lt (k j : Nat) : vc k j ≤ 3 := by unfold vc; omega
theorem and3a : ∀ a, a < 64 → ∀ b, b < 64 → nI (a * 64 + b) &&& 3 = nI ((a * 64 + b) % 4) := by decide +kernel
theorem and3 (n : Nat) (h : n < 4096) : nI n &&& 3 = nI (n % 4) := by
  have e := and3a (n / 64) (by omega) (n % 64) (by omega)
  rw [show n / 64 * 64 + n % 64 = n by omega] at e
  exact e
theorem vin {k j : Nat} (hk : k < 4096) (hj : j < 6) : (nI k >>> ((2 * nI j) &&& 31)) &&& 3 = nI (vc k j) := by
  rw [n2, pk_mul, pk_shrN (by omega) _ (2 * j) (s_l (2 * j) (by omega)), and3 _ (Nat.lt_of_le_of_lt (Nat.div_le_self _ _) hk)]
  unfold vc
  rw [Nat.pow_mul]
theorem sp_vin {k j : Nat} (hk : k < 4096) (hj : j < 6) : fX5_votesIn (nI k) (nI j) = some (nI (vc k j)) := by
  unfold fX5_votesIn
  rw [vin hk hj]
/-- two neighbours change places -/
def sw2 (k i : Nat) : Nat := k - (vc k (i + 1) - vc k i) * (3 * 4 ^ i)
def vsw (v : Nat → Nat) (i j : Nat) : Nat := if j = i then v (i + 1) else if j = i + 1 then v i else v j
def sw2_t (k i : Nat) : Bool := !(decide (vc k i < vc k (i + 1))) || (decide (sw2 k i < k) && decide (1 ≤ sw2 k i) && decide (vc (sw2 k i) 0 = vsw (vc k) i 0) && decide (vc (sw2 k i) 1 = vsw (vc k) i 1) && decide (vc (sw2 k i) 2 = vsw (vc k) i 2) && decide (vc (sw2 k i) 3 = vsw (vc k) i 3) && decide (vc (sw2 k i) 4 = vsw (vc k) i 4) && decide (vc (sw2 k i) 5 = vsw (vc k) i 5))
theorem sw2_a : ∀ a, a < 64 → ∀ b, b < 64 → ∀ i, i < 5 → sw2_t (a * 64 + b) i = true := by decide +kernel
theorem sw2_ok {k i : Nat} (hk : k < 4096) (hi : i < 5) (h : vc k i < vc k (i + 1)) : sw2 k i < k ∧ 1 ≤ sw2 k i ∧ ∀ j, j < 6 → vc (sw2 k i) j = vsw (vc k) i j := by
  have e := sw2_a (k / 64) (by omega) (k % 64) (by omega) i hi
  rw [show k / 64 * 64 + k % 64 = k by omega] at e
  unfold sw2_t at e
  rw [decide_eq_true h, Bool.not_true, Bool.false_or] at e
  simp only [Bool.and_eq_true, decide_eq_true_eq] at e
  obtain ⟨⟨⟨⟨⟨⟨⟨e1, e2⟩, c0⟩, c1⟩, c2⟩, c3⟩, c4⟩, c5⟩ := e
  refine ⟨e1, e2, fun j hj => ?_⟩
  rcases (show j = 0 ∨ j = 1 ∨ j = 2 ∨ j = 3 ∨ j = 4 ∨ j = 5 by omega) with rfl | rfl | rfl | rfl | rfl | rfl <;> assumption
theorem EH_swap (x a b : Nat) (l : List Nat) (g : Nat → Nat) : EH x (a :: b :: l) g = EH x (b :: a :: l) g := by
  rw [EH_c, EH_c, EH_c, EH_c, EH_c, EH_c]
  have e : (fun t => g (t + b + a)) = (fun t => g (t + a + b)) := by
    funext t
    rw [show t + b + a = t + a + b by omega]
  rw [e]
  generalize EH x l g = A
  generalize EH x l (fun t => g (t + b)) = B
  generalize EH x l (fun t => g (t + a)) = C
  generalize EH x l (fun t => g (t + a + b)) = D
  rw [Nat.mul_add, Nat.mul_add, Nat.mul_add, Nat.mul_add, Nat.mul_left_comm (10 - x) x B, Nat.mul_left_comm (10 - x) x C]
  omega
theorem vl_congr {v v' : Nat → Nat} : ∀ k, (∀ j, j < k → v j = v' j) → vl v k = vl v' k := by
  intro k
  induction k with
  | zero => intro h; rfl
  | succ k ih =>
    intro h
    show v k :: vl v k = v' k :: vl v' k
    rw [ih (fun j hj => h j (by omega)), h k (by omega)]
theorem vl_s (v : Nat → Nat) (k : Nat) : vl v (k + 1) = v k :: vl v k := rfl
theorem vsw_EH (x : Nat) (v : Nat → Nat) (i : Nat) : ∀ d, (∀ g, EH x (vl (vsw v i) (i + 2 + d)) g = EH x (vl v (i + 2 + d)) g) ∧ (vl (vsw v i) (i + 2 + d)).sum = (vl v (i + 2 + d)).sum := by
  intro d
  induction d with
  | zero =>
    have e1 : vsw v i (i + 1) = v i := by unfold vsw; rw [if_neg (by omega), if_pos rfl]
    have e2 : vsw v i i = v (i + 1) := by unfold vsw; rw [if_pos rfl]
    have e3 : vl (vsw v i) i = vl v i := vl_congr i (fun j hj => by unfold vsw; rw [if_neg (by omega), if_neg (by omega)])
    have e4 : vl (vsw v i) (i + 2 + 0) = v i :: v (i + 1) :: vl v i := by
      show vsw v i (i + 1) :: vsw v i i :: vl (vsw v i) i = _
      rw [e1, e2, e3]
    rw [e4]
    refine ⟨fun g => EH_swap x _ _ _ g, ?_⟩
    show (v i :: v (i + 1) :: vl v i).sum = (v (i + 1) :: v i :: vl v i).sum
    rw [List.sum_cons, List.sum_cons, List.sum_cons, List.sum_cons]
    omega
  | succ d ih =>
    have e1 : vsw v i (i + 2 + d) = v (i + 2 + d) := by unfold vsw; rw [if_neg (by omega), if_neg (by omega)]
    rw [← Nat.add_assoc, vl_s, vl_s, e1]
    refine ⟨fun g => ?_, ?_⟩
    · rw [EH_c, EH_c, ih.1, ih.1]
    · rw [List.sum_cons, List.sum_cons, ih.2]
theorem sw2_EH {x k i n : Nat} (hn : n ≤ 6) (hk : k < 4096) (hi : i + 1 < n) (h : vc k i < vc k (i + 1)) : (∀ g, EH x (vl (vc (sw2 k i)) n) g = EH x (vl (vc k) n) g) ∧ (vl (vc (sw2 k i)) n).sum = (vl (vc k) n).sum := by
  have hs := sw2_ok hk (by omega) h
  rw [vl_congr n (fun j hj => hs.2.2 j (by omega))]
  have e := vsw_EH x (vc k) i (n - (i + 2))
  rw [show i + 2 + (n - (i + 2)) = n by omega] at e
  exact e
/-- falling -/
theorem sp_fall2 {k n : Nat} (hn : n ≤ 6) (hk : k < 4096) : ∀ (d f i : Nat), i + 1 + d = n ∨ (n ≤ i + 1 ∧ d = 0) → i < 6 → d < f → (fX5_isFalling_2 (nI k) (nI n) f (nI (i + 1)) = some 1) ∨ (fX5_isFalling_2 (nI k) (nI n) f (nI (i + 1)) = some 0 ∧ ∃ j, j + 1 < n ∧ vc k j < vc k (j + 1)) := by
  intro d
  induction d with
  | zero =>
    intro f i hi h6 hf
    obtain ⟨f, rfl⟩ : ∃ g, f = g + 1 := ⟨f - 1, by omega⟩
    left
    rw [fX5_isFalling_2_s, if_pos (nI_le (by omega) (by omega))]
  | succ d ih =>
    intro f i hi h6 hf
    obtain ⟨f, rfl⟩ : ∃ g, f = g + 1 := ⟨f - 1, by omega⟩
    have v1 := vc_lt k i
    have v2 := vc_lt k (i + 1)
    rw [fX5_isFalling_2_s, if_neg (nI_ge (by omega) (by omega)), sp_vin hk (by omega), bds, nI_pred, sp_vin hk (by omega), bds]
    by_cases q : vc k (i + 1) ≤ vc k i
    · rw [if_pos (nI_le q (by omega)), nI_1]
      exact ih f (i + 1) (by omega) (by omega) (by omega)
    · rw [if_neg (nI_ge (by omega) (by omega))]
      exact Or.inr ⟨rfl, i, by omega, by omega⟩
theorem sp_fall {k n : Nat} (hn : n ≤ 6) (h0 : 1 ≤ n) (hk : k < 4096) : (fX5_isFalling (nI k) (nI n) = some 1) ∨ (fX5_isFalling (nI k) (nI n) = some 0 ∧ ∃ j, j + 1 < n ∧ vc k j < vc k (j + 1)) := sp_fall2 hn hk (n - 1) fuel 0 (by omega) (by decide) (fuel_gt (by omega))
/-- trying what a write may take -/
def twf (A : Nat → Int32) (c : Int32) : Nat → Nat → Int32 × Int32 × Int32 → Int32 × Int32 × Int32
  | 0, _, st => st
  | d + 1, w, st => twf A c d (w + 1) (if A w ≤ st.1 then st else (A w, c, nI w))
theorem twf_s (A : Nat → Int32) (c : Int32) (d w : Nat) (st : Int32 × Int32 × Int32) : twf A c (d + 1) w st = twf A c d (w + 1) (if A w ≤ st.1 then st else (A w, c, nI w)) := rfl
theorem twf_ge {A : Nat → Int32} {c : Int32} : ∀ (d w : Nat) (st : Int32 × Int32 × Int32), st.1 ≤ (twf A c d w st).1 ∧ ∀ j, w ≤ j → j < w + d → A j ≤ (twf A c d w st).1 := by
  intro d
  induction d with
  | zero => intro w st; exact ⟨Int32.le_refl _, fun j h1 h2 => absurd h1 (by omega)⟩
  | succ d ih =>
    intro w st
    rw [twf_s]
    by_cases q : A w ≤ st.1
    · rw [if_pos q]
      have h := ih (w + 1) st
      refine ⟨h.1, fun j h1 h2 => ?_⟩
      by_cases z : j = w
      · subst z; exact Int32.le_trans q h.1
      · exact h.2 j (by omega) (by omega)
    · rw [if_neg q]
      have h := ih (w + 1) (A w, c, nI w)
      refine ⟨Int32.le_trans (Int32.le_of_lt (Int32.not_le.mp q)) h.1, fun j h1 h2 => ?_⟩
      by_cases z : j = w
      · subst z; exact h.1
      · exact h.2 j (by omega) (by omega)
theorem twf_id {A : Nat → Int32} {c : Int32} : ∀ (d w : Nat) (st : Int32 × Int32 × Int32), (∀ j, w ≤ j → j < w + d → A j ≤ st.1) → twf A c d w st = st := by
  intro d
  induction d with
  | zero => intro w st h; rfl
  | succ d ih =>
    intro w st h
    rw [twf_s, if_pos (h w (by omega) (by omega))]
    exact ih (w + 1) st (fun j h1 h2 => h j (by omega) (by omega))
/-- how much a code is worth, by what a write takes -/
def Aw (x a n k w : Nat) : Int32 := nI (a * EH x (vl (vc k) n) (ge ((vl (vc k) n).sum + 1 - w)) + (10 - a) * EH x (vl (vc k) n) (ge w))
theorem vc_sum (k : Nat) {n : Nat} (hn : n ≤ 6) : (vl (vc k) n).sum ≤ 18 := Nat.le_trans (vl_sum (c := 3) n (fun j _ => vc_lt k j)) (by omega)
theorem sp_try10 {x a n k : Nat} (ha : a ≤ 10) (hn : n ≤ 6) {lk : Nat → Int32} (hk : ∀ j, j ≤ (vl (vc k) n).sum → lk j = nI (EH x (vl (vc k) n) (dl j))) : ∀ (d f w : Nat) (mu vo wr : Int32), w + d = (vl (vc k) n).sum + 1 → d < f → fX5_tryWrites_10 (nI k) (nI a) (nI (vl (vc k) n).sum) lk f (nI w) mu vo wr = some (twf (Aw x a n k) (nI k) d w (mu, vo, wr)) := by
  have hs := vc_sum k hn
  intro d
  induction d with
  | zero =>
    intro f w mu vo wr hw hf
    obtain ⟨f, rfl⟩ : ∃ g, f = g + 1 := ⟨f - 1, by omega⟩
    rw [fX5_tryWrites_10_s, if_pos (nI_lt (by omega) (by omega))]
    rfl
  | succ d ih =>
    intro f w mu vo wr hw hf
    obtain ⟨f, rfl⟩ : ∃ g, f = g + 1 := ⟨f - 1, by omega⟩
    rw [fX5_tryWrites_10_s, if_neg (nI_nlt (by omega) (by omega)), nI_1, pk_sub (by omega), sp_atLeast (by omega) hk (by omega), bds, sp_atLeast (by omega) hk (by omega), bds, n10, pk_sub ha, pk_mul, pk_mul, ixs, nI_1, twf_s, ih f (w + 1) _ _ _ (by omega) (by omega), ih f (w + 1) _ _ _ (by omega) (by omega)]
    show (if Aw x a n k w ≤ mu then _ else some (twf _ _ d (w + 1) (Aw x a n k w, nI k, nI w))) = _
    by_cases q : Aw x a n k w ≤ mu
    · rw [if_pos q, if_pos q]
    · rw [if_neg q, if_neg q]
theorem rf_try {x a n k : Nat} (ha : a ≤ 10) (hn : n ≤ 6) {sums : Nat → Int32} (hk : ∀ j, j < 20 → sums j = nI (EH x (vl (vc k) n) (ge j))) (jk : Int32 → Int32 → Int32 → Int32 → Int32 → (Nat → Int32) → (Nat → Int32) → (Nat → Int32) → Option (Int32 × Int32 × (Nat → Int32) × (Nat → Int32) × (Nat → Int32))) (wh : Int32) (parts heaps : Nat → Int32) : ∀ (d f w : Nat) (st : Int32 × Int32 × Int32), 1 ≤ w → w + d = (vl (vc k) n).sum + 1 → d < f → fX11_best_114 jk (nI a) wh (nI k) (nI (vl (vc k) n).sum) (nI n) f st.1 st.2.1 st.2.2 (nI w) 0 sums parts heaps = jk (twf (Aw x a n k) (nI k) d w st).1 (twf (Aw x a n k) (nI k) d w st).2.1 (twf (Aw x a n k) (nI k) d w st).2.2 (nI (k + 1)) 0 sums parts heaps := by
  have hs := vc_sum k hn
  intro d
  induction d with
  | zero =>
    intro f w st h1 hw hf
    obtain ⟨f, rfl⟩ : ∃ g, f = g + 1 := ⟨f - 1, by omega⟩
    rw [fX11_best_114_s, if_pos (nI_lt (by omega) (by omega)), nI_1]
    rfl
  | succ d ih =>
    intro f w st h1 hw hf
    obtain ⟨f, rfl⟩ : ∃ g, f = g + 1 := ⟨f - 1, by omega⟩
    rw [fX11_best_114_s, if_neg (nI_nlt (by omega) (by omega)), nI_1, pk_sub (by omega), ckN (by omega) (by decide), ckN (by omega) (by decide), nI_clamp (by omega), nI_clamp (by omega), hk _ (by omega), hk w (by omega), n10, pk_sub ha, pk_mul, pk_mul, ixs, nI_1, twf_s]
    show (if Aw x a n k w ≤ st.1 then _ else fX11_best_114 jk (nI a) wh (nI k) _ (nI n) f (Aw x a n k w) (nI k) (nI w) (nI (w + 1)) 0 sums parts heaps) = _
    by_cases q : Aw x a n k w ≤ st.1
    · rw [if_pos q, if_pos q]
      exact ih f (w + 1) st (by omega) (by omega) (by omega)
    · rw [if_neg q, if_neg q]
      exact ih f (w + 1) (Aw x a n k w, nI k, nI w) (by omega) (by omega) (by omega)
