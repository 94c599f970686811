/-! PURE. Sums of votes -/
/-- the votes of those of a set, d copies from i on -/
def fV (V : Nat → Int32) (x : Int32) : Nat → Nat → Int32 → Int32
  | 0, _, a => a
  | d + 1, i, a => fV V x d (i + 1) (if bt x i = true then a + V i else a)
def fA (V : Nat → Int32) : Nat → Nat → Int32 → Int32
  | 0, _, a => a
  | d + 1, i, a => fA V d (i + 1) (a + V i)
theorem fV_congr {V V' : Nat → Int32} {x : Int32} : ∀ (d i : Nat) (a : Int32), (∀ j, i ≤ j → j < i + d → V j = V' j) → fV V x d i a = fV V' x d i a := by
  intro d
  induction d with
  | zero => intro i a h; rfl
  | succ d ih =>
    intro i a h
    show fV V x d (i + 1) _ = fV V' x d (i + 1) _
    rw [h i (by omega) (by omega)]
    exact ih (i + 1) _ (fun j h1 h2 => h j (by omega) (by omega))
theorem fV_all {V : Nat → Int32} {x : Int32} : ∀ (d i : Nat) (a : Int32), (∀ j, i ≤ j → j < i + d → bt x j = true) → fV V x d i a = fA V d i a := by
  intro d
  induction d with
  | zero => intro i a h; rfl
  | succ d ih =>
    intro i a h
    show fV V x d (i + 1) _ = fA V d (i + 1) _
    rw [if_pos (h i (by omega) (by omega))]
    exact ih (i + 1) _ (fun j h1 h2 => h j (by omega) (by omega))
theorem fA_add {V : Nat → Int32} : ∀ (d e i : Nat) (a : Int32), fA V (d + e) i a = fA V e (i + d) (fA V d i a) := by
  intro d
  induction d with
  | zero => intro e i a; rw [Nat.zero_add]; rfl
  | succ d ih =>
    intro e i a
    rw [show d + 1 + e = (d + e) + 1 by omega, show i + (d + 1) = (i + 1) + d by omega]
    exact ih e (i + 1) (a + V i)
theorem fA_zero {V : Nat → Int32} : ∀ (d i : Nat) (a : Int32), (∀ j, i ≤ j → j < i + d → V j = 0) → fA V d i a = a := by
  intro d
  induction d with
  | zero => intro i a h; rfl
  | succ d ih =>
    intro i a h
    show fA V d (i + 1) (a + V i) = a
    rw [h i (by omega) (by omega), Int32.add_zero]
    exact ih (i + 1) a (fun j h1 h2 => h j (by omega) (by omega))
theorem sp_votesOfSet5 {R : Nat → Int32} {n c : Nat} (h30 : R 30 = nI n) (hn : n ≤ 6) (hc : c < 8) (x : Int32) : ∀ (d f i : Nat) (a : Int32), i + d = n → d < f → fX7_votesOfSet_5 (nI c) x R f a (nI i) = some (fV (fun j => R (32 + c * 9 + j)) x d i a) := by
  intro d
  induction d with
  | zero =>
    intro f i a hi hf
    obtain ⟨f, rfl⟩ : ∃ g, f = g + 1 := ⟨f - 1, by omega⟩
    rw [fX7_votesOfSet_5_s, sp_copies, bds, h30, if_pos (nI_le (by omega) (by omega))]
    rfl
  | succ d ih =>
    intro f i a hi hf
    obtain ⟨f, rfl⟩ : ∃ g, f = g + 1 := ⟨f - 1, by omega⟩
    rw [fX7_votesOfSet_5_s, sp_copies, bds, h30, if_neg (nI_ge (by omega) (by omega)), sp_votesOf hc (by omega), bds, nI_1, ih f (i + 1) _ (by omega) (by omega), ih f (i + 1) _ (by omega) (by omega)]
    show _ = some (fV _ x d (i + 1) _)
    by_cases h : bt x i = true
    · rw [if_pos ((bt_iff (by omega)).mpr h), if_pos h]
    · rw [if_neg (fun q => h ((bt_iff (by omega)).mp q)), if_neg h]
theorem sp_votesOfSet {R : Nat → Int32} {n c : Nat} (h30 : R 30 = nI n) (hn : n ≤ 6) (hc : c < 8) (x : Int32) : fX7_votesOfSet (nI c) x R = some (fV (fun j => R (32 + c * 9 + j)) x n 0 0) := sp_votesOfSet5 h30 hn hc x n fuel 0 0 (by omega) (fuel_gt (by omega))
theorem rf_votesOf5 {s : Nat → Int32} {n c : Nat} (hn : n ≤ 6) (hc : c < 8) (x : Int32) : ∀ (d f i : Nat) (a : Int32), i + d = n → d < f → fX11_votesOf_5 x (nI (31 + c * 9)) (nI n) s f a (nI i) = some (fV (fun j => s (31 + c * 9 + j)) x d i a) := by
  intro d
  induction d with
  | zero =>
    intro f i a hi hf
    obtain ⟨f, rfl⟩ : ∃ g, f = g + 1 := ⟨f - 1, by omega⟩
    rw [fX11_votesOf_5_s, if_pos (nI_le (by omega) (by omega))]
    rfl
  | succ d ih =>
    intro f i a hi hf
    obtain ⟨f, rfl⟩ : ∃ g, f = g + 1 := ⟨f - 1, by omega⟩
    rw [fX11_votesOf_5_s, if_neg (nI_ge (by omega) (by omega)), rf_has (by omega), bds, ixs, ckN (by omega) (by decide), nI_clamp (by omega), nI_1, ih f (i + 1) _ (by omega) (by omega), ih f (i + 1) _ (by omega) (by omega)]
    show _ = some (fV _ x d (i + 1) _)
    by_cases h : bt x i = true
    · rw [if_pos h, if10, if_pos h]
    · rw [if_neg h, if00, if_neg h, Int32.add_zero]
theorem rf_votesOf {s : Nat → Int32} {n c : Nat} (hn : n ≤ 6) (hc : c < 8) (x : Int32) : fX11_votesOf x (nI (31 + c * 9)) (nI n) s = some (fV (fun j => s (31 + c * 9 + j)) x n 0 0) := rf_votesOf5 hn hc x n fuel 0 0 (by omega) (fuel_gt (by omega))
theorem rf_totalOf4 {s : Nat → Int32} {c : Nat} (hc : c < 8) : ∀ (d f i : Nat) (a : Int32), i + d = 6 → d < f → fX11_totalOf_4 103 (nI (31 + c * 9)) s f a (nI i) = some (fA (fun j => s (31 + c * 9 + j)) d i a) := by
  intro d
  induction d with
  | zero =>
    intro f i a hi hf
    obtain ⟨f, rfl⟩ : ∃ g, f = g + 1 := ⟨f - 1, by omega⟩
    rw [fX11_totalOf_4_s, n6, if_pos (nI_le (by omega) (by omega))]
    rfl
  | succ d ih =>
    intro f i a hi hf
    obtain ⟨f, rfl⟩ : ∃ g, f = g + 1 := ⟨f - 1, by omega⟩
    rw [fX11_totalOf_4_s, n6, if_neg (nI_ge (by omega) (by omega)), ixs, ckN (by omega) (by decide), nI_clamp (by omega), nI_1, ih f (i + 1) _ (by omega) (by omega)]
    rfl
theorem rf_totalOf {s : Nat → Int32} {c : Nat} (hc : c < 8) : fX11_totalOf 103 (nI (31 + c * 9)) s = some (fA (fun j => s (31 + c * 9 + j)) 6 0 0) := rf_totalOf4 hc 6 fuel 0 0 (by omega) (fuel_gt (by omega))
theorem full_bits : ∀ n, n ≤ 6 → ∀ j, j < n → bt ((1 : Int32) <<< (nI n &&& 31) - 1) j = true := by
  intro n hn
  exact (by decide +kernel : ∀ n, n < 7 → ∀ j, j < n → bt ((1 : Int32) <<< (nI n &&& 31) - 1) j = true) n (by omega)
theorem sp_total {R : Nat → Int32} {n c : Nat} (h30 : R 30 = nI n) (hn : n ≤ 6) (hc : c < 8) : fX7_total (nI c) R = some (fA (fun j => R (32 + c * 9 + j)) n 0 0) := by
  unfold fX7_total
  rw [sp_sets, bds, h30, sp_votesOfSet h30 hn hc, bds, fV_all n 0 0 (fun j _ h => full_bits n hn j (by omega))]
/-- the votes of a configuration, as the class has them and as the reference has them -/
theorem cfg_votes {n c : Nat} {R s : Nat → Int32} (h : RowR n R s) (hc : c < 8) (hn : n ≤ 6) (x : Int32) : fV (fun j => R (32 + c * 9 + j)) x n 0 0 = fV (fun j => s (31 + c * 9 + j)) x n 0 0 := fV_congr n 0 0 (fun j _ hj => (h.2.2.2 c hc).1 j (by omega))
theorem fA_congr {V V' : Nat → Int32} : ∀ (d i : Nat) (a : Int32), (∀ j, i ≤ j → j < i + d → V j = V' j) → fA V d i a = fA V' d i a := by
  intro d
  induction d with
  | zero => intro i a h; rfl
  | succ d ih =>
    intro i a h
    show fA V d (i + 1) _ = fA V' d (i + 1) _
    rw [h i (by omega) (by omega)]
    exact ih (i + 1) _ (fun j h1 h2 => h j (by omega) (by omega))
theorem cfg_total {n c : Nat} {R s : Nat → Int32} (h : RowR n R s) (hc : c < 8) (hn : n ≤ 6) (hk : CfgK n (fun j => s (31 + c * 9 + j))) : fA (fun j => R (32 + c * 9 + j)) n 0 0 = fA (fun j => s (31 + c * 9 + j)) 6 0 0 := by
  obtain ⟨v, h1, h2, -⟩ := hk
  rw [fA_congr n 0 0 (fun j _ hj => (h.2.2.2 c hc).1 j (by omega)), show (6 : Nat) = n + (6 - n) by omega, fA_add n (6 - n) 0 0, fA_zero (6 - n) (0 + n)]
  intro j hj1 hj2
  refine (h1 j (by omega)).2.trans ?_
  rw [h2 j (by omega) (by omega)]
  rfl
