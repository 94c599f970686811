/-! PURE. least -/
def on (k : Nat) : Nat := k % 2 + k / 2 % 2 + k / 4 % 2 + k / 8 % 2 + k / 16 % 2 + k / 32 % 2
theorem on_le (k : Nat) : on k ≤ 6 := by unfold on; omega
theorem sets_n : ∀ n, n ≤ 6 → (1 : Int32) <<< (nI n &&& 31) = nI (2 ^ n) := by
  intro n hn
  exact (by decide +kernel : ∀ n, n < 7 → (1 : Int32) <<< (nI n &&& 31) = nI (2 ^ n)) n (by omega)
theorem pw_le {n : Nat} (hn : n ≤ 6) : 1 ≤ 2 ^ n ∧ 2 ^ n ≤ 64 := by
  rcases (show n = 0 ∨ n = 1 ∨ n = 2 ∨ n = 3 ∨ n = 4 ∨ n = 5 ∨ n = 6 by omega) with rfl | rfl | rfl | rfl | rfl | rfl | rfl <;> decide
theorem sp_bitCount {k : Nat} (hk : k < 64) : fJ6_bitCount_0f7a4 (nI k) = some (nI (on k)) := (by decide +kernel : ∀ k, k < 64 → fJ6_bitCount_0f7a4 (nI k) = some (nI (on k))) k hk
theorem ones_step : ∀ k, k < 64 → ¬ k = 0 → ∃ j, j < k ∧ nI k &&& (nI k - 1) = nI j ∧ on k = on j + 1 := by
  intro k hk
  exact (by decide +kernel : ∀ k, k < 64 → ¬ k = 0 → ∃ j, j < k ∧ nI k &&& (nI k - 1) = nI j ∧ on k = on j + 1) k hk
theorem rf_ones4 : ∀ (f k a : Nat), k < 64 → k < f → fX11_ones_4 f (nI a) (nI k) = some (nI (a + on k)) := by
  intro f
  induction f with
  | zero => intro k a hk hf; omega
  | succ f ih =>
    intro k a hk hf
    rw [fX11_ones_4_s]
    by_cases h : k = 0
    · subst h; rw [if_pos (show nI 0 = 0 from rfl)]; rfl
    · obtain ⟨j, hj, e, ho⟩ := ones_step k hk h
      rw [if_neg (show ¬ nI k = 0 from fun q => h (nI_inj (by omega) (by decide) q)), e, nI_1, ih j (a + 1) (by omega) (by omega), ho, show a + 1 + on j = a + (on j + 1) by omega]
theorem rf_ones {k : Nat} (hk : k < 64) : fX11_ones (nI k) = some (nI (on k)) := by
  unfold fX11_ones
  have h := rf_ones4 fuel k 0 hk (fuel_gt (by omega))
  rw [Nat.zero_add] at h
  exact h
def wants (s : Nat → Int32) (M : Nat) (w : Int32) : Int32 := if w = 0 then s (31 + (M - 1) * 9 + 6) else s (31 + (M - 1) * 9 + 7)
def vs (s : Nat → Int32) (n M : Nat) (x : Int32) : Int32 := fV (fun j => s (31 + (M - 1) * 9 + j)) x n 0 0
theorem rf_enoughNow {s : Nat → Int32} {n M : Nat} (hn : n ≤ 6) (h : s 30 = nI M) (h1 : 1 ≤ M) (h8 : M ≤ 8) (x w : Int32) : fX11_isEnoughNow x w (nI n) s = some (if vs s n M x < wants s M w then 0 else 1) := by
  unfold fX11_isEnoughNow wants vs
  rw [rf_newest h h1, bds, rf_votesOf hn (by omega), bds, bds, n6, n7, ixs, ixs, ckN (by omega) (by decide), ckN (by omega) (by decide), nI_clamp (by omega), nI_clamp (by omega)]
  by_cases e : w = 0
  · rw [if_pos e, if_pos e]
    by_cases q : fV (fun j => s (31 + (M - 1) * 9 + j)) x n 0 0 < s (31 + (M - 1) * 9 + 6)
    · rw [if_pos q, if_pos q]
    · rw [if_neg q, if_neg q]
  · rw [if_neg e, if_neg e]
    by_cases q : fV (fun j => s (31 + (M - 1) * 9 + j)) x n 0 0 < s (31 + (M - 1) * 9 + 7)
    · rw [if_pos q, if_pos q]
    · rw [if_neg q, if_neg q]
theorem sp_newestM {R : Nat → Int32} {M : Nat} (h : R 31 = nI M) (h1 : 1 ≤ M) : fX7_newest R = some (nI (M - 1)) := by rw [sp_newest, h, nsub1 h1]
theorem sp_wants {n M : Nat} {R s : Nat → Int32} (h : RowR n R s) (h1 : 1 ≤ M) (h8 : M ≤ 8) (w : Int32) : fX7_need (nI (M - 1)) w R = some (wants s M w) := by
  unfold wants
  rw [sp_need (by omega), (h.2.2.2 (M - 1) (by omega)).2.2.1, (h.2.2.2 (M - 1) (by omega)).2.2.2]
theorem sp_vs {n M : Nat} {R s : Nat → Int32} (hn : n ≤ 6) (h : RowR n R s) (h1 : 1 ≤ M) (h8 : M ≤ 8) (x : Int32) : fX7_votesOfSet (nI (M - 1)) x R = some (vs s n M x) := by
  unfold vs
  rw [sp_votesOfSet h.2.1 hn (by omega), cfg_votes h (by omega) hn]
/-- all copies together have enough -/
theorem full_enough {n M : Nat} {s : Nat → Int32} (hn : n ≤ 6) (h0 : 0 < n) (hk : CfgK n (fun j => s (31 + (M - 1) * 9 + j))) (w : Int32) : ¬ vs s n M (nI (2 ^ n - 1)) < wants s M w := by
  obtain ⟨v, h1, h2, r, q, e6, e7, hr, hq, hle⟩ := hk
  have hb : ∀ j, 0 ≤ j → j < 0 + n → bt (nI (2 ^ n - 1)) j = true := fun j _ hj => by
    have h := full_bits n hn j (by omega)
    rw [sets_n n hn, nsub1 (pw_le hn).1] at h
    exact h
  have hv : vs s n M (nI (2 ^ n - 1)) = nI (vt v) := by
    unfold vs
    rw [fV_all n 0 0 hb, ← fA_nat (fun j hj => (h1 j hj).2), show (6 : Nat) = n + (6 - n) by omega, fA_add n (6 - n) 0 0, fA_zero (6 - n) (0 + n)]
    intro j hj1 hj2
    refine (h1 j (by omega)).2.trans ?_
    rw [h2 j (by omega) (by omega)]
    rfl
  have hvt : vt v ≤ 30 := by
    have := (h1 0 (by decide)).1
    have := (h1 1 (by decide)).1
    have := (h1 2 (by decide)).1
    have := (h1 3 (by decide)).1
    have := (h1 4 (by decide)).1
    have := (h1 5 (by decide)).1
    unfold vt
    omega
  rw [hv]
  unfold wants
  by_cases e : w = 0
  · rw [if_pos e, show s (31 + (M - 1) * 9 + 6) = nI r from e6]
    exact nI_nlt (hle h0).1 (by omega)
  · rw [if_neg e, show s (31 + (M - 1) * 9 + 7) = nI q from e7]
    exact nI_nlt (hle h0).2 (by omega)
/-- m is the least set that is enough -/
def Least (E : Nat → Prop) (N m : Nat) : Prop := m < N ∧ E m ∧ ∀ k, k < N → E k → on m < on k ∨ (on m = on k ∧ m ≤ k)
theorem least_unique {E : Nat → Prop} {N m m' : Nat} (h : Least E N m) (h' : Least E N m') : m = m' := by
  have h1 := h.2.2 m' h'.1 h'.2.1
  have h2 := h'.2.2 m h.1 h.2.1
  omega
theorem rf_least_loop {s : Nat → Int32} {n M : Nat} (hn : n ≤ 6) (h : s 30 = nI M) (h1 : 1 ≤ M) (h8 : M ≤ 8) (w : Int32) : ∀ (k f its : Nat), k ≤ 2 ^ n → k < f → its < 2 ^ n → k ≤ its + 1 → (¬ vs s n M (nI its) < wants s M w) → (∀ j, k ≤ j → j < 2 ^ n → (¬ vs s n M (nI j) < wants s M w) → on its < on j ∨ (on its = on j ∧ its ≤ j)) → ∃ m, fX11_least_27 w (nI n) s f (nI its) (nI k - 1) 0 = some (nI m, 0) ∧ Least (fun j => ¬ vs s n M (nI j) < wants s M w) (2 ^ n) m := by
  have hp := pw_le hn
  intro k
  induction k with
  | zero =>
    intro f its hk hf hi hki hE hL
    obtain ⟨f, rfl⟩ : ∃ g, f = g + 1 := ⟨f - 1, by omega⟩
    refine ⟨its, ?_, hi, hE, fun j hj hEj => hL j (by omega) hj hEj⟩
    rw [fX11_least_27_s, if_pos (by decide)]
  | succ k ih =>
    intro f its hk hf hi hki hE hL
    obtain ⟨f, rfl⟩ : ∃ g, f = g + 1 := ⟨f - 1, by omega⟩
    have e : nI k + (-1) = nI k - 1 := by
      cases k with
      | zero => rfl
      | succ k => rw [nI_pred, pk_m1]
    rw [fX11_least_27_s, nI_pred, if_neg (nI_pos (by omega)), rf_enoughNow hn h h1 h8, bds, e]
    by_cases hv : vs s n M (nI k) < wants s M w
    · rw [if_pos hv, if00]
      refine ih f its (by omega) (by omega) hi (by omega) hE (fun j hj1 hj2 hEj => ?_)
      by_cases q : j = k
      · subst q; exact absurd hv hEj
      · exact hL j (by omega) hj2 hEj
    · rw [if_neg hv, if10, rf_ones (by omega), bds, rf_ones (by omega), bds]
      by_cases ho : on its < on k
      · rw [if_pos (nI_lt ho (by have := on_le k; omega))]
        refine ih f its (by omega) (by omega) hi (by omega) hE (fun j hj1 hj2 hEj => ?_)
        by_cases q : j = k
        · subst q; exact Or.inl ho
        · exact hL j (by omega) hj2 hEj
      · rw [if_neg (nI_nlt (by omega) (by have := on_le its; omega))]
        refine ih f k (by omega) (by omega) (by omega) (by omega) hv (fun j hj1 hj2 hEj => ?_)
        by_cases q : j = k
        · subst q; exact Or.inr ⟨rfl, Nat.le_refl _⟩
        · have := hL j (by omega) hj2 hEj
          omega
theorem sp_least_loop {R s : Nat → Int32} {n M : Nat} (hn : n ≤ 6) (hR : RowR n R s) (h : s 30 = nI M) (h1 : 1 ≤ M) (h8 : M ≤ 8) (w : Int32) (hfull : ¬ vs s n M (nI (2 ^ n - 1)) < wants s M w) : ∀ (d f k few its : Nat), k + d = 2 ^ n → d < f → ((few = 7 ∧ its = 0 ∧ ∀ j, j < k → vs s n M (nI j) < wants s M w) ∨ (few = on its ∧ Least (fun j => ¬ vs s n M (nI j) < wants s M w) k its)) → ∃ m, fX10_least_36 (wants s M w) R f (nI few) (nI its) (nI k) = some (nI m) ∧ Least (fun j => ¬ vs s n M (nI j) < wants s M w) (2 ^ n) m := by
  have hp := pw_le hn
  have h31 : R 31 = nI M := hR.2.2.1.trans h
  intro d
  induction d with
  | zero =>
    intro f k few its hk hf hI
    obtain ⟨f, rfl⟩ : ∃ g, f = g + 1 := ⟨f - 1, by omega⟩
    obtain rfl : k = 2 ^ n := by omega
    rcases hI with ⟨-, -, hno⟩ | ⟨-, hL⟩
    · exact absurd (hno (2 ^ n - 1) (by omega)) hfull
    · refine ⟨its, ?_, hL⟩
      rw [fX10_least_36_s, sp_sets, bds, hR.2.1, sets_n n hn, if_pos (nI_le (Nat.le_refl _) (by omega))]
  | succ d ih =>
    intro f k few its hk hf hI
    obtain ⟨f, rfl⟩ : ∃ g, f = g + 1 := ⟨f - 1, by omega⟩
    rw [fX10_least_36_s, sp_sets, bds, hR.2.1, sets_n n hn, if_neg (nI_ge (by omega) (by omega)), sp_bitCount (by omega), bds, sp_newestM h31 h1, bds, sp_vs hn hR h1 h8, bds, nI_1]
    have hfew : few ≤ 7 := by
      rcases hI with ⟨rfl, -⟩ | ⟨rfl, -⟩
      · exact Nat.le_refl 7
      · have := on_le its; omega
    have ok := on_le k
    by_cases ho : few ≤ on k
    · rw [if_pos (nI_le ho (by omega))]
      refine ih f (k + 1) few its (by omega) (by omega) ?_
      rcases hI with ⟨rfl, -⟩ | ⟨rfl, hL⟩
      · omega
      · refine Or.inr ⟨rfl, by have := hL.1; omega, hL.2.1, fun j hj hE => ?_⟩
        by_cases q : j = k
        · subst q
          have := hL.1
          omega
        · exact hL.2.2 j (by omega) hE
    · rw [if_neg (nI_ge (by omega) (by omega))]
      by_cases hv : vs s n M (nI k) < wants s M w
      · rw [if_pos hv]
        refine ih f (k + 1) few its (by omega) (by omega) ?_
        rcases hI with ⟨rfl, rfl, hno⟩ | ⟨rfl, hL⟩
        · refine Or.inl ⟨rfl, rfl, fun j hj => ?_⟩
          by_cases q : j = k
          · subst q; exact hv
          · exact hno j (by omega)
        · refine Or.inr ⟨rfl, by have := hL.1; omega, hL.2.1, fun j hj hE => ?_⟩
          by_cases q : j = k
          · subst q; exact absurd hv hE
          · exact hL.2.2 j (by omega) hE
      · rw [if_neg hv]
        refine ih f (k + 1) (on k) k (by omega) (by omega) (Or.inr ⟨rfl, by omega, hv, fun j hj hE => ?_⟩)
        by_cases q : j = k
        · subst q; exact Or.inr ⟨rfl, Nat.le_refl _⟩
        · rcases hI with ⟨rfl, rfl, hno⟩ | ⟨rfl, hL⟩
          · exact absurd (hno j (by omega)) hE
          · have := hL.2.2 j (by omega) hE
            omega
theorem sim_least : Sim_least RelV := by
  intro x tl tA R pn ps P I K ss sw se vr ty t cp s um U kp iK sm sW sI ak th hR
  obtain ⟨n, hn, rfl, hT, hRo, hPa, hIm, hSe, rfl⟩ := hR
  have out : ∀ lr : Int32, fX10_least x R = some lr → fX11_least x th (nI n) s = some (lr, 0) → ∃ (lr om_thrown : Int32), fX10_least x R = some lr ∧ fX11_least x th (nI n) s = some (lr, om_thrown) ∧ RelV tl tA R pn ps P I K ss sw se vr ty t (nI n) s um U kp iK sm sW sI vr :=
    fun lr h1 h2 => ⟨lr, 0, h1, h2, n, hn, rfl, hT, hRo, hPa, hIm, hSe, rfl⟩
  obtain ⟨hRR, M, m1, m2, m3, m4, m5, m6⟩ := hRo
  have h31 : R 31 = nI M := hRR.2.2.1.trans m3
  have hp := pw_le hn
  rcases iw x 0 1 with ⟨e, -⟩ | ⟨e, -, -⟩
  · refine out (-1) ?_ ?_
    · unfold fX10_least; rw [e]; rfl
    · unfold fX11_least; rw [iw_eq, e]; rfl
  have e1 : fX10_least x R = fX10_least_36 (wants s M x) R fuel (nI 7) (nI 0) (nI 0) := by
    unfold fX10_least
    rw [e, bds, if10, sp_newestM h31 m1, bds, sp_wants hRR m1 m2, bds]
    rfl
  have e2 : fX11_least x th (nI n) s = fX11_least_27 x (nI n) s fuel (nI (2 ^ n - 1)) (nI (2 ^ n) - 1) 0 := by
    unfold fX11_least
    rw [iw_eq, e, bds, if10, sets_n n hn, nsub1 hp.1]
  by_cases h0 : n = 0
  · subst h0
    refine out 0 ?_ ?_
    · obtain ⟨f, hf⟩ : ∃ g, fuel = g + 2 := ⟨fuel - 2, by have := fuel_gt (d := 5) (by decide); omega⟩
      rw [e1, hf, show (f + 2) = (f + 1) + 1 from rfl, fX10_least_36_s, sp_sets, bds, hRR.2.1, sets_n 0 hn, if_neg (nI_ge (by decide) (by decide)), sp_bitCount (by decide), bds, if_neg (nI_ge (by decide) (by decide)), sp_newestM h31 m1, bds, sp_vs hn hRR m1 m2, bds, nI_1, fX10_least_36_s, sp_sets, bds, hRR.2.1, sets_n 0 hn, if_pos (nI_le (by decide) (by decide)), fX10_least_36_s, sp_sets, bds, hRR.2.1, sets_n 0 hn, if_pos (nI_le (by decide) (by decide))]
      by_cases q : vs s 0 M (nI 0) < wants s M x
      · rw [if_pos q]; rfl
      · rw [if_neg q]; rfl
    · obtain ⟨f, hf⟩ : ∃ g, fuel = g + 2 := ⟨fuel - 2, by have := fuel_gt (d := 5) (by decide); omega⟩
      rw [e2, hf, show (f + 2) = (f + 1) + 1 from rfl, show nI (2 ^ 0) - 1 = nI 0 from rfl, show nI (2 ^ 0 - 1) = nI 0 from rfl, fX11_least_27_s, if_neg (nI_pos (by decide)), rf_enoughNow hn m3 m1 m2, bds, rf_ones (by decide), bds, bds, if_neg (nI_nlt (Nat.le_refl _) (by decide)), show nI 0 + (-1) = -1 from rfl, fX11_least_27_s, if_pos (show (-1 : Int32) < 0 from by decide)]
      by_cases q : vs s 0 M (nI 0) < wants s M x
      · rw [if_pos q, if00]; rfl
      · rw [if_neg q, if10]; rfl
  · have hfull := full_enough (M := M) hn (by omega) (m6 (M - 1) (by omega)) x
    obtain ⟨a, ea, ha⟩ := sp_least_loop hn hRR m3 m1 m2 x hfull (2 ^ n) fuel 0 7 0 (by omega) (fuel_gt (by omega)) (Or.inl ⟨rfl, rfl, fun j hj => absurd hj (by omega)⟩)
    obtain ⟨b, eb, hb⟩ := rf_least_loop hn m3 m1 m2 x (2 ^ n) fuel (2 ^ n - 1) (Nat.le_refl _) (fuel_gt (by omega)) (by omega) (by omega) hfull (fun j hj1 hj2 _ => absurd hj1 (by omega))
    obtain rfl := least_unique ha hb
    exact out (nI a) (e1.trans ea) (e2.trans eb)
