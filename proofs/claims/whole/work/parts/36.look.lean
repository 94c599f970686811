/-! PURE. What a group is: who is present, what they know, what is latest, their data -/
def gi (s : Nat → Int32) (g : Int32) (j : Nat) : Bool := decide (s j = 1) && decide (s (6 + j) = g)
theorem gi_t {s : Nat → Int32} {g : Int32} {j : Nat} (h1 : s j = 1) (h2 : s (6 + j) = g) : gi s g j = true := by unfold gi; rw [decide_eq_true h1, decide_eq_true h2]; rfl
theorem gi_f1 {s : Nat → Int32} {g : Int32} {j : Nat} (h1 : ¬ s j = 1) : ¬ gi s g j = true := by unfold gi; rw [decide_eq_false h1, Bool.false_and]; decide
theorem gi_f2 {s : Nat → Int32} {g : Int32} {j : Nat} (h2 : ¬ s (6 + j) = g) : ¬ gi s g j = true := by unfold gi; rw [decide_eq_false h2, Bool.and_false]; decide
def fP (q : Nat → Bool) : Nat → Nat → Int32 → Int32
  | 0, _, a => a
  | d + 1, i, a => fP q d (i + 1) (if q i = true then a ||| (1 <<< (nI i &&& 31)) else a)
def fM (q : Nat → Bool) (V : Nat → Int32) : Nat → Nat → Int32 → Int32
  | 0, _, a => a
  | d + 1, i, a => fM q V d (i + 1) (if q i = true then (if a < V i then V i else a) else a)
def fF (q : Nat → Bool) (ver val : Nat → Int32) (lat dflt : Int32) : Nat → Nat → Int32
  | 0, _ => dflt
  | d + 1, i => if q i = true ∧ ver i = lat ∧ ¬ val i = -9 then val i else fF q ver val lat dflt d (i + 1)
theorem fM_congr {q q' : Nat → Bool} {V V' : Nat → Int32} : ∀ (d i : Nat) (a : Int32), (∀ j, i ≤ j → j < i + d → q j = q' j ∧ V j = V' j) → fM q V d i a = fM q' V' d i a := by
  intro d
  induction d with
  | zero => intro i a h; rfl
  | succ d ih =>
    intro i a h
    show fM q V d (i + 1) _ = fM q' V' d (i + 1) _
    rw [(h i (by omega) (by omega)).1, (h i (by omega) (by omega)).2]
    exact ih (i + 1) _ (fun j h1 h2 => h j (by omega) (by omega))
theorem fF_congr {q q' : Nat → Bool} {ver val ver' val' : Nat → Int32} {lat dflt : Int32} : ∀ (d i : Nat), (∀ j, i ≤ j → j < i + d → q j = q' j ∧ ver j = ver' j ∧ val j = val' j) → fF q ver val lat dflt d i = fF q' ver' val' lat dflt d i := by
  intro d
  induction d with
  | zero => intro i h; rfl
  | succ d ih =>
    intro i h
    obtain ⟨h1, h2, h3⟩ := h i (by omega) (by omega)
    show (if q i = true ∧ ver i = lat ∧ ¬ val i = -9 then val i else fF q ver val lat dflt d (i + 1)) = (if q' i = true ∧ ver' i = lat ∧ ¬ val' i = -9 then val' i else fF q' ver' val' lat dflt d (i + 1))
    rw [h1, h2, h3, ih (i + 1) (fun j h1 h2 => h j (by omega) (by omega))]
theorem fF_snoc {q : Nat → Bool} {ver val : Nat → Int32} {lat : Int32} : ∀ (d i : Nat) (dflt : Int32), fF q ver val lat dflt (d + 1) i = fF q ver val lat (if q (i + d) = true ∧ ver (i + d) = lat ∧ ¬ val (i + d) = -9 then val (i + d) else dflt) d i := by
  intro d
  induction d with
  | zero => intro i dflt; rfl
  | succ d ih =>
    intro i dflt
    show (if q i = true ∧ ver i = lat ∧ ¬ val i = -9 then val i else fF q ver val lat dflt (d + 1) (i + 1)) = (if q i = true ∧ ver i = lat ∧ ¬ val i = -9 then val i else fF q ver val lat _ d (i + 1))
    rw [ih (i + 1) dflt, show i + 1 + d = i + (d + 1) by omega]
theorem fP_bits {q : Nat → Bool} {j : Nat} (hj : j < 32) : ∀ (d i : Nat) (a : Int32), i + d ≤ 32 → bt (fP q d i a) j = (bt a j || (decide (i ≤ j) && decide (j < i + d) && q j)) := by
  intro d
  induction d with
  | zero =>
    intro i a h
    show bt a j = _
    by_cases h1 : i ≤ j
    · rw [decide_eq_false (show ¬ j < i + 0 by omega), Bool.and_false, Bool.false_and, Bool.or_false]
    · rw [decide_eq_false h1, Bool.false_and, Bool.false_and, Bool.or_false]
  | succ d ih =>
    intro i a h
    show bt (fP q d (i + 1) _) j = _
    rw [ih (i + 1) _ (by omega)]
    by_cases hq : q i = true
    · rw [if_pos hq, bt_or1 (by omega) hj]
      by_cases e : i = j
      · subst e
        rw [decide_eq_true rfl, decide_eq_true (Nat.le_refl i), decide_eq_true (show i < i + (d + 1) by omega), hq, Bool.or_true]
        simp
      · rw [decide_eq_false e, Bool.or_false]
        by_cases h1 : i ≤ j
        · rw [decide_eq_true h1, decide_eq_true (show i + 1 ≤ j by omega), show (i + 1 + d) = i + (d + 1) by omega]
        · rw [decide_eq_false h1, decide_eq_false (show ¬ i + 1 ≤ j by omega)]
          simp
    · rw [if_neg hq]
      by_cases e : i = j
      · subst e
        rw [Bool.eq_false_iff.mpr hq, Bool.and_false, Bool.and_false]
      · by_cases h1 : i ≤ j
        · rw [decide_eq_true h1, decide_eq_true (show i + 1 ≤ j by omega), show (i + 1 + d) = i + (d + 1) by omega]
        · rw [decide_eq_false h1, decide_eq_false (show ¬ i + 1 ≤ j by omega)]
          simp
theorem fP_bit {q : Nat → Bool} {n j : Nat} (hn : n ≤ 6) (hj : j < n) : bt (fP q n 0 0) j = q j := by
  rw [fP_bits (by omega) n 0 0 (by omega), b_0, decide_eq_true (Nat.zero_le j), decide_eq_true (show j < 0 + n by omega)]
  simp
theorem fP_none {q : Nat → Bool} : ∀ (d i : Nat) (a : Int32), (∀ j, i ≤ j → j < i + d → ¬ q j = true) → fP q d i a = a := by
  intro d
  induction d with
  | zero => intro i a h; rfl
  | succ d ih =>
    intro i a h
    show fP q d (i + 1) _ = a
    rw [if_neg (h i (by omega) (by omega))]
    exact ih (i + 1) a (fun j h1 h2 => h j (by omega) (by omega))
theorem fM_none {q : Nat → Bool} {V : Nat → Int32} : ∀ (d i : Nat) (a : Int32), (∀ j, i ≤ j → j < i + d → ¬ q j = true) → fM q V d i a = a := by
  intro d
  induction d with
  | zero => intro i a h; rfl
  | succ d ih =>
    intro i a h
    show fM q V d (i + 1) _ = a
    rw [if_neg (h i (by omega) (by omega))]
    exact ih (i + 1) a (fun j h1 h2 => h j (by omega) (by omega))
/-- if someone is present, what is known is one of the configurations that there are -/
theorem fM_known {q : Nat → Bool} {V : Nat → Int32} {M : Nat} (hM : M ≤ 8) : ∀ (d i : Nat) (a : Int32), (a = -9 ∨ ∃ c, c < M ∧ a = nI c) → (∀ j, i ≤ j → j < i + d → ∃ c, c < M ∧ V j = nI c) → ((∃ c, c < M ∧ a = nI c) ∨ ∃ j, i ≤ j ∧ j < i + d ∧ q j = true) → ∃ c, c < M ∧ fM q V d i a = nI c := by
  intro d
  induction d with
  | zero =>
    intro i a ha hV h
    rcases h with h | ⟨j, h1, h2, -⟩
    · exact h
    · omega
  | succ d ih =>
    intro i a ha hV h
    show ∃ c, c < M ∧ fM q V d (i + 1) _ = nI c
    by_cases hq : q i = true
    · rw [if_pos hq]
      have hr : ∃ c, c < M ∧ (if a < V i then V i else a) = nI c := by
        obtain ⟨c, hc, e⟩ := hV i (by omega) (by omega)
        rcases ha with rfl | ⟨c', hc', rfl⟩
        · refine ⟨c, hc, ?_⟩
          rw [e, if_pos]
          have : (0 : Int32) ≤ nI c := nI_pos' (by omega)
          exact Int32.lt_of_lt_of_le (by decide) this
        · by_cases h3 : nI c' < V i
          · rw [if_pos h3]; exact ⟨c, hc, e⟩
          · rw [if_neg h3]; exact ⟨c', hc', rfl⟩
      exact ih (i + 1) _ (Or.inr hr) (fun j h1 h2 => hV j (by omega) (by omega)) (Or.inl hr)
    · rw [if_neg hq]
      refine ih (i + 1) a ha (fun j h1 h2 => hV j (by omega) (by omega)) ?_
      rcases h with h | ⟨j, h1, h2, h3⟩
      · exact Or.inl h
      · by_cases e : j = i
        · subst e; exact absurd h3 hq
        · exact Or.inr ⟨j, by omega, by omega, h3⟩
/-! the reference -/
theorem rf_present4 {s : Nat → Int32} {n : Nat} (hn : n ≤ 6) (g : Int32) : ∀ (d f i : Nat) (a : Int32), i + d = n → d < f → fX11_present_4 g (nI n) s f a (nI i) = some (fP (gi s g) d i a) := by
  intro d
  induction d with
  | zero =>
    intro f i a hi hf
    obtain ⟨f, rfl⟩ : ∃ g, f = g + 1 := ⟨f - 1, by omega⟩
    rw [fX11_present_4_s, if_pos (nI_le (by omega) (by omega))]
    rfl
  | succ d ih =>
    intro f i a hi hf
    obtain ⟨f, rfl⟩ : ∃ g, f = g + 1 := ⟨f - 1, by omega⟩
    rw [fX11_present_4_s, if_neg (nI_ge (by omega) (by omega)), n6, ixs, show (0 : Int32) + nI i = nI i from by rw [n0, ixs, Nat.zero_add], ckN (by omega) (by decide), ckN (by omega) (by decide), nI_clamp (by omega), nI_clamp (by omega), nI_1, ih f (i + 1) _ (by omega) (by omega), ih f (i + 1) _ (by omega) (by omega), Int32.or_zero]
    show _ = some (fP _ d (i + 1) _)
    by_cases h1 : s i = 1
    · rw [if_pos h1]
      by_cases h2 : s (6 + i) = g
      · rw [if_pos h2, if_pos (gi_t h1 h2)]
      · rw [if_neg h2, if_neg (gi_f2 h2)]
    · rw [if_neg h1, if_neg (gi_f1 h1)]
theorem rf_present {s : Nat → Int32} {n : Nat} (hn : n ≤ 6) (g : Int32) : fX11_present g (nI n) s = some (fP (gi s g) n 0 0) := rf_present4 hn g n fuel 0 0 (by omega) (fuel_gt (by omega))
theorem rf_greatest6 {s : Nat → Int32} {n w : Nat} (hn : n ≤ 6) (hw : w ≤ 24) (x : Int32) : ∀ (d f i : Nat) (a : Int32), i + d = n → d < f → fX11_greatest_6 x (nI w) (nI n) s f a (nI i) = some (fM (bt x) (fun j => s (w + j)) d i a) := by
  intro d
  induction d with
  | zero =>
    intro f i a hi hf
    obtain ⟨f, rfl⟩ : ∃ g, f = g + 1 := ⟨f - 1, by omega⟩
    rw [fX11_greatest_6_s, if_pos (nI_le (by omega) (by omega))]
    rfl
  | succ d ih =>
    intro f i a hi hf
    obtain ⟨f, rfl⟩ : ∃ g, f = g + 1 := ⟨f - 1, by omega⟩
    rw [fX11_greatest_6_s, if_neg (nI_ge (by omega) (by omega)), rf_has (by omega), bds, ixs, ckN (by omega) (by decide), ckN (by omega) (by decide), nI_clamp (by omega), nI_1, ih f (i + 1) _ (by omega) (by omega), ih f (i + 1) _ (by omega) (by omega)]
    show _ = some (fM _ _ d (i + 1) _)
    by_cases h : bt x i = true
    · rw [if_pos h, if10, if_pos h]
      by_cases h2 : s (w + i) ≤ a
      · rw [if_pos h2, if_neg (Int32.not_lt.mpr h2)]
      · rw [if_neg h2, if_pos (Int32.not_le.mp h2)]
    · rw [if_neg h, if00, if_neg h]
theorem rf_greatest {s : Nat → Int32} {n w : Nat} (hn : n ≤ 6) (hw : w ≤ 24) (x : Int32) : fX11_greatest x (nI w) (nI n) s = some (fM (bt x) (fun j => s (w + j)) n 0 (-9)) := rf_greatest6 hn hw x n fuel 0 (-9) (by omega) (fuel_gt (by omega))
theorem rf_data19 {s : Nat → Int32} {n : Nat} (hn : n ≤ 6) (x lat : Int32) : ∀ (i f : Nat) (a : Int32), i ≤ n → i < f → fX11_data_19 x lat (nI n) s f a (nI i - 1) = some (fF (bt x) (fun j => s (12 + j)) (fun j => s (18 + j)) lat a i 0) := by
  intro i
  induction i with
  | zero =>
    intro f a hi hf
    obtain ⟨f, rfl⟩ : ∃ g, f = g + 1 := ⟨f - 1, by omega⟩
    rw [fX11_data_19_s, if_pos (by decide)]
    rfl
  | succ i ih =>
    intro f a hi hf
    obtain ⟨f, rfl⟩ : ∃ g, f = g + 1 := ⟨f - 1, by omega⟩
    have e : nI i + (-1) = nI i - 1 := by
      cases i with
      | zero => rfl
      | succ i => rw [nI_pred, pk_m1]
    rw [fX11_data_19_s, nI_pred, if_neg (nI_pos (by omega)), rf_has (by omega), bds, n12, n18, ixs, ixs, ckN (by omega) (by decide), ckN (by omega) (by decide), ckN (by omega) (by decide), nI_clamp (by omega), nI_clamp (by omega), e, ih f _ (by omega) (by omega), ih f _ (by omega) (by omega), fF_snoc, Nat.zero_add]
    by_cases h : bt x i = true
    · rw [if_pos h, if10]
      by_cases h2 : s (12 + i) = lat
      · rw [if_pos h2]
        by_cases h3 : s (18 + i) = -9
        · rw [if_pos h3, if_neg (fun q => q.2.2 h3)]
        · rw [if_neg h3, if_pos ⟨h, h2, h3⟩]
      · rw [if_neg h2, if_neg (fun q => h2 q.2.1)]
    · rw [if_neg h, if00, if_neg (fun q => h q.1)]
theorem rf_data {s : Nat → Int32} {n : Nat} (hn : n ≤ 6) (x : Int32) : fX11_data x (nI n) s = some (fF (bt x) (fun j => s (12 + j)) (fun j => s (18 + j)) (fM (bt x) (fun j => s (12 + j)) n 0 (-9)) (-9) n 0) := by
  unfold fX11_data
  rw [n12, rf_greatest hn (by decide), bds]
  exact rf_data19 hn x _ n fuel (-9) (Nat.le_refl n) (fuel_gt (by omega))
/-! the class -/
theorem sp_findValue2 {R : Nat → Int32} {n : Nat} (h30 : R 30 = nI n) (hn : n ≤ 6) (x lat : Int32) : ∀ (d f i : Nat) (v : Int32), i + d = n → d < f → fX3_findValue_2 x lat R f (nI i) v = some (if v = -9 then fF (bt x) (fun j => R (12 + j)) (fun j => R (18 + j)) lat (-9) d i else v) := by
  intro d
  induction d with
  | zero =>
    intro f i v hi hf
    obtain ⟨f, rfl⟩ : ∃ g, f = g + 1 := ⟨f - 1, by omega⟩
    rw [fX3_findValue_2_s, sp_copies, bds, h30, if_pos (nI_le (by omega) (by omega))]
    by_cases h : v = -9
    · rw [if_pos h, h]; rfl
    · rw [if_neg h]
  | succ d ih =>
    intro f i v hi hf
    obtain ⟨f, rfl⟩ : ∃ g, f = g + 1 := ⟨f - 1, by omega⟩
    rw [fX3_findValue_2_s, sp_copies, bds, h30, if_neg (nI_ge (by omega) (by omega)), sp_versionOf (by omega), bds, sp_valueOf (by omega), bds, nI_1, ih f (i + 1) _ (by omega) (by omega), ih f (i + 1) _ (by omega) (by omega)]
    by_cases h : v = -9
    · rw [if_pos h, if_pos h, if_pos h]
      show _ = some (if bt x i = true ∧ R (12 + i) = lat ∧ ¬ R (18 + i) = -9 then R (18 + i) else fF (bt x) _ _ lat (-9) d (i + 1))
      by_cases h1 : bt x i = true
      · rw [if_pos ((bt_iff (by omega)).mpr h1)]
        by_cases h2 : R (12 + i) = lat
        · rw [if_pos h2]
          by_cases h3 : R (18 + i) = -9
          · rw [if_pos h3, if_neg (fun q => q.2.2 h3)]
          · rw [if_neg h3, if_pos ⟨h1, h2, h3⟩]
        · rw [if_neg h2, if_neg (fun q => h2 q.2.1)]
      · rw [if_neg (fun q => h1 ((bt_iff (by omega)).mp q)), if_neg (fun q => h1 q.1)]
    · rw [if_neg h, if_neg h]
theorem sp_look30 {R : Nat → Int32} {n : Nat} (h30 : R 30 = nI n) (hn : n ≤ 6) (g vo va rd wr : Int32) : ∀ (d f i : Nat) (p kn la : Int32), i + d = n → d < f → fX3_look_30 g R f (nI i) p kn vo la va rd wr = fX3_look_30 g R 1 (nI n) (fP (gi R g) d i p) (fM (gi R g) (fun j => R (24 + j)) d i kn) vo (fM (gi R g) (fun j => R (12 + j)) d i la) va rd wr := by
  intro d
  induction d with
  | zero =>
    intro f i p kn la hi hf
    obtain ⟨f, rfl⟩ : ∃ g, f = g + 1 := ⟨f - 1, by omega⟩
    obtain rfl : i = n := by omega
    rw [fX3_look_30_s, fX3_look_30_s, sp_copies, bds, bds, h30, if_pos (nI_le (by omega) (by omega)), if_pos (nI_le (by omega) (by omega))]
    rfl
  | succ d ih =>
    intro f i p kn la hi hf
    obtain ⟨f, rfl⟩ : ∃ g, f = g + 1 := ⟨f - 1, by omega⟩
    rw [fX3_look_30_s, sp_copies, bds, h30, if_neg (nI_ge (by omega) (by omega)), sp_isUp (by omega), bds, sp_groupOf (by omega), bds, sp_configurationOf (by omega), bds, sp_versionOf (by omega), bds, nI_1, ih f (i + 1) _ _ _ (by omega) (by omega), ih f (i + 1) _ _ _ (by omega) (by omega)]
    show _ = fX3_look_30 g R 1 (nI n) (fP _ d (i + 1) _) (fM _ _ d (i + 1) _) vo (fM _ _ d (i + 1) _) va rd wr
    by_cases h1 : R i = 1
    · rw [if_pos h1, if10]
      by_cases h2 : R (6 + i) = g
      · rw [if_pos h2, if_pos (gi_t h1 h2), if_pos (gi_t h1 h2), if_pos (gi_t h1 h2)]
      · rw [if_neg h2, if_neg (gi_f2 h2), if_neg (gi_f2 h2), if_neg (gi_f2 h2)]
    · rw [if_neg h1, if00, if_neg (gi_f1 h1), if_neg (gi_f1 h1), if_neg (gi_f1 h1)]
theorem neg9_ne {c : Nat} (h : c < 8) : ¬ nI c = -9 := by
  intro e
  have h1 : (0 : Int32) ≤ nI c := nI_pos' (by omega)
  rw [e] at h1
  exact absurd h1 (by decide)
/-- a group, as the class looks at it and as the reference does -/
theorem look_c {n : Nat} (hn : n ≤ 6) {R s : Nat → Int32} (hR : RowP n R s) (g mp mk mv ml ma mr mw : Int32) :
    (fX3_look g mp mk mv ml ma mr mw R = some (0, -9, 0, -9, -9, mr, mw) ∧ fX11_present g (nI n) s = some 0) ∨
    ∃ (p vo la va : Int32) (c M : Nat), ¬ p = 0 ∧ s 30 = nI M ∧ M ≤ 8 ∧ c < M ∧ CfgK n (fun j => s (31 + c * 9 + j)) ∧ fX3_look g mp mk mv ml ma mr mw R = some (p, nI c, vo, la, va, s (31 + c * 9 + 6), s (31 + c * 9 + 7)) ∧ fX11_present g (nI n) s = some p ∧ fX11_greatest p 24 (nI n) s = some (nI c) ∧ fX11_greatest p 12 (nI n) s = some la ∧ fX11_votesOf p (nI (31 + c * 9)) (nI n) s = some vo ∧ fX11_data p (nI n) s = some va := by
  obtain ⟨hRR, M, m1, m2, m3, m4, m5, m6⟩ := hR
  have hRR0 := hRR
  obtain ⟨r1, r2, r3, r4⟩ := hRR
  have hgi : ∀ j, j < n → gi R g j = gi s g j := fun j hj => by unfold gi; rw [r1 j (by omega), r1 (6 + j) (by omega)]
  have hPe : fP (gi R g) n 0 0 = fP (gi s g) n 0 0 := by
    have go : ∀ (d i : Nat) (a : Int32), i + d ≤ n → fP (gi R g) d i a = fP (gi s g) d i a := by
      intro d
      induction d with
      | zero => intro i a h; rfl
      | succ d ih =>
        intro i a h
        show fP _ d (i + 1) _ = fP _ d (i + 1) _
        rw [hgi i (by omega)]
        exact ih (i + 1) _ (by omega)
    exact go n 0 0 (by omega)
  have hk : fM (gi R g) (fun j => R (24 + j)) n 0 (-9) = fM (gi s g) (fun j => s (24 + j)) n 0 (-9) := fM_congr n 0 (-9) (fun j _ hj => ⟨hgi j (by omega), r1 (24 + j) (by omega)⟩)
  have hla : fM (gi R g) (fun j => R (12 + j)) n 0 (-9) = fM (gi s g) (fun j => s (12 + j)) n 0 (-9) := fM_congr n 0 (-9) (fun j _ hj => ⟨hgi j (by omega), r1 (12 + j) (by omega)⟩)
  have hl : fX3_look g mp mk mv ml ma mr mw R = fX3_look_30 g R 1 (nI n) (fP (gi s g) n 0 0) (fM (gi s g) (fun j => s (24 + j)) n 0 (-9)) 0 (fM (gi s g) (fun j => s (12 + j)) n 0 (-9)) (-9) mr mw := by
    have h := sp_look30 r2 hn g 0 (-9) mr mw n fuel 0 0 (-9) (-9) (by omega) (fuel_gt (by omega))
    rw [hPe, hk, hla] at h
    exact h
  by_cases hnone : ∃ j, j < n ∧ gi s g j = true
  · right
    have hp : ¬ fP (gi s g) n 0 0 = 0 := by
      intro h
      obtain ⟨j, hj, hq⟩ := hnone
      have hb := fP_bit (q := gi s g) hn hj
      rw [h, b_0, hq] at hb
      cases hb
    obtain ⟨c, hc, ek⟩ := fM_known (q := gi s g) (V := fun j => s (24 + j)) m2 n 0 (-9) (Or.inl rfl) (fun j _ hj => m5 j (by omega)) (Or.inr (by
      obtain ⟨j, hj, hq⟩ := hnone
      exact ⟨j, by omega, by omega, hq⟩))
    have hbt : ∀ (V : Nat → Int32), fM (bt (fP (gi s g) n 0 0)) V n 0 (-9) = fM (gi s g) V n 0 (-9) := fun V => fM_congr n 0 (-9) (fun j _ hj => ⟨fP_bit hn (by omega), rfl⟩)
    refine ⟨fP (gi s g) n 0 0, fV (fun j => s (31 + c * 9 + j)) (fP (gi s g) n 0 0) n 0 0, fM (gi s g) (fun j => s (12 + j)) n 0 (-9), fF (bt (fP (gi s g) n 0 0)) (fun j => s (12 + j)) (fun j => s (18 + j)) (fM (gi s g) (fun j => s (12 + j)) n 0 (-9)) (-9) n 0, c, M, hp, m3, m2, hc, m6 c hc, ?_, rf_present hn g, ?_, ?_, rf_votesOf hn (by omega) _, ?_⟩
    · have hfv : fX3_findValue (fP (gi s g) n 0 0) (fM (gi s g) (fun j => s (12 + j)) n 0 (-9)) (-9) R = some (fF (bt (fP (gi s g) n 0 0)) (fun j => s (12 + j)) (fun j => s (18 + j)) (fM (gi s g) (fun j => s (12 + j)) n 0 (-9)) (-9) n 0) := by
        unfold fX3_findValue
        have h := sp_findValue2 r2 hn (fP (gi s g) n 0 0) (fM (gi s g) (fun j => s (12 + j)) n 0 (-9)) n fuel 0 (-9) (by omega) (fuel_gt (by omega))
        rw [if_pos rfl, fF_congr n 0 (fun j _ hj => ⟨rfl, r1 (12 + j) (by omega), r1 (18 + j) (by omega)⟩)] at h
        exact h
      rw [hl, fX3_look_30_s, sp_copies, bds, r2, if_pos (nI_le (Nat.le_refl n) (by omega)), if_neg hp, ek, sp_votesOfSet r2 hn (by omega), bds, sp_readOf (by omega), bds, sp_writeOf (by omega), bds, hfv, bds, cfg_votes hRR0 (by omega) hn, (r4 c (by omega)).2.2.1, (r4 c (by omega)).2.2.2]
    · rw [n24, rf_greatest hn (by decide), hbt, ek]
    · rw [n12, rf_greatest hn (by decide), hbt]
    · rw [rf_data hn, hbt]
  · left
    have hno : ∀ j, 0 ≤ j → j < 0 + n → ¬ gi s g j = true := fun j _ hj h => hnone ⟨j, by omega, h⟩
    have hp : fP (gi s g) n 0 0 = 0 := fP_none n 0 0 hno
    rw [fM_none n 0 (-9) hno, fM_none n 0 (-9) hno, hp] at hl
    refine ⟨?_, by rw [rf_present hn g, hp]⟩
    rw [hl, fX3_look_30_s, sp_copies, bds, r2, if_pos (nI_le (Nat.le_refl n) (by omega)), if_pos rfl]
theorem rf_isEnough {n : Nat} {s : Nat → Int32} {p vo : Int32} {c w : Nat} (hp : ¬ p = 0) (hc : c < 8) (hw : w ≤ 8) (h1 : fX11_greatest p 24 (nI n) s = some (nI c)) (h2 : fX11_votesOf p (nI (31 + c * 9)) (nI n) s = some vo) : fX11_isEnough p (nI w) (nI n) s = some (if vo < s (31 + c * 9 + w) then 0 else 1) := by
  unfold fX11_isEnough
  rw [if_neg hp, h1, bds, rf_confAt, bds, h2, bds, ixs, ckN (by omega) (by decide), nI_clamp (by omega)]
  by_cases h : vo < s (31 + c * 9 + w)
  · rw [if_pos h, if_pos h]
  · rw [if_neg h, if_neg h]
theorem sp_refusal {p vo va need : Int32} (hp : ¬ p = 0) (nd : Int32) : fX3_refusal need nd p vo va = some (if vo < need then -4 else if nd = 0 then 0 else if va = -9 then -5 else 0) := by
  unfold fX3_refusal
  rw [if_neg hp]
  by_cases h : need ≤ vo
  · rw [if_pos h, if_neg (Int32.not_lt.mpr h)]
    by_cases h2 : nd = 0
    · rw [if_pos h2, if_pos h2]
    · rw [if_neg h2, if_neg h2]
      by_cases h3 : va = -9
      · rw [if_pos h3, if_pos h3]
      · rw [if_neg h3, if_neg h3]
  · rw [if_neg h, if_pos (Int32.not_le.mp h)]
theorem sp_refusal0 (need nd vo va : Int32) : fX3_refusal need nd 0 vo va = some (-4) := rfl
