/-! PURE. The relation between the class's cells and the reference's -/
def vt (v : Nat → Nat) : Nat := v 0 + v 1 + v 2 + v 3 + v 4 + v 5
/-- a configuration of the reference's row: votes as naturals, none beyond the copies; what a read and a write take -/
def CfgK (n : Nat) (g : Nat → Int32) : Prop := ∃ v : Nat → Nat, (∀ j, j < 6 → v j ≤ 5 ∧ g j = nI (v j)) ∧ (∀ j, n ≤ j → j < 6 → v j = 0) ∧ ∃ r w : Nat, g 6 = nI r ∧ g 7 = nI w ∧ r ≤ 30 ∧ w ≤ 30 ∧ (0 < n → r ≤ vt v ∧ w ≤ vt v)
def RowK (n : Nat) (s : Nat → Int32) : Prop := ∃ M : Nat, 1 ≤ M ∧ M ≤ 8 ∧ s 30 = nI M ∧ (∀ c, c < n → s c = 0 ∨ s c = 1) ∧ (∀ c, c < n → ∃ k, k < M ∧ s (24 + c) = nI k) ∧ ∀ c, c < M → CfgK n (fun j => s (31 + c * 9 + j))
def RowR (n : Nat) (R s : Nat → Int32) : Prop := (∀ i, i < 30 → R i = s i) ∧ R 30 = nI n ∧ R 31 = s 30 ∧ ∀ c, c < 8 → (∀ j, j < 6 → R (32 + c * 9 + j) = s (31 + c * 9 + j)) ∧ R (32 + c * 9 + 6) = s (31 + c * 9 + 8) ∧ R (32 + c * 9 + 7) = s (31 + c * 9 + 6) ∧ R (32 + c * 9 + 8) = s (31 + c * 9 + 7)
def RowP (n : Nat) (R s : Nat → Int32) : Prop := RowR n R s ∧ RowK n s
def TextR (len : Int32) (A : Nat → Int32) (ty : Int32) (t : Nat → Int32) : Prop := ∃ k, k ≤ 120 ∧ len = nI k ∧ ty = nI k ∧ ∀ i, i < k → A i = t i ∧ ∃ b, b < 256 ∧ t i = nI b
def PastR (n : Nat) (next size : Int32) (P : Nat → Int32) (um : Int32) (U : Nat → Int32) : Prop := ∃ k q : Nat, k ≤ 10 ∧ q < 10 ∧ next = nI q ∧ size = nI k ∧ um = nI k ∧ ∀ t, t < k → RowP n (fun i => P ((q + 9 - t) % 10 * 104 + i)) (fun i => U ((k - 1 - t) * 103 + i))
def ImgR (n : Nat) (I K kp iK : Nat → Int32) : Prop := ∀ m, m < 2 → K m = iK m ∧ (K m = 0 ∨ (K m = 1 ∧ RowP n (fun i => I (m * 104 + i)) (fun i => kp (m * 103 + i))))
def SeenR (size : Int32) (ways enough : Nat → Int32) (sm : Int32) (sw si : Nat → Int32) : Prop := ∃ k, k ≤ 6 ∧ size = nI k ∧ sm = nI k ∧ ∀ i, i < k → ways i = sw i ∧ enough i = si i ∧ (sw i = 0 ∨ sw i = 1) ∧ (si i = 0 ∨ si i = 1)
def RelV : RelT := fun tl tA R pn ps P I K ss sw se vr ty t cp s um U kp iK sm sW sI ak =>
  ∃ n, n ≤ 6 ∧ cp = nI n ∧ TextR tl tA ty t ∧ RowP n R s ∧ PastR n pn ps P um U ∧ ImgR n I K kp iK ∧ SeenR ss sw se sm sW sI ∧ vr = ak
/-! numbers -/
theorem li (k : Nat) : (OfNat.ofNat k : Int32) = nI k := rfl
theorem n0 : (0 : Int32) = nI 0 := rfl
theorem n1 : (1 : Int32) = nI 1 := rfl
theorem n2 : (2 : Int32) = nI 2 := rfl
theorem n3 : (3 : Int32) = nI 3 := rfl
theorem n5 : (5 : Int32) = nI 5 := rfl
theorem n6 : (6 : Int32) = nI 6 := rfl
theorem n7 : (7 : Int32) = nI 7 := rfl
theorem n8 : (8 : Int32) = nI 8 := rfl
theorem n9 : (9 : Int32) = nI 9 := rfl
theorem n10 : (10 : Int32) = nI 10 := rfl
theorem n12 : (12 : Int32) = nI 12 := rfl
theorem n18 : (18 : Int32) = nI 18 := rfl
theorem n20 : (20 : Int32) = nI 20 := rfl
theorem n24 : (24 : Int32) = nI 24 := rfl
theorem n30 : (30 : Int32) = nI 30 := rfl
theorem n31 : (31 : Int32) = nI 31 := rfl
theorem n32 : (32 : Int32) = nI 32 := rfl
theorem n37 : (37 : Int32) = nI 37 := rfl
theorem n38 : (38 : Int32) = nI 38 := rfl
theorem n39 : (39 : Int32) = nI 39 := rfl
theorem n103 : (103 : Int32) = nI 103 := rfl
theorem n104 : (104 : Int32) = nI 104 := rfl
theorem n120 : (120 : Int32) = nI 120 := rfl
theorem n927 : (927 : Int32) = nI 927 := rfl
theorem ckN {α : Type} {n k : Nat} {K : Option α} (h : k < n) (hn : n < 2 ^ 31) : ckI n (nI k) K = K := ckI_in (vp_in_nI h hn)
theorem nsub1 {k : Nat} (h : 0 < k) : nI k - 1 = nI (k - 1) := by rw [n1]; exact pk_sub h
theorem nI_inj {a b : Nat} (ha : a < 2 ^ 31) (hb : b < 2 ^ 31) (h : nI a = nI b) : a = b := (nI_eq ha hb).mp h
/-- within: both sides' own test -/
theorem iw_eq (x a b : Int32) : fX11_in x a b = fX10_isWithin x a b := rfl
theorem iw (x a b : Int32) : (fX10_isWithin x a b = some 0 ∧ (x < a ∨ b < x)) ∨ (fX10_isWithin x a b = some 1 ∧ ¬ x < a ∧ ¬ b < x) := by
  unfold fX10_isWithin
  by_cases h1 : x < a
  · exact Or.inl ⟨if_pos h1, Or.inl h1⟩
  · by_cases h2 : b < x
    · exact Or.inl ⟨by rw [if_neg h1, if_pos h2], Or.inr h2⟩
    · exact Or.inr ⟨by rw [if_neg h1, if_neg h2], h1, h2⟩
theorem iw_nat {x : Int32} {a b : Nat} (ha : a < 2 ^ 31) (hb : b < 2 ^ 31) (h1 : ¬ x < nI a) (h2 : ¬ nI b < x) : ∃ j, a ≤ j ∧ j ≤ b ∧ x = nI j := by
  have h3 : nI a ≤ x := Int32.not_lt.mp h1
  have h4 : x ≤ nI b := Int32.not_lt.mp h2
  rw [Int32.le_iff_toInt_le, nI_toInt ha] at h3
  rw [Int32.le_iff_toInt_le, nI_toInt hb] at h4
  refine ⟨x.toInt.toNat, by omega, by omega, ?_⟩
  apply Int32.toInt_inj.mp
  rw [nI_toInt (by omega)]
  omega
theorem zc0 {α : Type} {k : Option α} : zcI 0 k = k := rfl
theorem zc1 {α : Type} {k : Option α} : zcI 1 k = k := rfl
theorem if00 {α : Type} {a b : α} : (if (0 : Int32) = 0 then a else b) = a := rfl
theorem if10 {α : Type} {a b : α} : (if (1 : Int32) = 0 then a else b) = b := rfl
theorem bds {α β : Type} {x : α} {k : α → Option β} : bd1 (some x) k = k x := rfl
/-- is it a group, a copy -/
theorem isGroup_eq (x : Int32) : fX11_isGroup x = fX10_isGroup x := rfl
theorem isGroup_c (x : Int32) : fX10_isGroup x = some 0 ∨ (fX10_isGroup x = some 1 ∧ ∃ j, j ≤ 2 ∧ x = nI j) := by
  unfold fX10_isGroup
  rcases iw x 0 2 with ⟨e, -⟩ | ⟨e, h1, h2⟩
  · left; rw [e]; rfl
  · right
    refine ⟨by rw [e]; rfl, ?_⟩
    obtain ⟨j, -, h, e⟩ := iw_nat (a := 0) (b := 2) (by decide) (by decide) h1 h2
    exact ⟨j, h, e⟩
