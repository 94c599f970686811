/-! PURE. file: items -/
/-- what is told so far, by the class and in the reference's draft -/
def DR (c : Nat) (wi rd wr : Int32) (vo dr : Nat → Int32) : Prop :=
  c ≤ 6 ∧ (∀ j, j < c → dr j = 1 ∧ dr (18 + j) = (if bt wi j = true then -9 else 0) ∧ ∃ v, v ≤ 5 ∧ vo j = nI v ∧ dr (31 + j) = nI v) ∧ (∀ j, c ≤ j → j < 6 → dr j = 0 ∧ dr (18 + j) = 0 ∧ dr (31 + j) = 0) ∧ (∀ j, c ≤ j → j < 32 → bt wi j = false) ∧ (∃ r, r ≤ 30 ∧ rd = nI r ∧ dr 37 = nI r) ∧ (∃ w, w ≤ 30 ∧ wr = nI w ∧ dr 38 = nI w) ∧ dr 39 = wi ∧ dr 30 = 1 ∧ (∀ j, j < 103 → (6 ≤ j ∧ j < 18 ∨ 24 ≤ j ∧ j < 30 ∨ 40 ≤ j) → dr j = 0)
theorem rf_begins2 (dc : Int32) : ∀ (d f i : Nat) (dr : Nat → Int32), i + d = 103 → d < f → (∀ j, j < i → dr j = 0) → ∃ dr', fX11_begins_2 f (nI i) dc dr = some (0, dr') ∧ dr' 30 = 1 ∧ ∀ j, j < 103 → ¬ j = 30 → dr' j = 0 := by
  intro d
  induction d with
  | zero =>
    intro f i dr hi hf h
    obtain ⟨f, rfl⟩ : ∃ g, f = g + 1 := ⟨f - 1, by omega⟩
    refine ⟨upd dr 30 1, ?_, pk_us, fun j hj hn => ?_⟩
    · rw [fX11_begins_2_s, n103, if_pos (nI_le (by omega) (by omega)), n30, ckN (by decide) (by decide), nI_clamp (by decide)]
    · rw [pk_un hn]; exact h j (by omega)
  | succ d ih =>
    intro f i dr hi hf h
    obtain ⟨f, rfl⟩ : ∃ g, f = g + 1 := ⟨f - 1, by omega⟩
    rw [fX11_begins_2_s, n103, if_neg (nI_ge (by omega) (by omega)), ckN (by omega) (by decide), nI_clamp (by omega), nI_1]
    refine ih f (i + 1) _ (by omega) (by omega) (fun j hj => ?_)
    by_cases q : j = i
    · subst q; rw [pk_us]
    · rw [pk_un q]; exact h j (by omega)
theorem rf_begins (dc : Int32) (dr vo : Nat → Int32) : ∃ dr', fX11_begins dc dr = some (0, dr') ∧ DR 0 0 0 0 vo dr' := by
  obtain ⟨dr', e, h1, h2⟩ := rf_begins2 dc 103 fuel 0 dr (by omega) (fuel_gt (by omega)) (fun j hj => absurd hj (by omega))
  refine ⟨dr', e, by decide, fun j hj => absurd hj (by omega), fun j _ hj => ⟨h2 j (by omega) (by omega), h2 _ (by omega) (by omega), h2 _ (by omega) (by omega)⟩, fun j _ _ => b_0 j, ⟨0, by decide, rfl, h2 37 (by decide) (by decide)⟩, ⟨0, by decide, rfl, h2 38 (by decide) (by decide)⟩, h2 39 (by decide) (by decide), h1, fun j hj hc => h2 j hj (by omega)⟩
/-! taking a token -/
theorem well1 : fX11_isWell (-1) = some 1 := rfl
theorem wellF {p : Nat} (hp : p < 2 ^ 31) : fX11_isWell (nI p) = some 0 := by unfold fX11_isWell; rw [if_pos (nI_pos' hp)]
theorem rf_take0 (ty sp tok pl val : Int32) (t : Nat → Int32) : fX11_takes 0 ty sp tok pl val (-1) t = some (0, sp, tok, pl, val, pl) := by
  unfold fX11_takes
  rw [well1, bds, if10, if00]
theorem rf_take1 (ty sp tok pl val : Int32) (t : Nat → Int32) {a b c d : Int32} (h : fX11_advances ty sp tok pl val t = some (a, b, c, d)) : fX11_takes 1 ty sp tok pl val (-1) t = some (val, a, b, c, d, -1) := by
  unfold fX11_takes
  rw [well1, bds, if10, if10, h, bd4_in rfl]
theorem rf_takeF (x ty sp tok pl val : Int32) (t : Nat → Int32) {p : Nat} (hp : p < 2 ^ 31) : fX11_takes x ty sp tok pl val (nI p) t = some (0, sp, tok, pl, val, nI p) := by
  unfold fX11_takes
  rw [wellF hp, bds, if00]
/-! after a fault -/
def RefBad (o : Option (Int32 × Int32 × Int32 × Int32 × Int32 × Int32 × Int32 × Int32 × Int32 × Int32 × Int32 × Int32 × (Nat → Int32) × (Nat → Int32) × (Nat → Int32))) (p : Nat) (ty cp um sm : Int32) (s ik : Nat → Int32) : Prop := ∃ (sp tok pl val fa dc : Int32) (dr : Nat → Int32), o = some (-10 - nI p, 0, ty, sp, tok, pl, val, fa, cp, dc, um, sm, dr, s, ik)
theorem rf_bad174 {p : Nat} (hp : p < 2 ^ 31) (t : Nat → Int32) (it ty sp tok pl val cp dc um sm : Int32) (dr s ik : Nat → Int32) : RefBad (fX11_file_174 t it 0 ty sp tok pl val (nI p) cp dc um sm dr s ik) p ty cp um sm s ik := by
  refine ⟨sp, tok, pl, val, nI p, dc, dr, ?_⟩
  unfold fX11_file_174
  rw [wellF hp, bds, if00]
theorem rf_bad25 {p : Nat} (hp : p < 2 ^ 31) (t : Nat → Int32) (f : Nat) (it ty sp tok pl val cp dc um sm : Int32) (dr s ik : Nat → Int32) : RefBad (fX11_file_25 t (f + 1) it 0 ty sp tok pl val (nI p) cp dc um sm dr s ik) p ty cp um sm s ik := by
  rw [fX11_file_25_s, wellF hp, bds, if00]
  unfold fX11_file_100
  rw [wellF hp, bds, if00]
  unfold fX11_file_130
  rw [wellF hp, bds, if00]
  exact rf_bad174 hp t it ty sp tok pl val cp dc um sm dr s ik
theorem rf_bad76 {p : Nat} (hp : p < 2 ^ 31) (t : Nat → Int32) (f : Nat) (it ty sp tok pl val cp dc um sm : Int32) (dr s ik : Nat → Int32) : RefBad (fX11_file_76 (fX11_file_25 t (f + 1)) t it 0 ty sp tok pl val (nI p) cp dc um sm dr s ik) p ty cp um sm s ik := by
  unfold fX11_file_76
  by_cases q : tok = 3
  · rw [if_pos q, rf_takeF 1 ty sp tok pl val t hp, bd6_in rfl]
    exact rf_bad25 hp t f _ ty sp tok pl val cp dc um sm dr s ik
  · rw [if_neg q, rf_takeF 0 ty sp tok pl val t hp, bd6_in rfl]
    exact rf_bad25 hp t f _ ty sp tok pl val cp dc um sm dr s ik
theorem rf_bad60 {st : Nat} (hp : st < 2 ^ 31) (t : Nat → Int32) (f : Nat) (it ty sp tok val cp dc um sm : Int32) (dr s ik : Nat → Int32) : RefBad (fX11_file_60 (fX11_file_25 t (f + 1)) t it 0 0 ty sp tok (nI st) val (-1) cp dc um sm dr s ik) st ty cp um sm s ik := by
  unfold fX11_file_60
  rw [rf_take0, bd6_in rfl, wellF hp, bds, if00]
  exact rf_bad76 hp t f it ty sp tok (nI st) val cp dc um sm dr s ik
/-! may an item begin so -/
theorem may_eq {w c : Nat} (h1 : 1 ≤ w) (h4 : w ≤ 4) (hc : c ≤ 6) {rd wr : Int32} {dr : Nat → Int32} (e7 : dr 37 = rd) (e8 : dr 38 = wr) : fX11_mayBegin (nI w) (nI c) dr = fX8_mayBegin (nI w) (nI c) rd wr ∧ (fX8_mayBegin (nI w) (nI c) rd wr = some 0 ∨ (fX8_mayBegin (nI w) (nI c) rd wr = some 1 ∧ (w ≤ 2 → c < 6))) := by
  have a7 : ∀ {α : Type} (K : Option α), ckI 103 ((31 : Int32) + (6 : Int32)) K = K := fun K => ckN (k := 37) (by decide) (by decide)
  have a8 : ∀ {α : Type} (K : Option α), ckI 103 ((31 : Int32) + (7 : Int32)) K = K := fun K => ckN (k := 38) (by decide) (by decide)
  have c7 : Int32.toNatClampNeg ((31 : Int32) + (6 : Int32)) = 37 := rfl
  have c8 : Int32.toNatClampNeg ((31 : Int32) + (7 : Int32)) = 38 := rfl
  have small : ∀ z : Int32, z = nI w → w ≤ 2 → fX11_mayBegin (nI w) (nI c) dr = (if (6 : Int32) ≤ nI c then some 0 else some 1) := by
    intro z _ hw
    unfold fX11_mayBegin
    rw [n3, if_neg (nI_ge (by omega) (by decide))]
  unfold fX8_mayBegin
  rcases (show w = 1 ∨ w = 2 ∨ w = 3 ∨ w = 4 by omega) with rfl | rfl | rfl | rfl
  · rw [small _ rfl (by decide), if_pos (show nI 1 = 1 from rfl)]
    refine ⟨rfl, ?_⟩
    by_cases q : c < 6
    · rw [n6, if_neg (nI_ge q (by decide))]; exact Or.inr ⟨rfl, fun _ => q⟩
    · rw [n6, if_pos (nI_le (by omega) (by omega))]; exact Or.inl rfl
  · rw [small _ rfl (by decide), if_neg (show ¬ nI 2 = 1 by decide), if_pos (show nI 2 = 2 from rfl)]
    refine ⟨rfl, ?_⟩
    by_cases q : c < 6
    · rw [n6, if_neg (nI_ge q (by decide))]; exact Or.inr ⟨rfl, fun _ => q⟩
    · rw [n6, if_pos (nI_le (by omega) (by omega))]; exact Or.inl rfl
  · unfold fX11_mayBegin
    rw [if_pos (show (3 : Int32) ≤ nI 3 by decide), if_pos (show nI 3 = 3 from rfl), a7, c7, e7, if_neg (show ¬ nI 3 = 1 by decide), if_neg (show ¬ nI 3 = 2 by decide), if_pos (show nI 3 = 3 from rfl)]
    refine ⟨rfl, ?_⟩
    by_cases q : rd = 0
    · rw [if_pos q]; exact Or.inr ⟨rfl, fun z => absurd z (by decide)⟩
    · rw [if_neg q]; exact Or.inl rfl
  · unfold fX11_mayBegin
    rw [if_pos (show (3 : Int32) ≤ nI 4 by decide), if_neg (show ¬ nI 4 = 3 by decide), a8, c8, e8, if_neg (show ¬ nI 4 = 1 by decide), if_neg (show ¬ nI 4 = 2 by decide), if_neg (show ¬ nI 4 = 3 by decide), if_pos (show nI 4 = 4 from rfl)]
    refine ⟨rfl, ?_⟩
    by_cases q : wr = 0
    · rw [if_pos q]; exact Or.inr ⟨rfl, fun z => absurd z (by decide)⟩
    · rw [if_neg q]; exact Or.inl rfl
/-- the bounds of an item's number -/
def lo (w : Nat) : Nat := if w ≤ 2 then 0 else 1
def hi (w : Nat) : Nat := if w ≤ 2 then 5 else 30
theorem sp_follow {w m : Nat} (h1 : 1 ≤ w) (h4 : w ≤ 4) (hm : m ≤ 99) : fX8_mayFollow (nI w) (nI m) = some (if lo w ≤ m ∧ m ≤ hi w then 1 else 0) := by
  have z : ∀ x : Int32, (x = 0 ∨ x = 1) → zcI x (some x) = some x := fun x hx => by rcases hx with rfl | rfl <;> rfl
  have go : ∀ a b : Nat, a < 2 ^ 31 → b < 2 ^ 31 → bd1 (fX10_isWithin (nI m) (nI a) (nI b)) (fun jr => zcI jr (some jr)) = some (if a ≤ m ∧ m ≤ b then 1 else 0) := by
    intro a b ha hb
    rw [iwN (by omega) ha hb, bds, z]
    by_cases q : a ≤ m ∧ m ≤ b
    · rw [if_pos q]; exact Or.inr rfl
    · rw [if_neg q]; exact Or.inl rfl
  unfold fX8_mayFollow
  rcases (show w = 1 ∨ w = 2 ∨ w = 3 ∨ w = 4 by omega) with rfl | rfl | rfl | rfl
  · exact go 0 5 (by decide) (by decide)
  · exact go 0 5 (by decide) (by decide)
  · exact go 1 30 (by decide) (by decide)
  · exact go 1 30 (by decide) (by decide)
/-- the reference's number: taken, or a fault -/
theorem rf_num_bad {kind number token value : Int32} (hT : Tok kind number token value) {a b : Nat} (ha : a < 2 ^ 31) (hb : b < 2 ^ 31) (hn : ∀ m : Nat, m ≤ 99 → kind = 5 → number = nI m → ¬ (a ≤ m ∧ m ≤ b)) (ty sp : Int32) (st : Nat) (t : Nat → Int32) : fX11_number (nI a) (nI b) ty sp token (nI st) value (-1) t = some (0, sp, token, nI st, value, nI st) := by
  have no : ¬ token = 2 → fX11_number (nI a) (nI b) ty sp token (nI st) value (-1) t = some (0, sp, token, nI st, value, nI st) := fun q => by
    unfold fX11_number
    rw [if_neg q, rf_take0, bd6_in rfl]
  rcases hT with ⟨-, rfl⟩ | ⟨w, -, -, -, rfl, -⟩ | ⟨k5, rfl, m, hm, e1, rfl⟩ | ⟨-, rfl⟩ | ⟨-, rfl⟩
  · exact no (by decide)
  · exact no (by decide)
  · unfold fX11_number
    rw [if_pos (show (2 : Int32) = 2 from rfl), iw_eq, iwN (by omega) ha hb, bds, if_neg (hn m hm k5 e1), if00, rf_take0, bd6_in rfl]
  · exact no (by decide)
  · exact no (by decide)
theorem rf_num_ok {a b m : Nat} (hm : m ≤ 99) (ha : a < 2 ^ 31) (hb : b < 2 ^ 31) (hq : a ≤ m ∧ m ≤ b) (ty sp pl : Int32) (t : Nat → Int32) {x1 x2 x3 x4 : Int32} (hA : fX11_advances ty sp 2 pl (nI m) t = some (x1, x2, x3, x4)) : fX11_number (nI a) (nI b) ty sp 2 pl (nI m) (-1) t = some (nI m, x1, x2, x3, x4, -1) := by
  unfold fX11_number
  rw [if_pos (show (2 : Int32) = 2 from rfl), iw_eq, iwN (by omega) ha hb, bds, if_pos hq, if10, rf_take1 ty sp 2 pl (nI m) t hA, bd6_in rfl]
