/-! PURE. file: the tokens of the text -/
def TT (k : Nat) (A t : Nat → Int32) (B : Nat → Nat) : Prop := k ≤ 120 ∧ ∀ i, i < k → A i = nI (B i) ∧ t i = nI (B i) ∧ B i < 256
theorem iwN {b lo hi : Nat} (hb : b < 2 ^ 31) (hlo : lo < 2 ^ 31) (hhi : hi < 2 ^ 31) : fX10_isWithin (nI b) (nI lo) (nI hi) = some (if lo ≤ b ∧ b ≤ hi then 1 else 0) := by
  unfold fX10_isWithin
  by_cases h1 : lo ≤ b
  · rw [if_neg (nI_nlt h1 hb)]
    by_cases h2 : b ≤ hi
    · rw [if_neg (nI_nlt h2 hhi), if_pos ⟨h1, h2⟩]
    · rw [if_pos (nI_lt (by omega) hb), if_neg (fun q => h2 q.2)]
  · rw [if_pos (nI_lt (by omega) hlo), if_neg (fun q => h1 q.1)]
theorem n48 : (48 : Int32) = nI 48 := rfl
theorem n57 : (57 : Int32) = nI 57 := rfl
theorem n59 : (59 : Int32) = nI 59 := rfl
theorem n97 : (97 : Int32) = nI 97 := rfl
theorem n99 : (99 : Int32) = nI 99 := rfl
theorem n100 : (100 : Int32) = nI 100 := rfl
theorem n122 : (122 : Int32) = nI 122 := rfl
theorem n4 : (4 : Int32) = nI 4 := rfl
theorem sp_at {k : Nat} {A t : Nat → Int32} {B : Nat → Nat} (h : TT k A t B) {i : Nat} (hi : i < k) : fX2_at (nI i) (nI k) A = some (nI (B i)) := by
  have hk := h.1
  unfold fX2_at
  rw [if_neg (nI_pos (by omega)), if_neg (nI_ge hi (by omega)), ckN (by omega) (by decide), nI_clamp (by omega), (h.2 i hi).1]
theorem rf_at {k : Nat} {A t : Nat → Int32} {B : Nat → Nat} (h : TT k A t B) {i : Nat} (hi : i < k) : fX11_letterAt (nI i) (nI k) t = some (nI (B i)) := by
  have hk := h.1
  unfold fX11_letterAt
  rw [if_neg (nI_ge hi (by omega)), ckN (by omega) (by decide), nI_clamp (by omega), (h.2 i hi).2.1]
theorem rf_atE {k i : Nat} {t : Nat → Int32} (hi : k ≤ i) (h2 : i < 2 ^ 31) : fX11_letterAt (nI i) (nI k) t = some (-1) := by
  unfold fX11_letterAt
  rw [if_pos (nI_le hi h2)]
theorem sp_small {b : Nat} (hb : b < 256) : fX9_isSmall (nI b) = some (if 97 ≤ b ∧ b ≤ 122 then 1 else 0) := by
  unfold fX9_isSmall
  rw [n97, n122, iwN (by omega) (by decide) (by decide), bds]
  by_cases q : 97 ≤ b ∧ b ≤ 122
  · rw [if_pos q, zc1]
  · rw [if_neg q, zc0]
theorem sp_digit {b : Nat} (hb : b < 256) : fX9_isDigit (nI b) = some (if 48 ≤ b ∧ b ≤ 57 then 1 else 0) := by
  unfold fX9_isDigit
  rw [n48, n57, iwN (by omega) (by decide) (by decide), bds]
  by_cases q : 48 ≤ b ∧ b ≤ 57
  · rw [if_pos q, zc1]
  · rw [if_neg q, zc0]
theorem rf_small {b : Nat} (hb : b < 256) : fX11_in (nI b) 97 122 = some (if 97 ≤ b ∧ b ≤ 122 then 1 else 0) := by rw [iw_eq, n97, n122, iwN (by omega) (by decide) (by decide)]
theorem rf_digit {b : Nat} (hb : b < 256) : fX11_in (nI b) 48 57 = some (if 48 ≤ b ∧ b ≤ 57 then 1 else 0) := by rw [iw_eq, n48, n57, iwN (by omega) (by decide) (by decide)]
/-! words -/
def mtb (B : Nat → Nat) (js st : Nat) : Nat → Nat → Bool
  | 0, _ => true
  | d + 1, i => decide (stC js i = nI (B (st + i))) && mtb B js st d (i + 1)
theorem mtb_s (B : Nat → Nat) (js st d i : Nat) : mtb B js st (d + 1) i = (decide (stC js i = nI (B (st + i))) && mtb B js st d (i + 1)) := rfl
def wd (B : Nat → Nat) (js st e : Nat) : Bool := decide (stL js = e - st) && mtb B js st (stL js) 0
theorem sp_spells20 {k : Nat} {A t : Nat → Int32} {B : Nat → Nat} (h : TT k A t B) {js st : Nat} (be : Int32) (he : st + stL js ≤ k) : ∀ (d f i : Nat), i + d = stL js → d < f → fX9_spells_20 js (nI st) be (nI k) A f (nI i) = some (if mtb B js st d i = true then 1 else 0) := by
  have hk := h.1
  have hl := stL_lt js
  intro d
  induction d with
  | zero =>
    intro f i hi hf
    obtain ⟨f, rfl⟩ : ∃ g, f = g + 1 := ⟨f - 1, by omega⟩
    rw [fX9_spells_20_s, if_pos (nI_le (by omega) (by omega))]
    rfl
  | succ d ih =>
    intro f i hi hf
    obtain ⟨f, rfl⟩ : ∃ g, f = g + 1 := ⟨f - 1, by omega⟩
    rw [fX9_spells_20_s, if_neg (nI_ge (by omega) (by omega)), ckN (by omega) (by omega), ixs, sp_at h (by omega), bds, nI_clamp (by omega), nI_1, ih f (i + 1) (by omega) (by omega), mtb_s]
    by_cases q : stC js i = nI (B (st + i))
    · rw [if_pos q, decide_eq_true q, Bool.true_and]
    · rw [if_neg q, decide_eq_false q, Bool.false_and, if_neg (show ¬ false = true by decide)]
theorem sp_spells {k : Nat} {A t : Nat → Int32} {B : Nat → Nat} (h : TT k A t B) (js : Nat) {st e : Nat} (h1 : st ≤ e) (h2 : e ≤ k) : fX9_spells js (nI st) (nI e) (nI k) A = some (if wd B js st e = true then 1 else 0) := by
  have hk := h.1
  have hl := stL_lt js
  unfold fX9_spells wd
  rw [pk_sub h1]
  by_cases q : stL js = e - st
  · rw [if_pos (congrArg nI q), decide_eq_true q, Bool.true_and]
    exact sp_spells20 h (nI e) (by omega) (stL js) fuel 0 (by omega) (fuel_gt (by omega))
  · rw [if_neg (fun z => q (nI_inj (by omega) (by omega) z)), decide_eq_false q, Bool.false_and, if_neg (show ¬ false = true by decide)]
theorem ed {a b : Int32} (h : ¬ b = a) : decide (a = b) = false := decide_eq_false (fun q => h q.symm)
theorem fz {α : Type} {x y : α} : (if false = true then x else y) = y := if_neg (by decide)
theorem row4 {k : Nat} {A t : Nat → Int32} {B : Nat → Nat} (h : TT k A t B) {st : Nat} (h4 : st + 4 ≤ k) (a b c d : Int32) : fX11_isRow a b c d 0 0 0 (nI k) (nI st) t = some (if (decide (a = nI (B (st + 0))) && (decide (b = nI (B (st + 1))) && (decide (c = nI (B (st + 2))) && (decide (d = nI (B (st + 3))) && true)))) = true then 1 else 0) := by
  unfold fX11_isRow fX11_isRow_75
  rw [n1, n2, n3, ixs, ixs, ixs, rf_at h (by omega), bds, rf_at h (by omega), bds, rf_at h (by omega), bds, rf_at h (by omega), bds, show decide (a = nI (B (st + 0))) = decide (a = nI (B st)) from rfl]
  by_cases q0 : nI (B st) = a
  · rw [if_pos q0, decide_eq_true q0.symm, Bool.true_and]
    by_cases q1 : nI (B (st + 1)) = b
    · rw [if_pos q1, decide_eq_true q1.symm, Bool.true_and]
      by_cases q2 : nI (B (st + 2)) = c
      · rw [if_pos q2, decide_eq_true q2.symm, Bool.true_and]
        by_cases q3 : nI (B (st + 3)) = d
        · rw [if_pos q3, decide_eq_true q3.symm, Bool.true_and]; rfl
        · rw [if_neg q3, ed q3, Bool.false_and, fz]
      · rw [if_neg q2, ed q2, Bool.false_and, fz]
    · rw [if_neg q1, ed q1, Bool.false_and, fz]
  · rw [if_neg q0, ed q0, Bool.false_and, fz]
theorem row5 {k : Nat} {A t : Nat → Int32} {B : Nat → Nat} (h : TT k A t B) {st : Nat} (h4 : st + 5 ≤ k) (a b c d e : Int32) (he : ¬ e = 0) : fX11_isRow a b c d e 0 0 (nI k) (nI st) t = some (if (decide (a = nI (B (st + 0))) && (decide (b = nI (B (st + 1))) && (decide (c = nI (B (st + 2))) && (decide (d = nI (B (st + 3))) && (decide (e = nI (B (st + 4))) && true))))) = true then 1 else 0) := by
  unfold fX11_isRow fX11_isRow_75
  rw [n1, n2, n3, n4, ixs, ixs, ixs, ixs, rf_at h (by omega), bds, rf_at h (by omega), bds, rf_at h (by omega), bds, rf_at h (by omega), bds, rf_at h (by omega), bds, show decide (a = nI (B (st + 0))) = decide (a = nI (B st)) from rfl, if_neg he]
  by_cases q0 : nI (B st) = a
  · rw [if_pos q0, decide_eq_true q0.symm, Bool.true_and]
    by_cases q1 : nI (B (st + 1)) = b
    · rw [if_pos q1, decide_eq_true q1.symm, Bool.true_and]
      by_cases q2 : nI (B (st + 2)) = c
      · rw [if_pos q2, decide_eq_true q2.symm, Bool.true_and]
        by_cases q3 : nI (B (st + 3)) = d
        · rw [if_pos q3, decide_eq_true q3.symm, Bool.true_and]
          by_cases q4 : nI (B (st + 4)) = e
          · rw [if_pos q4, decide_eq_true q4.symm, Bool.true_and]; rfl
          · rw [if_neg q4, ed q4, Bool.false_and, fz]
        · rw [if_neg q3, ed q3, Bool.false_and, fz]
      · rw [if_neg q2, ed q2, Bool.false_and, fz]
    · rw [if_neg q1, ed q1, Bool.false_and, fz]
  · rw [if_neg q0, ed q0, Bool.false_and, fz]
theorem row7 {k : Nat} {A t : Nat → Int32} {B : Nat → Nat} (h : TT k A t B) {st : Nat} (h4 : st + 7 ≤ k) (a b c d e f g : Int32) (he : ¬ e = 0) (hf : ¬ f = 0) : fX11_isRow a b c d e f g (nI k) (nI st) t = some (if (decide (a = nI (B (st + 0))) && (decide (b = nI (B (st + 1))) && (decide (c = nI (B (st + 2))) && (decide (d = nI (B (st + 3))) && (decide (e = nI (B (st + 4))) && (decide (f = nI (B (st + 5))) && (decide (g = nI (B (st + 6))) && true))))))) = true then 1 else 0) := by
  unfold fX11_isRow fX11_isRow_75
  rw [n1, n2, n3, n4, n5, n6, ixs, ixs, ixs, ixs, ixs, ixs, rf_at h (by omega), bds, rf_at h (by omega), bds, rf_at h (by omega), bds, rf_at h (by omega), bds, rf_at h (by omega), bds, rf_at h (by omega), bds, rf_at h (by omega), bds, show decide (a = nI (B (st + 0))) = decide (a = nI (B st)) from rfl, if_neg he, if_neg hf]
  by_cases q0 : nI (B st) = a
  · rw [if_pos q0, decide_eq_true q0.symm, Bool.true_and]
    by_cases q1 : nI (B (st + 1)) = b
    · rw [if_pos q1, decide_eq_true q1.symm, Bool.true_and]
      by_cases q2 : nI (B (st + 2)) = c
      · rw [if_pos q2, decide_eq_true q2.symm, Bool.true_and]
        by_cases q3 : nI (B (st + 3)) = d
        · rw [if_pos q3, decide_eq_true q3.symm, Bool.true_and]
          by_cases q4 : nI (B (st + 4)) = e
          · rw [if_pos q4, decide_eq_true q4.symm, Bool.true_and]
            by_cases q5 : nI (B (st + 5)) = f
            · rw [if_pos q5, decide_eq_true q5.symm, Bool.true_and]
              by_cases q6 : nI (B (st + 6)) = g
              · rw [if_pos q6, decide_eq_true q6.symm, Bool.true_and]; rfl
              · rw [if_neg q6, ed q6, Bool.false_and, fz]
            · rw [if_neg q5, ed q5, Bool.false_and, fz]
          · rw [if_neg q4, ed q4, Bool.false_and, fz]
        · rw [if_neg q3, ed q3, Bool.false_and, fz]
      · rw [if_neg q2, ed q2, Bool.false_and, fz]
    · rw [if_neg q1, ed q1, Bool.false_and, fz]
  · rw [if_neg q0, ed q0, Bool.false_and, fz]
theorem rowC {k : Nat} {A t : Nat → Int32} {B : Nat → Nat} (h : TT k A t B) {st : Nat} (h4 : st + 4 ≤ k) : fX11_isRow 99 111 112 121 0 0 0 (nI k) (nI st) t = some (if mtb B 0 st 4 0 = true then 1 else 0) := row4 h h4 99 111 112 121
theorem rowR {k : Nat} {A t : Nat → Int32} {B : Nat → Nat} (h : TT k A t B) {st : Nat} (h4 : st + 4 ≤ k) : fX11_isRow 114 101 97 100 0 0 0 (nI k) (nI st) t = some (if mtb B 2 st 4 0 = true then 1 else 0) := row4 h h4 114 101 97 100
theorem rowW {k : Nat} {A t : Nat → Int32} {B : Nat → Nat} (h : TT k A t B) {st : Nat} (h4 : st + 5 ≤ k) : fX11_isRow 119 114 105 116 101 0 0 (nI k) (nI st) t = some (if mtb B 3 st 5 0 = true then 1 else 0) := row5 h h4 119 114 105 116 101 (by decide)
theorem rowX {k : Nat} {A t : Nat → Int32} {B : Nat → Nat} (h : TT k A t B) {st : Nat} (h4 : st + 7 ≤ k) : fX11_isRow 119 105 116 110 101 115 115 (nI k) (nI st) t = some (if mtb B 1 st 7 0 = true then 1 else 0) := row7 h h4 119 105 116 110 101 115 115 (by decide) (by decide)
/-- what a word is -/
def WordR (kind token value : Int32) : Prop := (∃ w : Nat, 1 ≤ w ∧ w ≤ 4 ∧ kind = nI w ∧ token = 1 ∧ value = nI w) ∨ (kind = 7 ∧ token = 4)
def rdE (k st : Nat) (t : Nat → Int32) (e : Nat) (tok val : Int32) : Option (Int32 × Int32 × Int32) := if (nI e - nI st) = (4 : Int32) then bd1 (fX11_isRow (99 : Int32) (111 : Int32) (112 : Int32) (121 : Int32) (0 : Int32) (0 : Int32) (0 : Int32) (nI k) (nI st) t) (fun jr7 => if jr7 = 0 then fX11_reads_69 (nI k) (nI st) t (nI e - nI st) (nI e) tok val else fX11_reads_156 (nI k) (nI st) t (1 : Int32) (nI e) tok val) else fX11_reads_69 (nI k) (nI st) t (nI e - nI st) (nI e) tok val
theorem wdN {B : Nat → Nat} {js st e : Nat} (h : ¬ stL js = e - st) : ¬ wd B js st e = true := by unfold wd; rw [decide_eq_false h, Bool.false_and]; decide
theorem wdY {B : Nat → Nat} {js st e : Nat} (h : stL js = e - st) : wd B js st e = mtb B js st (stL js) 0 := by unfold wd; rw [decide_eq_true h, Bool.true_and]
theorem word_end {k : Nat} {A t : Nat → Int32} {B : Nat → Nat} (h : TT k A t B) {st e : Nat} (h1 : st ≤ e) (h2 : e ≤ k) (kd tok val : Int32) : ∃ kind token value, fX9_takeWord_44 (nI st) (nI k) A kd (nI e) = some (kind, nI e) ∧ rdE k st t e tok val = some (nI e, token, value) ∧ WordR kind token value := by
  have hk := h.1
  have hc : fX9_takeWord_44 (nI st) (nI k) A kd (nI e) = some (if wd B 0 st e = true then 1 else if wd B 1 st e = true then 2 else if wd B 2 st e = true then 3 else if wd B 3 st e = true then 4 else 7, nI e) := by
    unfold fX9_takeWord_44
    rw [sp_spells h 0 h1 h2, bds, sp_spells h 1 h1 h2, bds, sp_spells h 2 h1 h2, bds, sp_spells h 3 h1 h2, bds]
    by_cases q0 : wd B 0 st e = true
    · rw [if_pos q0, if10, if_pos q0]
    · rw [if_neg q0, if00, if_neg q0]
      by_cases q1 : wd B 1 st e = true
      · rw [if_pos q1, if10, if_pos q1]
      · rw [if_neg q1, if00, if_neg q1]
        by_cases q2 : wd B 2 st e = true
        · rw [if_pos q2, if10, if_pos q2]
        · rw [if_neg q2, if00, if_neg q2]
          by_cases q3 : wd B 3 st e = true
          · rw [if_pos q3, if10, if_pos q3]
          · rw [if_neg q3, if00, if_neg q3]
  rw [hc]
  unfold rdE fX11_reads_69 fX11_reads_100 fX11_reads_127 fX11_reads_156
  rw [pk_sub h1]
  have l0 : stL 0 = 4 := rfl
  have l1 : stL 1 = 7 := rfl
  have l2 : stL 2 = 4 := rfl
  have l3 : stL 3 = 5 := rfl
  have ne : ∀ m : Nat, m < 8 → ¬ e - st = m → ¬ nI (e - st) = nI m := fun m hm q z => q (nI_inj (by omega) (by omega) z)
  by_cases q4 : e - st = 4
  · rw [if_pos (show nI (e - st) = 4 from congrArg nI q4), rowC h (by omega), bds, if_neg (show ¬ nI (e - st) = 7 from ne 7 (by decide) (by omega)), if_pos (show nI (e - st) = 4 from congrArg nI q4), rowR h (by omega), bds, if_neg (show ¬ nI (e - st) = 5 from ne 5 (by decide) (by omega)), wdY (js := 0) (by omega), if_neg (wdN (js := 1) (by omega)), wdY (js := 2) (by omega), if_neg (wdN (js := 3) (by omega))]
    show ∃ kind token value, some (if mtb B 0 st 4 0 = true then (1 : Int32) else if mtb B 2 st 4 0 = true then 3 else 7, nI e) = some (kind, nI e) ∧ _ ∧ _
    by_cases p0 : mtb B 0 st 4 0 = true
    · rw [if_pos p0, if_pos p0, if10]
      exact ⟨1, 1, 1, rfl, rfl, Or.inl ⟨1, by decide, by decide, rfl, rfl, rfl⟩⟩
    · rw [if_neg p0, if_neg p0, if00]
      by_cases p2 : mtb B 2 st 4 0 = true
      · rw [if_pos p2, if_pos p2, if10]
        exact ⟨3, 1, 3, rfl, rfl, Or.inl ⟨3, by decide, by decide, rfl, rfl, rfl⟩⟩
      · rw [if_neg p2, if_neg p2, if00]
        exact ⟨7, 4, 0, rfl, rfl, Or.inr ⟨rfl, rfl⟩⟩
  · rw [if_neg (show ¬ nI (e - st) = 4 from ne 4 (by decide) q4), if_neg (wdN (js := 0) (by omega)), if_neg (wdN (js := 2) (by omega))]
    by_cases q7 : e - st = 7
    · rw [if_pos (show nI (e - st) = 7 from congrArg nI q7), rowX h (by omega), bds, if_neg (show ¬ nI (e - st) = 4 from ne 4 (by decide) q4), if_neg (show ¬ nI (e - st) = 5 from ne 5 (by decide) (by omega)), wdY (js := 1) (by omega), if_neg (wdN (js := 3) (by omega))]
      show ∃ kind token value, some (if mtb B 1 st 7 0 = true then (2 : Int32) else 7, nI e) = some (kind, nI e) ∧ _ ∧ _
      by_cases p1 : mtb B 1 st 7 0 = true
      · rw [if_pos p1, if_pos p1, if10]
        exact ⟨2, 1, 2, rfl, rfl, Or.inl ⟨2, by decide, by decide, rfl, rfl, rfl⟩⟩
      · rw [if_neg p1, if_neg p1, if00]
        exact ⟨7, 4, 0, rfl, rfl, Or.inr ⟨rfl, rfl⟩⟩
    · rw [if_neg (show ¬ nI (e - st) = 7 from ne 7 (by decide) q7), if_neg (show ¬ nI (e - st) = 4 from ne 4 (by decide) q4), if_neg (wdN (js := 1) (by omega))]
      by_cases q5 : e - st = 5
      · rw [if_pos (show nI (e - st) = 5 from congrArg nI q5), rowW h (by omega), bds, wdY (js := 3) (by omega)]
        show ∃ kind token value, some (if mtb B 3 st 5 0 = true then (4 : Int32) else 7, nI e) = some (kind, nI e) ∧ _ ∧ _
        by_cases p3 : mtb B 3 st 5 0 = true
        · rw [if_pos p3, if_pos p3, if10]
          exact ⟨4, 1, 4, rfl, rfl, Or.inl ⟨4, by decide, by decide, rfl, rfl, rfl⟩⟩
        · rw [if_neg p3, if_neg p3, if00]
          exact ⟨7, 4, 0, rfl, rfl, Or.inr ⟨rfl, rfl⟩⟩
      · rw [if_neg (show ¬ nI (e - st) = 5 from ne 5 (by decide) q5), if_neg (wdN (js := 3) (by omega))]
        exact ⟨7, 4, 0, rfl, rfl, Or.inr ⟨rfl, rfl⟩⟩
theorem word_loop {k : Nat} {A t : Nat → Int32} {B : Nat → Nat} (h : TT k A t B) (st : Nat) (kd tok val : Int32) : ∀ (d f f' p : Nat), p + d = k → d < f → d < f' → ∃ e, p ≤ e ∧ e ≤ k ∧ fX9_takeWord_0 (nI st) (nI k) A f kd (nI p) = fX9_takeWord_44 (nI st) (nI k) A kd (nI e) ∧ fX11_reads_0 (nI k) (nI st) t f' (nI p) tok val = rdE k st t e tok val ∧ ((p < k ∧ 97 ≤ B p ∧ B p ≤ 122) → p < e) := by
  have hk := h.1
  intro d
  induction d with
  | zero =>
    intro f f' p hp hf hf'
    obtain ⟨f, rfl⟩ : ∃ g, f = g + 1 := ⟨f - 1, by omega⟩
    obtain ⟨f', rfl⟩ : ∃ g, f' = g + 1 := ⟨f' - 1, by omega⟩
    refine ⟨p, Nat.le_refl _, by omega, ?_, ?_, fun q => by omega⟩
    · rw [fX9_takeWord_0_s, if_pos (nI_le (by omega) (by omega))]
    · rw [fX11_reads_0_s, rf_atE (by omega) (by omega), bds, show fX11_in (-1) 97 122 = some 0 from rfl, bds, if00]
      rfl
  | succ d ih =>
    intro f f' p hp hf hf'
    obtain ⟨f, rfl⟩ : ∃ g, f = g + 1 := ⟨f - 1, by omega⟩
    obtain ⟨f', rfl⟩ : ∃ g, f' = g + 1 := ⟨f' - 1, by omega⟩
    have hB := (h.2 p (by omega)).2.2
    rw [fX9_takeWord_0_s, if_neg (nI_ge (by omega) (by omega)), sp_at h (by omega), bds, sp_small hB, bds, fX11_reads_0_s, rf_at h (by omega), bds, rf_small hB, bds]
    by_cases q : 97 ≤ B p ∧ B p ≤ 122
    · rw [if_pos q, if10, if10, nI_1]
      obtain ⟨e, e1, e2, e3, e4, -⟩ := ih f f' (p + 1) (by omega) (by omega) (by omega)
      exact ⟨e, by omega, e2, e3, e4, fun _ => by omega⟩
    · rw [if_neg q, if00, if00]
      exact ⟨p, Nat.le_refl _, by omega, rfl, rfl, fun z => absurd z.2 q⟩
