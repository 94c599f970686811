/-! PURE. file: both sides, token by token -/
def Fine (c : Nat) (rd wr : Int32) (dr : Nat → Int32) : Prop := (∃ r, 1 ≤ r ∧ r ≤ 30 ∧ rd = nI r) ∧ (∃ w, 1 ≤ w ∧ w ≤ 30 ∧ wr = nI w) ∧ (0 < c → ¬ fA (fun j => dr (31 + j)) 6 0 0 < rd ∧ ¬ fA (fun j => dr (31 + j)) 6 0 0 < wr)
def FOut (oc : Option (Int32 × Int32 × Int32 × Int32 × Int32 × Int32 × Int32 × Int32 × Int32 × Int32 × (Nat → Int32))) (orf : Option (Int32 × Int32 × Int32 × Int32 × Int32 × Int32 × Int32 × Int32 × Int32 × Int32 × Int32 × Int32 × (Nat → Int32) × (Nat → Int32) × (Nat → Int32))) (k : Nat) (cp um sm : Int32) (s ik : Nat → Int32) : Prop :=
  (∃ p, p ≤ k ∧ (∃ (a1 a2 a3 a4 a5 a6 a7 a8 a9 : Int32) (vo : Nat → Int32), oc = some (nI p, a1, a2, a3, a4, a5, a6, a7, a8, a9, vo)) ∧ RefBad orf p (nI k) cp um sm s ik) ∨
  (∃ (i c : Nat) (wi rd wr a1 a2 a3 a4 sp tok pl val : Int32) (vo dr : Nat → Int32), oc = some (-9, wi, nI c, rd, wr, nI i, a1, a2, a3, a4, vo) ∧ orf = bd7 (fX11_settles (nI k) cp (nI c) um sm dr s ik) (fun jg4 jg5 jg6 jg7 jg8 jg9 jg10 => some (nI i, 0, jg4, sp, tok, pl, val, -1, jg5, nI c, jg6, jg7, jg8, jg9, jg10)) ∧ DR c wi rd wr vo dr ∧ Fine c rd wr dr)
theorem law0 (t rd wr : Int32) (h : rd = 0 ∨ wr = 0) : fX11_isLawful t rd wr = some 0 := by
  unfold fX11_isLawful
  by_cases h1 : rd + wr ≤ t
  · rw [if_pos h1]
  · rw [if_neg h1]
    by_cases h2 : 2 * wr ≤ t
    · rw [if_pos h2]
    · rw [if_neg h2]
      rcases h with rfl | rfl
      · rfl
      · rw [show fX11_in 0 1 t = some 0 from rfl, bds, if00]
        rcases iw rd 1 t with ⟨e, -⟩ | ⟨e, -⟩
        · rw [iw_eq, e]; rfl
        · rw [iw_eq, e]; rfl
theorem DR_total {c : Nat} {wi rd wr : Int32} {vo dr : Nat → Int32} (h : DR c wi rd wr vo dr) : fA vo c 0 0 = fA (fun j => dr (31 + j)) 6 0 0 := by
  obtain ⟨d1, d2, d3, -⟩ := h
  rw [fA_congr (V' := fun j => dr (31 + j)) c 0 0 (fun j _ hj => by
    obtain ⟨-, -, v, -, e1, e2⟩ := d2 j (by omega)
    rw [e1, e2]), show (6 : Nat) = c + (6 - c) by omega, fA_add c (6 - c) 0 0, fA_zero (6 - c) (0 + c)]
  intro j hj1 hj2
  exact (d3 j (by omega) (by omega)).2.2
theorem sp_right23 {c : Nat} (hc : c ≤ 6) (it rd wr : Int32) (vo : Nat → Int32) : ∀ (d f i : Nat) (a : Int32), i + d = c → d < f → fX8_isRight_23 (nI c) it vo f a (nI i) rd wr = if rd = 0 then some (0, rd, wr) else if wr = 0 then some (0, rd, wr) else bd1 (fX10_isLawful (fA vo d i a) rd wr) (fun jr4 => if jr4 = 0 then some (0, rd, wr) else some (1, rd, wr)) := by
  intro d
  induction d with
  | zero =>
    intro f i a hi hf
    obtain ⟨f, rfl⟩ : ∃ g, f = g + 1 := ⟨f - 1, by omega⟩
    rw [fX8_isRight_23_s, if_pos (nI_le (by omega) (by omega))]
    rfl
  | succ d ih =>
    intro f i a hi hf
    obtain ⟨f, rfl⟩ : ∃ g, f = g + 1 := ⟨f - 1, by omega⟩
    rw [fX8_isRight_23_s, if_neg (nI_ge (by omega) (by omega)), ckN (by omega) (by decide), nI_clamp (by omega), nI_1, ih f (i + 1) _ (by omega) (by omega)]
    rfl
theorem rf_good174 (t : Nat → Int32) (it ty sp tok pl val cp dc um sm : Int32) (dr s ik : Nat → Int32) : fX11_file_174 t it 0 ty sp tok pl val (-1) cp dc um sm dr s ik = bd7 (fX11_settles ty cp dc um sm dr s ik) (fun jg4 jg5 jg6 jg7 jg8 jg9 jg10 => some (it, 0, jg4, sp, tok, pl, val, -1, jg5, dc, jg6, jg7, jg8, jg9, jg10)) := by
  unfold fX11_file_174
  rw [well1, bds, if10]
/-- the end of the text -/
theorem file_end {k c i : Nat} (hk : k ≤ 120) (hi : i < 2 ^ 31) (hci : c ≤ i) {wi rd wr : Int32} {vo dr : Nat → Int32} (h : DR c wi rd wr vo dr) (A t : Nat → Int32) (kind number be sp tok val cp um sm : Int32) (s ik : Nat → Int32) : FOut (fX8_faultOf_85 (nI k) A wi (nI c) rd wr (nI i) kind (nI k) number be vo) (fX11_file_100 t (nI i) 0 (nI k) sp tok (nI k) val (-1) cp (nI c) um sm dr s ik) k cp um sm s ik := by
  have a37 : ∀ {α : Type} (K : Option α), ckI 103 (37 : Int32) K = K := fun K => ckN (k := 37) (by decide) (by decide)
  have a38 : ∀ {α : Type} (K : Option α), ckI 103 (38 : Int32) K = K := fun K => ckN (k := 38) (by decide) (by decide)
  have c37 : Int32.toNatClampNeg (37 : Int32) = 37 := rfl
  have c38 : Int32.toNatClampNeg (38 : Int32) = 38 := rfl
  unfold fX8_faultOf_85 fX8_isRight fX11_file_100
  rw [well1, bds, if10]
  by_cases q : i = 0
  · subst q
    obtain rfl : c = 0 := by omega
    rw [if_pos (show nI 0 = 0 from rfl), if_pos (show nI 0 = 0 from rfl), bd3_in rfl, if10, a37, a38, c37, c38, rf_good174]
    refine Or.inr ⟨0, 0, wi, 1, 1, kind, nI k, number, be, sp, tok, nI k, val, vo, upd (upd dr 37 1) 38 1, rfl, rfl, ?_, ⟨1, by decide, by decide, rfl⟩, ⟨1, by decide, by decide, rfl⟩, fun z => absurd z (by decide)⟩
    obtain ⟨d1, d2, d3, d4, -, -, d7, d8, d9⟩ := h
    have other : ∀ j, ¬ j = 37 → ¬ j = 38 → upd (upd dr 37 1) 38 1 j = dr j := fun j a b => by rw [pk_un b, pk_un a]
    refine ⟨d1, fun j hj => absurd hj (by omega), fun j hj1 hj2 => ?_, d4, ⟨1, by decide, rfl, ?_⟩, ⟨1, by decide, rfl, pk_us⟩, ?_, ?_, fun j hj hj2 => ?_⟩
    · rw [other j (by omega) (by omega), other (18 + j) (by omega) (by omega), other (31 + j) (by omega) (by omega)]; exact d3 j hj1 hj2
    · rw [pk_un (by decide), pk_us]; rfl
    · rw [other 39 (by decide) (by decide)]; exact d7
    · rw [other 30 (by decide) (by decide)]; exact d8
    · rw [other j (by omega) (by omega)]; exact d9 j hj hj2
  · have ni : ¬ nI i = 0 := fun z => q (nI_inj hi (by decide) z)
    have hR := sp_right23 h.1 (nI i) rd wr vo c fuel 0 0 (by omega) (fuel_gt (by have := h.1; omega))
    have hT : fX11_totalOf 103 (31 : Int32) dr = some (fA (fun j => dr (31 + j)) 6 0 0) := rf_totalOf (c := 0) (by decide)
    have hdr := DR_total h
    have hD := h
    obtain ⟨d1, d2, d3, d4, ⟨r, r1, r2, r3⟩, ⟨w, w1, w2, w3⟩, -⟩ := h
    unfold fX11_file_130
    rw [if_neg ni, if_neg ni, show fX8_isRight_23 (nI c) (nI i) vo fuel 0 0 rd wr = _ from hR, well1, bds, if10, hT, bds, a37, a38, c37, c38, r3, w3, ← r2, ← w2, hdr]
    have bad : FOut (bd3 (some ((0 : Int32), rd, wr)) (fun jr1 jg2 jg3 => if jr1 = 0 then some (nI k, wi, nI c, jg2, jg3, nI i, kind, nI k, number, be, vo) else some (-9, wi, nI c, jg2, jg3, nI i, kind, nI k, number, be, vo))) (bd1 (some (0 : Int32)) (fun jr8 => if jr8 = 0 then fX11_file_174 t (nI i) 0 (nI k) sp tok (nI k) val (nI k) cp (nI c) um sm dr s ik else fX11_file_174 t (nI i) 0 (nI k) sp tok (nI k) val (-1) cp (nI c) um sm dr s ik)) k cp um sm s ik := by
      rw [bd3_in rfl, bds, if00, if00]
      exact Or.inl ⟨k, Nat.le_refl _, ⟨_, _, _, _, _, _, _, _, _, _, rfl⟩, rf_bad174 (by omega) t _ _ _ _ _ _ _ _ _ _ _ _ _⟩
    by_cases z1 : rd = 0
    · rw [if_pos z1, law0 _ _ _ (Or.inl z1)]
      exact bad
    · rw [if_neg z1]
      by_cases z2 : wr = 0
      · rw [if_pos z2, law0 _ _ _ (Or.inr z2)]
        exact bad
      · have hr0 : 1 ≤ r := by
          rcases Nat.eq_zero_or_pos r with e | e
          · rw [e] at r2; exact absurd r2 z1
          · exact e
        have hw0 : 1 ≤ w := by
          rcases Nat.eq_zero_or_pos w with e | e
          · rw [e] at w2; exact absurd w2 z2
          · exact e
        have hl : fX11_isLawful (fA (fun j => dr (31 + j)) 6 0 0) rd wr = fX10_isLawful (fA (fun j => dr (31 + j)) 6 0 0) rd wr := by rw [r2, w2]; exact lawful_eq hr0 r1 hw0 w1 _
        rw [if_neg z2, hl]
        rcases lawful_c (fA (fun j => dr (31 + j)) 6 0 0) rd wr with e | ⟨e, n1', n2'⟩
        · rw [e, bds, if00]
          exact bad
        · rw [e, bds, if10, bd3_in rfl, if10, bds, if10, rf_good174]
          exact Or.inr ⟨i, c, wi, rd, wr, kind, nI k, number, be, sp, tok, nI k, val, vo, dr, rfl, rfl, hD, ⟨r, hr0, r1, r2⟩, ⟨w, hw0, w1, w2⟩, fun _ => ⟨n1', n2'⟩⟩
