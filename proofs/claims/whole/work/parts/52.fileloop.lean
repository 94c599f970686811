/-! PURE. file: item by item -/
theorem Tok_0 {k n t v : Int32} (h : Tok k n t v) : (k = 0 ∧ t = 0) ∨ (¬ k = 0 ∧ ¬ t = 0) := by
  rcases h with h | ⟨w, a, b, rfl, rfl, -⟩ | ⟨rfl, rfl, -⟩ | ⟨rfl, rfl⟩ | ⟨rfl, rfl⟩
  · exact Or.inl h
  · exact Or.inr ⟨fun z => absurd (nI_inj (a := w) (b := 0) (by omega) (by decide) z) (by omega), by decide⟩
  · exact Or.inr ⟨by decide, by decide⟩
  · exact Or.inr ⟨by decide, by decide⟩
  · exact Or.inr ⟨by decide, by decide⟩
theorem Tok_1 {k n t v : Int32} (h : Tok k n t v) (h0 : ¬ k = 0) : (∃ w : Nat, 1 ≤ w ∧ w ≤ 4 ∧ k = nI w ∧ t = 1 ∧ v = nI w) ∨ ((k = 5 ∨ k = 6 ∨ k = 7) ∧ ¬ t = 1) := by
  rcases h with h | h | ⟨rfl, rfl, -⟩ | ⟨rfl, rfl⟩ | ⟨rfl, rfl⟩
  · exact absurd h.1 h0
  · exact Or.inl h
  · exact Or.inr ⟨Or.inl rfl, by decide⟩
  · exact Or.inr ⟨Or.inr (Or.inl rfl), by decide⟩
  · exact Or.inr ⟨Or.inr (Or.inr rfl), by decide⟩
theorem Tok_5 {k n t v : Int32} (h : Tok k n t v) : (k = 5 ∧ t = 2 ∧ ∃ m : Nat, m ≤ 99 ∧ n = nI m ∧ v = nI m) ∨ ¬ k = 5 := by
  rcases h with ⟨rfl, -⟩ | ⟨w, a, b, rfl, -⟩ | h | ⟨rfl, -⟩ | ⟨rfl, -⟩
  · exact Or.inr (by decide)
  · exact Or.inr (fun z => absurd (nI_inj (a := w) (b := 5) (by omega) (by decide) z) (by omega))
  · exact Or.inl h
  · exact Or.inr (by decide)
  · exact Or.inr (by decide)
theorem Tok_6 {k n t v : Int32} (h : Tok k n t v) : (k = 6 ∧ t = 3) ∨ (¬ k = 6 ∧ ¬ t = 3) := by
  rcases h with ⟨rfl, rfl⟩ | ⟨w, a, b, rfl, rfl, -⟩ | ⟨rfl, rfl, -⟩ | h | ⟨rfl, rfl⟩
  · exact Or.inr ⟨by decide, by decide⟩
  · exact Or.inr ⟨fun z => absurd (nI_inj (a := w) (b := 6) (by omega) (by decide) z) (by omega), by decide⟩
  · exact Or.inr ⟨by decide, by decide⟩
  · exact Or.inl h
  · exact Or.inr ⟨by decide, by decide⟩
theorem item_any {w c : Nat} (h1 : 1 ≤ w) (h4 : w ≤ 4) (hc : w ≤ 2 → c < 6) {ty sp tok pl val y x1 x2 x3 x4 fa : Int32} {t dr : Nat → Int32} (hn : fX11_number (nI (lo w)) (nI (hi w)) ty sp tok pl val (-1) t = some (y, x1, x2, x3, x4, fa)) : ∃ dc dr', fX11_readsItem (nI w) ty sp tok pl val (-1) (nI c) t dr = some (x1, x2, x3, x4, fa, dc, dr') := by
  by_cases q : w ≤ 2
  · have e1 : lo w = 0 := if_pos q
    have e2 : hi w = 5 := if_pos q
    rw [e1, e2] at hn
    obtain ⟨dr', e, -⟩ := rf_item12 (dr := dr) h1 q (hc q) (show fX11_number 0 5 ty sp tok pl val (-1) t = _ from hn)
    exact ⟨_, dr', e⟩
  · have e1 : lo w = 1 := if_neg q
    have e2 : hi w = 30 := if_neg q
    rw [e1, e2] at hn
    exact ⟨_, _, rf_item34 (dr := dr) (dc := nI c) (by omega) h4 (show fX11_number 1 30 ty sp tok pl val (-1) t = _ from hn)⟩
theorem item_ok {w c m i : Nat} (h1 : 1 ≤ w) (h4 : w ≤ 4) (hc : w ≤ 2 → c < 6) {wi rd wr : Int32} {vo dr t : Nat → Int32} (hD : DR c wi rd wr vo dr) (hm : lo w ≤ m ∧ m ≤ hi w) {ty sp tok pl val x1 x2 x3 x4 : Int32} (hn : fX11_number (nI (lo w)) (nI (hi w)) ty sp tok pl val (-1) t = some (nI m, x1, x2, x3, x4, -1)) : ∃ (c' : Nat) (wi' rd' wr' : Int32) (vo' dr' : Nat → Int32), fX11_readsItem (nI w) ty sp tok pl val (-1) (nI c) t dr = some (x1, x2, x3, x4, -1, nI c', dr') ∧ fX8_addItem (nI w) (nI m) wi (nI c) rd wr (nI i) vo = some (wi', nI c', rd', wr', nI (i + 1), vo') ∧ DR c' wi' rd' wr' vo' dr' ∧ c' ≤ c + 1 := by
  have hm2 := hm.2
  by_cases q : w ≤ 2
  · have e1 : lo w = 0 := if_pos q
    have e2 : hi w = 5 := if_pos q
    rw [e1, e2] at hn
    rw [e2] at hm2
    obtain ⟨dr', e, hd⟩ := rf_item12 (dr := dr) h1 q (hc q) (show fX11_number 0 5 ty sp tok pl val (-1) t = _ from hn)
    obtain ⟨wi', vo', er, hD'⟩ := DR_12 hD (hc q) h1 q hm2 hd (nI i)
    rw [nI_1] at er
    exact ⟨c + 1, wi', rd, wr, vo', dr', e, er, hD', Nat.le_refl _⟩
  · have e1 : lo w = 1 := if_neg q
    have e2 : hi w = 30 := if_neg q
    rw [e1, e2] at hn
    rw [e2] at hm2
    obtain ⟨rd', wr', er, hD'⟩ := DR_34 hD (show 3 ≤ w by omega) h4 hm2 (nI i)
    rw [nI_1] at er
    exact ⟨c, wi, rd', wr', vo, _, rf_item34 (dr := dr) (dc := nI c) (by omega) h4 (show fX11_number 1 30 ty sp tok pl val (-1) t = _ from hn), er, hD', by omega⟩
theorem lohi (w : Nat) : lo w < 2 ^ 31 ∧ hi w < 2 ^ 31 := by
  unfold lo hi
  by_cases q : w ≤ 2
  · rw [if_pos q, if_pos q]; decide
  · rw [if_neg q, if_neg q]; decide
theorem file_loop {k : Nat} {A t : Nat → Int32} {B : Nat → Nat} (h : TT k A t B) (cp um sm : Int32) (s ik : Nat → Int32) : ∀ (d f f' i c st sp : Nat) (wi rd wr kind number token value : Int32) (vo dr : Nat → Int32), k ≤ st + d → d < f → d + 1 < f' → i ≤ st → c ≤ i → st ≤ sp → sp ≤ k → Tok kind number token value → (kind = 0 → st = k) → (¬ kind = 0 → st < sp) → DR c wi rd wr vo dr → FOut (fX8_faultOf_41 (nI k) A f (nI i) wi (nI c) rd wr (nI i) kind (nI st) number (nI sp) vo) (fX11_file_25 t f' (nI i) 0 (nI k) (nI sp) token (nI st) value (-1) cp (nI c) um sm dr s ik) k cp um sm s ik := by
  have hk := h.1
  intro d
  induction d with
  | zero =>
    intro f f' i c st sp wi rd wr kind number token value vo dr hd hf hf' his hci hss hsk hT h0 hn0 hD
    obtain ⟨f, rfl⟩ : ∃ g, f = g + 1 := ⟨f - 1, by omega⟩
    obtain ⟨f', rfl⟩ : ∃ g, f' = g + 1 := ⟨f' - 1, by omega⟩
    rcases Tok_0 hT with ⟨rfl, rfl⟩ | ⟨z1, z2⟩
    · obtain rfl : st = k := h0 rfl
      rw [fX8_faultOf_41_s, fX11_file_25_s, well1, bds, if10, if_pos (show (0 : Int32) = 0 from rfl), if_pos (show (0 : Int32) = 0 from rfl)]
      have e := file_end (i := i) hk (by omega) hci hD A t 0 number (nI sp) (nI sp) 0 value cp um sm s ik
      by_cases q : (120 : Int32) ≤ nI i
      · rw [if_pos q]; exact e
      · rw [if_neg q]; exact e
    · have := hn0 z1
      omega
  | succ d ih =>
    intro f f' i c st sp wi rd wr kind number token value vo dr hd hf hf' his hci hss hsk hT h0 hn0 hD
    obtain ⟨f, rfl⟩ : ∃ g, f = g + 1 := ⟨f - 1, by omega⟩
    obtain ⟨f', rfl⟩ : ∃ g, f' = g + 2 := ⟨f' - 2, by omega⟩
    rcases Tok_0 hT with ⟨rfl, rfl⟩ | ⟨z1, z2⟩
    · obtain rfl : st = k := h0 rfl
      rw [fX8_faultOf_41_s, show f' + 2 = (f' + 1) + 1 from rfl, fX11_file_25_s, well1, bds, if10, if_pos (show (0 : Int32) = 0 from rfl), if_pos (show (0 : Int32) = 0 from rfl)]
      have e := file_end (i := i) hk (by omega) hci hD A t 0 number (nI sp) (nI sp) 0 value cp um sm s ik
      by_cases q : (120 : Int32) ≤ nI i
      · rw [if_pos q]; exact e
      · rw [if_neg q]; exact e
    have hlt := hn0 z1
    rw [fX8_faultOf_41_s, n120, if_neg (nI_ge (show i < 120 by omega) (by decide)), if_neg z1, show f' + 2 = (f' + 1) + 1 from rfl, fX11_file_25_s, well1, bds, if10, if_neg z2]
    unfold fX8_takeItem
    rcases Tok_1 hT z1 with ⟨w, hw1, hw4, rfl, rfl, rfl⟩ | ⟨hk567, ht1⟩
    · have e37 : dr 37 = rd := by
        obtain ⟨-, -, -, -, ⟨r, -, a, b⟩, -⟩ := hD
        rw [a, b]
      have e38 : dr 38 = wr := by
        obtain ⟨-, -, -, -, -, ⟨r, -, a, b⟩, -⟩ := hD
        rw [a, b]
      obtain ⟨hmb, hmb'⟩ := may_eq hw1 hw4 hD.1 e37 e38
      rw [if_pos (show (1 : Int32) = 1 from rfl), hmb]
      rcases hmb' with e | ⟨e, hc6⟩
      · rw [e, bds, if00, bd11_in rfl, if00, bds, if00]
        exact Or.inl ⟨st, by omega, ⟨_, _, _, _, _, _, _, _, _, _, rfl⟩, rf_bad60 (by omega) t f' _ _ _ _ _ _ _ _ _ _ _ _⟩
      · rw [e, bds, if10, bds, if10]
        obtain ⟨k1, n1v, t1, v1, st1, sp1, a1, b1, c1, c2, c3, T1, o1, p1⟩ := adv h (nI w) (nI st) number 1 (nI st) (nI w) hsk
        rw [a1, bd4_in rfl]
        unfold fX11_file_60
        rw [rf_take1 _ _ _ _ _ _ b1, bd6_in rfl, well1, bds, if10]
        have hlh := lohi w
        have bad1 : (∀ m : Nat, m ≤ 99 → k1 = 5 → n1v = nI m → ¬ (lo w ≤ m ∧ m ≤ hi w)) → RefBad (bd7 (fX11_readsItem (nI w) (nI k) (nI sp1) t1 (nI st1) v1 (-1) (nI c) t dr) (fun jg11 jg12 jg13 jg14 jg15 jg16 jg17 => fX11_file_76 (fX11_file_25 t (f' + 1)) t (nI i) 0 (nI k) jg11 jg12 jg13 jg14 jg15 cp jg16 um sm jg17 s ik)) st1 (nI k) cp um sm s ik := by
          intro hno
          obtain ⟨dc, dr', er⟩ := item_any (dr := dr) hw1 hw4 hc6 (rf_num_bad T1 hlh.1 hlh.2 hno (nI k) (nI sp1) st1 t)
          rw [er, bd7_in rfl]
          exact rf_bad76 (by omega) t f' _ _ _ _ _ _ _ _ _ _ _ _ _
        rcases Tok_5 T1 with ⟨rfl, rfl, m, hm, rfl, rfl⟩ | hk5
        · rw [if_pos (show (5 : Int32) = 5 from rfl), sp_follow hw1 hw4 hm, bds]
          by_cases hq : lo w ≤ m ∧ m ≤ hi w
          · rw [if_pos hq, if10]
            obtain ⟨k2, n2v, t2, v2, st2, sp2, a2, b2, c4, c5, c6, T2, o2, p2⟩ := adv h 5 (nI st1) (nI m) 2 (nI st1) (nI m) c3
            obtain ⟨c', wi', rd', wr', vo', dr', er, ec, hD', hc'⟩ := item_ok (i := i) hw1 hw4 hc6 hD hq (rf_num_ok hm hlh.1 hlh.2 hq (nI k) (nI sp1) (nI st1) t b2)
            rw [a2, bd4_in rfl, er, bd7_in rfl]
            unfold fX11_file_76
            have p1' := p1 (by decide)
            rcases Tok_6 T2 with ⟨rfl, rfl⟩ | ⟨y1, y2⟩
            · have p2' := p2 (by decide)
              obtain ⟨k3, n3v, t3, v3, st3, sp3, a3, b3, c7, c8, c9, T3, o3, p3⟩ := adv h 6 (nI st2) n2v 3 (nI st2) v2 c6
              rw [if_pos (show (6 : Int32) = 6 from rfl), ec, bd6_in rfl, bd11_in rfl, if10, a3, bd4_in rfl, if_pos (show (3 : Int32) = 3 from rfl), rf_take1 _ _ _ _ _ _ b3, bd6_in rfl, nI_1]
              exact ih f (f' + 1) (i + 1) c' st3 sp3 wi' rd' wr' k3 n3v t3 v3 vo' dr' (by omega) (by omega) (by omega) (by omega) (by omega) c8 c9 T3 o3 p3 hD'
            · rw [if_neg y1, bd11_in rfl, if00, if_neg y2, rf_take0, bd6_in rfl]
              exact Or.inl ⟨st2, by omega, ⟨_, _, _, _, _, _, _, _, _, _, rfl⟩, rf_bad25 (by omega) t f' _ _ _ _ _ _ _ _ _ _ _ _ _⟩
          · rw [if_neg hq, if00, bd11_in rfl, if00]
            refine Or.inl ⟨st1, by omega, ⟨_, _, _, _, _, _, _, _, _, _, rfl⟩, bad1 (fun m' hm' _ e' => ?_)⟩
            have : m = m' := nI_inj (by omega) (by omega) e'
            subst this
            exact hq
        · rw [if_neg hk5, bd11_in rfl, if00]
          exact Or.inl ⟨st1, by omega, ⟨_, _, _, _, _, _, _, _, _, _, rfl⟩, bad1 (fun m' _ e' _ => absurd e' hk5)⟩
    · have hmb : fX8_mayBegin kind (nI c) rd wr = some 0 := by
        rcases hk567 with rfl | rfl | rfl <;> rfl
      rw [hmb, bds, if00, bd11_in rfl, if00, if_neg ht1]
      exact Or.inl ⟨st, by omega, ⟨_, _, _, _, _, _, _, _, _, _, rfl⟩, rf_bad60 (by omega) t f' _ _ _ _ _ _ _ _ _ _ _ _⟩
