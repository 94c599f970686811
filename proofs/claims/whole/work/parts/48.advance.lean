/-! PURE. file: numbers, and the next token -/
def NV (num val : Nat) : Prop := (num = val ∧ val ≤ 99) ∨ (num = 100 ∧ 100 ≤ val ∧ val ≤ 999)
def adE (c : Int32) (e : Nat) (pl : Int32) (val : Int32) : Option (Int32 × Int32 × Int32 × Int32) := if (99 : Int32) < val then some (nI e, (4 : Int32), pl, val) else if c = (48 : Int32) then if (nI e - pl) ≤ (1 : Int32) then some (nI e, (2 : Int32), pl, val) else some (nI e, (4 : Int32), pl, val) else some (nI e, (2 : Int32), pl, val)
theorem num_loop {k : Nat} {A t : Nat → Int32} {B : Nat → Nat} (h : TT k A t B) (st : Nat) (kd tok c pl : Int32) : ∀ (d f f' p num val : Nat), p + d = k → d < f → d < f' → NV num val → ∃ e num' val', p ≤ e ∧ e ≤ k ∧ NV num' val' ∧ fX9_takeNumber_5 (nI st) (nI k) A f kd (nI num) (nI p) = fX9_takeNumber_80 (nI st) (nI k) A kd (nI num') (nI e) ∧ fX11_advances_71 c (nI k) t f' (nI p) tok pl (nI val) = adE c e pl (nI val') ∧ ((p < k ∧ 48 ≤ B p ∧ B p ≤ 57) → p < e) := by
  have hk := h.1
  intro d
  induction d with
  | zero =>
    intro f f' p num val hp hf hf' hv
    obtain ⟨f, rfl⟩ : ∃ g, f = g + 1 := ⟨f - 1, by omega⟩
    obtain ⟨f', rfl⟩ : ∃ g, f' = g + 1 := ⟨f' - 1, by omega⟩
    refine ⟨p, num, val, Nat.le_refl _, by omega, hv, ?_, ?_, fun q => by omega⟩
    · rw [fX9_takeNumber_5_s, if_pos (nI_le (by omega) (by omega))]
    · rw [fX11_advances_71_s, rf_atE (by omega) (by omega), bds, show fX11_in (-1) 48 57 = some 0 from rfl, bds, if00]
      rfl
  | succ d ih =>
    intro f f' p num val hp hf hf' hv
    obtain ⟨f, rfl⟩ : ∃ g, f = g + 1 := ⟨f - 1, by omega⟩
    obtain ⟨f', rfl⟩ : ∃ g, f' = g + 1 := ⟨f' - 1, by omega⟩
    have hB := (h.2 p (by omega)).2.2
    rw [fX9_takeNumber_5_s, if_neg (nI_ge (by omega) (by omega)), sp_at h (by omega), bds, sp_digit hB, bds, bds, fX11_advances_71_s, rf_at h (by omega), bds, rf_digit hB, bds]
    by_cases q : 48 ≤ B p ∧ B p ≤ 57
    · have q1 := q.1
      have q2 := q.2
      rw [if_pos q, if10, if10, bds, nI_1, n10, n48, n99, n100, pk_mul, pk_mul, ixs, ixs, pk_sub (by omega), pk_sub (by omega)]
      rcases hv with ⟨rfl, hv⟩ | ⟨rfl, hv1, hv2⟩
      · rw [if_pos (nI_le hv (by decide))]
        by_cases z : 10 * num + B p - 48 < 100
        · rw [if_pos (nI_lt z (by decide))]
          obtain ⟨e, n', v', e1, e2, e3, e4, e5, -⟩ := ih f f' (p + 1) _ _ (by omega) (by omega) (by omega) (Or.inl ⟨rfl, show 10 * num + B p - 48 ≤ 99 by omega⟩)
          exact ⟨e, n', v', by omega, e2, e3, e4, e5, fun _ => by omega⟩
        · rw [if_neg (nI_nlt (by omega) (by omega))]
          obtain ⟨e, n', v', e1, e2, e3, e4, e5, -⟩ := ih f f' (p + 1) 100 (10 * num + B p - 48) (by omega) (by omega) (by omega) (Or.inr ⟨rfl, by omega, by omega⟩)
          exact ⟨e, n', v', by omega, e2, e3, e4, e5, fun _ => by omega⟩
      · rw [if_neg (nI_ge (by omega) (by omega)), if_neg (nI_nlt (by omega) (by omega))]
        obtain ⟨e, n', v', e1, e2, e3, e4, e5, -⟩ := ih f f' (p + 1) 100 val (by omega) (by omega) (by omega) (Or.inr ⟨rfl, hv1, hv2⟩)
        exact ⟨e, n', v', by omega, e2, e3, e4, e5, fun _ => by omega⟩
    · rw [if_neg q, if00, if00]
      exact ⟨p, num, val, Nat.le_refl _, by omega, hv, rfl, rfl, fun z => absurd z.2 q⟩
def Tok (kind number token value : Int32) : Prop := (kind = 0 ∧ token = 0) ∨ (∃ w : Nat, 1 ≤ w ∧ w ≤ 4 ∧ kind = nI w ∧ token = 1 ∧ value = nI w) ∨ (kind = 5 ∧ token = 2 ∧ ∃ m : Nat, m ≤ 99 ∧ number = nI m ∧ value = nI m) ∨ (kind = 6 ∧ token = 3) ∨ (kind = 7 ∧ token = 4)
theorem num_end {k : Nat} {A t : Nat → Int32} {B : Nat → Nat} (h : TT k A t B) {st e num val : Nat} (h0 : st < k) (h1 : st ≤ e) (h2 : e ≤ k) (hv : NV num val) (kd : Int32) : ∃ kind token, fX9_takeNumber_80 (nI st) (nI k) A kd (nI num) (nI e) = some (kind, nI num, nI e) ∧ adE (nI (B st)) e (nI st) (nI val) = some (nI e, token, nI st, nI val) ∧ ((kind = 5 ∧ token = 2 ∧ ∃ m : Nat, m ≤ 99 ∧ nI num = nI m ∧ nI val = nI m) ∨ (kind = 7 ∧ token = 4)) := by
  have hk := h.1
  have hB := (h.2 st h0).2.2
  unfold fX9_takeNumber_80 fX9_takeNumber_114 adE
  rw [sp_at h h0, bds, pk_sub h1, n99, n48, n1]
  rcases hv with ⟨rfl, hv⟩ | ⟨rfl, hv1, hv2⟩
  · rw [if_pos (nI_le hv (by decide)), if_neg (nI_nlt hv (by decide)), if_neg (show ¬ nI 1 = 0 by decide), if_pos (show (0 : Int32) = 0 from rfl)]
    by_cases z : e - st ≤ 1
    · rw [if_pos (nI_le z (by decide)), if_pos (nI_le z (by decide))]
      refine ⟨5, 2, rfl, ?_, Or.inl ⟨rfl, rfl, num, hv, rfl, rfl⟩⟩
      by_cases y : nI (B st) = nI 48
      · rw [if_pos y]
      · rw [if_neg y]
    · rw [if_neg (nI_ge (by omega) (by omega)), if_neg (nI_ge (by omega) (by omega))]
      by_cases y : nI (B st) = nI 48
      · rw [if_pos y, if_pos y]
        exact ⟨7, 4, rfl, rfl, Or.inr ⟨rfl, rfl⟩⟩
      · rw [if_neg y, if_neg y]
        exact ⟨5, 2, rfl, rfl, Or.inl ⟨rfl, rfl, num, hv, rfl, rfl⟩⟩
  · rw [if_neg (show ¬ nI 100 ≤ nI 99 by decide), if_pos (nI_lt (by omega) (by omega))]
    refine ⟨7, 4, ?_, rfl, Or.inr ⟨rfl, rfl⟩⟩
    rw [if_pos (show (0 : Int32) = 0 from rfl), if_neg (show ¬ nI 1 = 0 by decide)]
    by_cases z : nI (e - st) ≤ nI 1
    · rw [if_pos z]
    · rw [if_neg z]
      by_cases y : nI (B st) = nI 48
      · rw [if_pos y]
      · rw [if_neg y]
theorem adv_loop {k : Nat} {A t : Nat → Int32} {B : Nat → Nat} (h : TT k A t B) (kd num tok pl val be : Int32) : ∀ (d f f' p : Nat), p + d = k → d < f → d < f' → ∃ (kind number token value : Int32) (st sp : Nat), fX9_advance_8 (nI k) A f kd (nI p) num be = some (kind, nI st, number, nI sp) ∧ fX11_advances_0 (nI k) t f' (nI p) tok pl val = some (nI sp, token, nI st, value) ∧ p ≤ st ∧ st ≤ sp ∧ sp ≤ k ∧ Tok kind number token value ∧ (kind = 0 → st = k) ∧ (¬ kind = 0 → st < sp) := by
  have hk := h.1
  intro d
  induction d with
  | zero =>
    intro f f' p hp hf hf'
    obtain ⟨f, rfl⟩ : ∃ g, f = g + 1 := ⟨f - 1, by omega⟩
    obtain ⟨f', rfl⟩ : ∃ g, f' = g + 1 := ⟨f' - 1, by omega⟩
    refine ⟨0, num, 0, val, p, p, ?_, ?_, Nat.le_refl _, Nat.le_refl _, by omega, Or.inl ⟨rfl, rfl⟩, fun _ => by omega, fun z => absurd rfl z⟩
    · rw [fX9_advance_8_s, if_pos (nI_le (by omega) (by omega))]
      unfold fX9_advance_51
      rw [if_neg (nI_nlt (by omega) (by omega))]
    · rw [fX11_advances_0_s, rf_atE (by omega) (by omega), bds, if_neg (show ¬ (-1 : Int32) = 32 by decide), bds, if_neg (show ¬ (0 : Int32) ≤ -1 by decide)]
  | succ d ih =>
    intro f f' p hp hf hf'
    obtain ⟨f, rfl⟩ : ∃ g, f = g + 1 := ⟨f - 1, by omega⟩
    obtain ⟨f', rfl⟩ : ∃ g, f' = g + 1 := ⟨f' - 1, by omega⟩
    have hB := (h.2 p (by omega)).2.2
    have nb : ∀ m : Nat, m < 256 → ¬ B p = m → ¬ nI (B p) = nI m := fun m hm q z => q (nI_inj (by omega) (by omega) z)
    rw [fX9_advance_8_s, if_neg (nI_ge (by omega) (by omega)), sp_at h (by omega), bds, fX11_advances_0_s, rf_at h (by omega), bds, bds]
    by_cases q32 : B p = 32
    · rw [if_pos (show nI (B p) = 32 from congrArg nI q32), if_pos (show nI (B p) = 32 from congrArg nI q32), nI_1]
      obtain ⟨kind, number, token, value, st, sp, e1, e2, e3, e4, e5, e6, e7, e8⟩ := ih f f' (p + 1) (by omega) (by omega) (by omega)
      exact ⟨kind, number, token, value, st, sp, e1, e2, by omega, e4, e5, e6, e7, e8⟩
    · rw [if_neg (show ¬ nI (B p) = 32 from nb 32 (by decide) q32), if_neg (show ¬ nI (B p) = 32 from nb 32 (by decide) q32), if_pos (nI_pos' (by omega)), rf_digit hB, bds, rf_small hB, bds]
      unfold fX9_advance_51
      rw [if_pos (nI_lt (by omega) (by omega)), sp_at h (by omega), bds, sp_small hB, bds, bds, sp_digit hB, bds, bds]
      by_cases qs : 97 ≤ B p ∧ B p ≤ 122
      · rw [if_pos qs, if10, if_neg (show ¬ (48 ≤ B p ∧ B p ≤ 57) by omega), if00, if10]
        obtain ⟨e, e1, e2, e3, e4, e5⟩ := word_loop h p kd tok val (d + 1) fuel fuel p (by omega) (fuel_gt (by omega)) (fuel_gt (by omega))
        obtain ⟨kind, token, value, w1, w2, w3⟩ := word_end h e1 e2 kd tok val
        have c1 : fX9_takeWord kd (nI p) (nI p) (nI k) A = some (kind, nI e) := e3.trans w1
        have c2 : fX11_reads (nI k) (nI p) tok (nI p) val t = some (nI e, token, value) := e4.trans w2
        rw [c1, bd2_in rfl, c2, bd3_in rfl]
        have hpe := e5 ⟨by omega, qs⟩
        refine ⟨kind, num, token, value, p, e, rfl, rfl, Nat.le_refl _, e1, e2, ?_, fun z => ?_, fun _ => hpe⟩
        · rcases w3 with w | w
          · exact Or.inr (Or.inl w)
          · exact Or.inr (Or.inr (Or.inr (Or.inr w)))
        · rcases w3 with ⟨w, y1, y2, rfl, -⟩ | ⟨rfl, -⟩
          · exact absurd (nI_inj (a := w) (b := 0) (by omega) (by decide) z) (by omega)
          · exact absurd z (by decide)
      · rw [if_neg qs, if00]
        by_cases qd : 48 ≤ B p ∧ B p ≤ 57
        · rw [if_pos qd, if10, if10]
          obtain ⟨e, n', v', e1, e2, e3, e4, e5, e6⟩ := num_loop h p kd tok (nI (B p)) (nI p) (d + 1) fuel fuel p 0 0 (by omega) (fuel_gt (by omega)) (fuel_gt (by omega)) (Or.inl ⟨rfl, by decide⟩)
          obtain ⟨kind, token, w1, w2, w3⟩ := num_end h (show p < k by omega) e1 e2 e3 kd
          have c1 : fX9_takeNumber kd (nI p) num (nI p) (nI k) A = some (kind, nI n', nI e) := e4.trans w1
          have c2 : fX11_advances_71 (nI (B p)) (nI k) t fuel (nI p) tok (nI p) 0 = some (nI e, token, nI p, nI v') := e5.trans w2
          rw [c1, bd3_in rfl, c2]
          have hpe := e6 ⟨by omega, qd⟩
          refine ⟨kind, nI n', token, nI v', p, e, rfl, rfl, Nat.le_refl _, e1, e2, ?_, fun z => ?_, fun _ => hpe⟩
          · rcases w3 with w | w
            · exact Or.inr (Or.inr (Or.inl w))
            · exact Or.inr (Or.inr (Or.inr (Or.inr w)))
          · rcases w3 with ⟨rfl, -⟩ | ⟨rfl, -⟩ <;> exact absurd z (by decide)
        · rw [if_neg qd, if00, if00, if00, nI_1]
          by_cases q59 : B p = 59
          · rw [if_pos (show nI (B p) = 59 from congrArg nI q59), if_pos (show nI (B p) = 59 from congrArg nI q59)]
            exact ⟨6, num, 3, val, p, p + 1, rfl, rfl, Nat.le_refl _, by omega, by omega, Or.inr (Or.inr (Or.inr (Or.inl ⟨rfl, rfl⟩))), fun z => absurd z (by decide), fun _ => by omega⟩
          · rw [if_neg (show ¬ nI (B p) = 59 from nb 59 (by decide) q59), if_neg (show ¬ nI (B p) = 59 from nb 59 (by decide) q59)]
            exact ⟨7, num, 4, val, p, p + 1, rfl, rfl, Nat.le_refl _, by omega, by omega, Or.inr (Or.inr (Or.inr (Or.inr ⟨rfl, rfl⟩))), fun z => absurd z (by decide), fun _ => by omega⟩
theorem adv {k : Nat} {A t : Nat → Int32} {B : Nat → Nat} (h : TT k A t B) (kd s0 num tok pl val : Int32) {p : Nat} (hp : p ≤ k) : ∃ (kind number token value : Int32) (st sp : Nat), fX9_advance kd s0 num (nI p) (nI k) A = some (kind, nI st, number, nI sp) ∧ fX11_advances (nI k) (nI p) tok pl val t = some (nI sp, token, nI st, value) ∧ p ≤ st ∧ st ≤ sp ∧ sp ≤ k ∧ Tok kind number token value ∧ (kind = 0 → st = k) ∧ (¬ kind = 0 → st < sp) :=
  have hk := h.1
  adv_loop h kd num tok pl val (nI p) (k - p) fuel fuel p (by omega) (fuel_gt (by omega)) (fuel_gt (by omega))
