/-! PURE. unseen -/
def al (s : Nat → Int32) (M : Nat) (sW sI : Nat → Int32) (y : Int32) : Nat → Nat → Bool
  | 0, _ => true
  | d + 1, i => decide ((if y < wants s M (sW i) then (0 : Int32) else 1) = sI i) && al s M sW sI y d (i + 1)
theorem al_s (s : Nat → Int32) (M : Nat) (sW sI : Nat → Int32) (y : Int32) (d i : Nat) : al s M sW sI y (d + 1) i = (decide ((if y < wants s M (sW i) then (0 : Int32) else 1) = sI i) && al s M sW sI y d (i + 1)) := rfl
theorem sp_allows25 {R s sw se sW sI : Nat → Int32} {n M k : Nat} (hk : k ≤ 6) (hR : RowR n R s) (h1 : 1 ≤ M) (h8 : M ≤ 8) (y : Int32) (hs : ∀ i, i < k → sw i = sW i ∧ se i = sI i ∧ (sW i = 0 ∨ sW i = 1) ∧ (sI i = 0 ∨ sI i = 1)) : ∀ (d f i : Nat), i + d = k → d < f → fX6_allows_25 (nI (M - 1)) y (nI k) sw se R f (nI i) = some (if al s M sW sI y d i = true then 1 else 0) := by
  intro d
  induction d with
  | zero =>
    intro f i hi hf
    obtain ⟨f, rfl⟩ : ∃ g, f = g + 1 := ⟨f - 1, by omega⟩
    rw [fX6_allows_25_s, if_pos (nI_le (by omega) (by omega))]
    rfl
  | succ d ih =>
    intro f i hi hf
    obtain ⟨f, rfl⟩ : ∃ g, f = g + 1 := ⟨f - 1, by omega⟩
    have hsi := hs i (by omega)
    rw [fX6_allows_25_s, if_neg (nI_ge (by omega) (by omega)), ckN (by omega) (by decide), nI_clamp (by omega), sp_wants hR h1 h8, bds, hsi.1]
    unfold fX6_allows_56
    rw [ckN (by omega) (by decide), ckN (by omega) (by decide), nI_clamp (by omega), nI_1, ih f (i + 1) (by omega) (by omega), hsi.2.1]
    rw [al_s]
    by_cases q : y < wants s M (sW i)
    · rw [if_pos q, if_pos q]
      by_cases z : (0 : Int32) = sI i
      · rw [if_pos z, decide_eq_true z, Bool.true_and]
      · rw [if_neg z, decide_eq_false z, Bool.false_and, if_neg (by decide)]
    · rw [if_neg q, if_neg q]
      by_cases z : (1 : Int32) = sI i
      · rw [if_pos z, decide_eq_true z, Bool.true_and]
      · rw [if_neg z, decide_eq_false z, Bool.false_and, if_neg (by decide)]
theorem rf_unseen46z {sW sI s : Nat → Int32} {n k : Nat} (hk : k ≤ 6) (jk : Int32 → Int32 → Int32 → Int32 → Option (Int32 × Int32)) (x1 x2 x3 x4 x5 : Int32) : ∀ (d f i : Nat), i + d = k → d < f → fX11_unseen_46 jk x1 x2 x3 x4 x5 (nI n) (nI k) s sW sI f 0 (nI i) 0 = jk (x3 + 0) x4 (x5 + 1) 0 := by
  intro d
  induction d with
  | zero =>
    intro f i hi hf
    obtain ⟨f, rfl⟩ : ∃ g, f = g + 1 := ⟨f - 1, by omega⟩
    rw [fX11_unseen_46_s, if_pos (nI_le (by omega) (by omega)), if00]
    rfl
  | succ d ih =>
    intro f i hi hf
    obtain ⟨f, rfl⟩ : ∃ g, f = g + 1 := ⟨f - 1, by omega⟩
    rw [fX11_unseen_46_s, if_neg (nI_ge (by omega) (by omega)), if00, nI_1, ih f (i + 1) (by omega) (by omega)]
theorem rf_unseen46 {sW sI s : Nat → Int32} {n k M : Nat} (hk : k ≤ 6) (hn : n ≤ 6) (h : s 30 = nI M) (h1 : 1 ≤ M) (h8 : M ≤ 8) (jk : Int32 → Int32 → Int32 → Int32 → Option (Int32 × Int32)) (x1 x2 x3 x4 x5 : Int32) (hs : ∀ i, i < k → sI i = 0 ∨ sI i = 1) : ∀ (d f i : Nat), i + d = k → d < f → fX11_unseen_46 jk x1 x2 x3 x4 x5 (nI n) (nI k) s sW sI f 1 (nI i) 0 = if al s M sW sI (vs s n M (x2 &&& (x5 ^^^ (-1)))) d i = true then jk (x3 + 1) (if x3 = 0 then x5 else x4) (x5 + 1) 0 else jk (x3 + 0) x4 (x5 + 1) 0 := by
  intro d
  induction d with
  | zero =>
    intro f i hi hf
    obtain ⟨f, rfl⟩ : ∃ g, f = g + 1 := ⟨f - 1, by omega⟩
    rw [fX11_unseen_46_s, if_pos (nI_le (by omega) (by omega)), if10, if_pos (show al s M sW sI (vs s n M (x2 &&& (x5 ^^^ (-1)))) 0 i = true from rfl)]
    by_cases q : x3 = 0
    · rw [if_pos q, if_pos q]; rfl
    · rw [if_neg q, if_neg q]; rfl
  | succ d ih =>
    intro f i hi hf
    obtain ⟨f, rfl⟩ : ∃ g, f = g + 1 := ⟨f - 1, by omega⟩
    rw [fX11_unseen_46_s, if_neg (nI_ge (by omega) (by omega)), if10, ckN (by omega) (by decide), nI_clamp (by omega), rf_enoughNow hn h h1 h8, bds, ckN (by omega) (by decide)]
    unfold fX11_unseen_93
    rw [nI_1, ih f (i + 1) (by omega) (by omega), rf_unseen46z hk jk x1 x2 x3 x4 x5 d f (i + 1) (by omega) (by omega)]
    rw [al_s]
    rcases hs i (by omega) with e | e
    · rw [e, if_neg (show ¬ (0 : Int32) = 1 by decide)]
      by_cases z : (if vs s n M (x2 &&& (x5 ^^^ (-1))) < wants s M (sW i) then (0 : Int32) else 1) = 0
      · rw [if_pos z, decide_eq_true z, Bool.true_and]
      · rw [if_neg z, decide_eq_false z, Bool.false_and, if_neg (show ¬ false = true by decide)]
    · rw [e, if_pos (show (1 : Int32) = 1 from rfl)]
      by_cases z : (if vs s n M (x2 &&& (x5 ^^^ (-1))) < wants s M (sW i) then (0 : Int32) else 1) = 1
      · rw [if_pos z, decide_eq_true z, Bool.true_and]
      · rw [if_neg z, decide_eq_false z, Bool.false_and, if_neg (show ¬ false = true by decide)]
theorem unseen_loop {R s sw se sW sI : Nat → Int32} {n M m : Nat} (hn : n ≤ 6) (hm : m ≤ 6) (hR : RowR n R s) (h : s 30 = nI M) (h1 : 1 ≤ M) (h8 : M ≤ 8) (hs : ∀ i, i < m → sw i = sW i ∧ se i = sI i ∧ (sW i = 0 ∨ sW i = 1) ∧ (sI i = 0 ∨ sI i = 1)) (x : Int32) : ∀ (d f f' k c : Nat) (le : Int32), k + d = 2 ^ n → d < f → d < f' → c ≤ k → (c = 0 → le = -9) → (¬ c = 0 → ¬ le = -9) → ∃ r, fX10_unseen_19 x R (nI m) sw se f (nI c) le (nI k) = some r ∧ fX11_unseen_34 x (nI (2 ^ n - 1)) (nI n) (nI m) s sW sI f' (nI c) le (nI k) 0 = some (r, 0) := by
  have hp := pw_le hn
  have h31 : R 31 = nI M := hR.2.2.1.trans h
  intro d
  induction d with
  | zero =>
    intro f f' k c le hk hf hf' hc h0 h0'
    obtain ⟨f, rfl⟩ : ∃ g, f = g + 1 := ⟨f - 1, by omega⟩
    obtain ⟨f', rfl⟩ : ∃ g, f' = g + 1 := ⟨f' - 1, by omega⟩
    refine ⟨if x = 0 then nI c else le, ?_, ?_⟩
    · rw [fX10_unseen_19_s, sp_sets, bds, hR.2.1, sets_n n hn, if_pos (nI_le (by omega) (by omega))]
      by_cases q : x = 0
      · rw [if_pos q, if_pos q]
      · rw [if_neg q, if_neg q]
    · rw [fX11_unseen_34_s, if_pos (nI_lt (by omega) (by omega))]
      by_cases q : x = 0
      · rw [if_pos q, if_pos q]
      · rw [if_neg q, if_neg q]
  | succ d ih =>
    intro f f' k c le hk hf hf' hc h0 h0'
    obtain ⟨f, rfl⟩ : ∃ g, f = g + 1 := ⟨f - 1, by omega⟩
    obtain ⟨f', rfl⟩ : ∃ g, f' = g + 1 := ⟨f' - 1, by omega⟩
    have ha : fX6_allows (nI k) (nI m) sw se R = some (if al s M sW sI (vs s n M (nI (2 ^ n - 1) &&& (nI k ^^^ (-1)))) m 0 = true then 1 else 0) := by
      unfold fX6_allows
      rw [sp_newestM h31 h1, bds, sp_sets, bds, hR.2.1, sets_n n hn, nsub1 hp.1, sp_vs hn hR h1 h8, bds]
      exact sp_allows25 hm hR h1 h8 _ hs m fuel 0 (by omega) (fuel_gt (by omega))
    have hb := rf_unseen46 (sW := sW) hm hn h h1 h8 (fX11_unseen_34 x (nI (2 ^ n - 1)) (nI n) (nI m) s sW sI f') x (nI (2 ^ n - 1)) (nI c) le (nI k) (fun i hi => (hs i hi).2.2.2) m fuel 0 (by omega) (fuel_gt (by omega))
    rw [fX10_unseen_19_s, sp_sets, bds, hR.2.1, sets_n n hn, if_neg (nI_ge (by omega) (by omega)), ha, bds, fX11_unseen_34_s, if_neg (nI_nlt (by omega) (by omega)), show fX11_unseen_46 _ x (nI (2 ^ n - 1)) (nI c) le (nI k) (nI n) (nI m) s sW sI fuel 1 0 0 = _ from hb, nI_1, nI_1, Int32.add_zero]
    by_cases q : al s M sW sI (vs s n M (nI (2 ^ n - 1) &&& (nI k ^^^ (-1)))) m 0 = true
    · rw [if_pos q, if_pos q, if10]
      have k9 : ¬ nI k = -9 := by
        intro e
        have h1 : (0 : Int32) ≤ nI k := nI_pos' (by omega)
        rw [e] at h1
        exact absurd h1 (by decide)
      by_cases z : c = 0
      · rw [if_pos (h0 z), if_pos (show nI c = 0 from by rw [z]; rfl)]
        exact ih f f' (k + 1) (c + 1) (nI k) (by omega) (by omega) (by omega) (by omega) (fun e => by omega) (fun _ => k9)
      · rw [if_neg (h0' z), if_neg (show ¬ nI c = 0 from fun e => z (nI_inj (by omega) (by decide) e))]
        exact ih f f' (k + 1) (c + 1) le (by omega) (by omega) (by omega) (by omega) (fun e => by omega) (fun _ => h0' z)
    · rw [if_neg q, if_neg q, if00]
      exact ih f f' (k + 1) c le (by omega) (by omega) (by omega) (by omega) h0 h0'
theorem sim_unseen : Sim_unseen RelV := by
  intro x tl tA R pn ps P I K ss sw se vr ty t cp s um U kp iK sm sW sI ak th hR
  obtain ⟨n, hn, rfl, hT, hRo, hPa, hIm, ⟨k, hk, rfl, rfl, hs⟩, rfl⟩ := hR
  have out : ∀ lr : Int32, fX10_unseen x R (nI k) sw se = some lr → fX11_unseen x th (nI n) (nI k) s sW sI = some (lr, 0) → ∃ (lr om_thrown : Int32), fX10_unseen x R (nI k) sw se = some lr ∧ fX11_unseen x th (nI n) (nI k) s sW sI = some (lr, om_thrown) ∧ RelV tl tA R pn ps P I K (nI k) sw se vr ty t (nI n) s um U kp iK (nI k) sW sI vr :=
    fun lr h1 h2 => ⟨lr, 0, h1, h2, n, hn, rfl, hT, hRo, hPa, hIm, ⟨k, hk, rfl, rfl, hs⟩, rfl⟩
  have hRo' := hRo
  obtain ⟨hRR, M, m1, m2, m3, -⟩ := hRo'
  have hp := pw_le hn
  rcases iw x 0 1 with ⟨e, -⟩ | ⟨e, -, -⟩
  · refine out (-1) ?_ ?_
    · unfold fX10_unseen; rw [e]; rfl
    · unfold fX11_unseen; rw [iw_eq, e]; rfl
  · obtain ⟨r, e1, e2⟩ := unseen_loop (sw := sw) (se := se) hn hk hRR m3 m1 m2 hs x (2 ^ n) fuel fuel 0 0 (-9) (by omega) (fuel_gt (by omega)) (fuel_gt (by omega)) (Nat.le_refl _) (fun _ => rfl) (fun q => absurd rfl q)
    refine out r ?_ ?_
    · unfold fX10_unseen
      rw [e, bds, if10]
      exact e1
    · unfold fX11_unseen
      rw [iw_eq, e, bds, if10, sets_n n hn, nsub1 hp.1]
      exact e2
