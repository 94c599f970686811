/-! PURE. reads, group; what is given to those present; writes, mends -/
theorem sim_reads : Sim_reads RelV := by
  intro x tl tA R pn ps P I K ss sw se vr ty t cp s um U kp iK sm sW sI ak mp mk mv ml ma mr mw th hR
  obtain ⟨n, hn, rfl, hT, hRo, hPa, hIm, hSe, rfl⟩ := hR
  rcases isGroup_c x with e | ⟨e, g, hg, rfl⟩
  · refine ⟨-1, vr, mp, mk, mv, ml, ma, mr, mw, 0, vr, ?_, ?_, n, hn, rfl, hT, hRo, hPa, hIm, hSe, rfl⟩
    · unfold fX10_reads fX10_lookToRead; rw [e]; rfl
    · unfold fX11_reads_; rw [isGroup_eq, e]; rfl
  rcases look_c hn hRo (nI g) mp mk mv ml ma mr mw with ⟨e1, e2⟩ | ⟨p, vo, la, va, c, M, hp, h30, hM, hc, hcf, e1, e2, e3, e4, e5, e6⟩
  · refine ⟨-4, vr, 0, -9, 0, -9, -9, mr, mw, 0, vr, ?_, ?_, n, hn, rfl, hT, hRo, hPa, hIm, hSe, rfl⟩
    · unfold fX10_reads fX10_lookToRead; rw [e, bds, if10, e1]; rfl
    · unfold fX11_reads_; rw [isGroup_eq, e, bds, if10, e2]; rfl
  have en := rf_isEnough (w := 6) hp (by omega) (by decide) e3 e5
  have rf := sp_refusal (vo := vo) (va := va) (need := s (31 + c * 9 + 6)) hp 1
  have out : ∀ lr v : Int32, fX10_reads (nI g) vr R mp mk mv ml ma mr mw = some (lr, v, p, nI c, vo, la, va, s (31 + c * 9 + 6), s (31 + c * 9 + 7)) → fX11_reads_ (nI g) th (nI n) vr s = some (lr, 0, v) → ∃ (lr ox_valueRead ox_meeting_present ox_meeting_known ox_meeting_votes ox_meeting_latest ox_meeting_value ox_meeting_read ox_meeting_write om_thrown om_asked : Int32), fX10_reads (nI g) vr R mp mk mv ml ma mr mw = some (lr, ox_valueRead, ox_meeting_present, ox_meeting_known, ox_meeting_votes, ox_meeting_latest, ox_meeting_value, ox_meeting_read, ox_meeting_write) ∧ fX11_reads_ (nI g) th (nI n) vr s = some (lr, om_thrown, om_asked) ∧ RelV tl tA R pn ps P I K ss sw se ox_valueRead ty t (nI n) s um U kp iK sm sW sI om_asked :=
    fun lr v h1 h2 => ⟨lr, v, p, nI c, vo, la, va, s (31 + c * 9 + 6), s (31 + c * 9 + 7), 0, v, h1, h2, n, hn, rfl, hT, hRo, hPa, hIm, hSe, rfl⟩
  by_cases hf : vo < s (31 + c * 9 + 6)
  · rw [if_pos hf] at en rf
    refine out (-4) vr ?_ ?_
    · unfold fX10_reads fX10_lookToRead; rw [e, bds, if10, e1, bd7_in rfl, rf]; rfl
    · unfold fX11_reads_; rw [isGroup_eq, e, bds, if10, e2, bds, n6, en]; rfl
  rw [if_neg hf] at en rf
  rw [if_neg (by decide)] at rf
  by_cases hd : va = -9
  · rw [if_pos hd] at rf
    refine out (-5) vr ?_ ?_
    · unfold fX10_reads fX10_lookToRead; rw [e, bds, if10, e1, bd7_in rfl, rf]; rfl
    · unfold fX11_reads_; rw [isGroup_eq, e, bds, if10, e2, bds, n6, en, bds, if10, e6, bds, if_pos hd]
  · rw [if_neg hd] at rf
    refine out la va ?_ ?_
    · unfold fX10_reads fX10_lookToRead; rw [e, bds, if10, e1, bd7_in rfl, rf]; rfl
    · unfold fX11_reads_; rw [isGroup_eq, e, bds, if10, e2, bds, n6, en, bds, if10, e6, bds, if_neg hd, bds, e4]; rfl
/-- how many of those have another version -/
def fC (q : Nat → Bool) (V : Nat → Int32) (ver : Int32) : Nat → Nat → Int32 → Int32
  | 0, _, a => a
  | d + 1, i, a => fC q V ver d (i + 1) (if q i = true ∧ ¬ V i = ver then a + 1 else a)
theorem fC_congr {q : Nat → Bool} {V V' : Nat → Int32} {ver : Int32} : ∀ (d i : Nat) (a : Int32), (∀ j, i ≤ j → j < i + d → V j = V' j) → fC q V ver d i a = fC q V' ver d i a := by
  intro d
  induction d with
  | zero => intro i a h; rfl
  | succ d ih =>
    intro i a h
    show fC q V ver d (i + 1) _ = fC q V' ver d (i + 1) _
    rw [h i (by omega) (by omega)]
    exact ih (i + 1) _ (fun j h1 h2 => h j (by omega) (by omega))
theorem RowP_setK {n : Nat} (hn : n ≤ 6) {R s : Nat → Int32} {i k M : Nat} (hM : s 30 = nI M) (hM8 : M ≤ 8) (hk : k < M) (hi : 24 ≤ i) (hi2 : i < 30) (h : RowP n R s) : RowP n (upd R i (nI k)) (upd s i (nI k)) := by
  obtain ⟨⟨h1, h2, h3, h4⟩, M', m1, m2, m3, m4, m5, m6⟩ := h
  have hMM : M' = M := nI_inj (by omega) (by omega) (m3.symm.trans hM)
  subst hMM
  refine ⟨⟨fun j hj => ?_, by rw [pk_un (by omega)]; exact h2, by rw [pk_un (by omega), pk_un (by omega)]; exact h3, fun c hc => ⟨fun j hj => ?_, ?_, ?_, ?_⟩⟩, M', m1, m2, by rw [pk_un (by omega)]; exact m3, fun c hc => ?_, fun c hc => ?_, fun c hc => CfgK_congr (fun j hj => pk_un (by omega)) (m6 c hc)⟩
  · by_cases e : j = i
    · subst e; rw [pk_us, pk_us]
    · rw [pk_un e, pk_un e]; exact h1 j hj
  · rw [pk_un (by omega), pk_un (by omega)]; exact (h4 c hc).1 j hj
  · rw [pk_un (by omega), pk_un (by omega)]; exact (h4 c hc).2.1
  · rw [pk_un (by omega), pk_un (by omega)]; exact (h4 c hc).2.2.1
  · rw [pk_un (by omega), pk_un (by omega)]; exact (h4 c hc).2.2.2
  · rw [pk_un (by omega)]; exact m4 c hc
  · by_cases e : 24 + c = i
    · rw [← e, pk_us]; exact ⟨k, hk, rfl⟩
    · rw [pk_un e]; exact m5 c hc
theorem upd_comm {f : Nat → Int32} {i j : Nat} {a b : Int32} (h : i ≠ j) (k : Nat) : upd (upd f i a) j b k = upd (upd f j b) i a k := by
  by_cases e1 : k = i
  · subst e1
    rw [pk_us, pk_un h, pk_us]
  · rw [pk_un e1]
    by_cases e2 : k = j
    · subst e2; rw [pk_us, pk_us]
    · rw [pk_un e2, pk_un e2, pk_un e1]
theorem renew_gives {n M cf : Nat} (hn : n ≤ 6) (hM8 : M ≤ 8) (hcf : cf < M) (x ver val : Int32) : ∀ (d f f' i : Nat) (cnt : Int32) (R s : Nat → Int32), RowP n R s → s 30 = nI M → i + d = n → d < f → d < f' → ∃ R' s', fX7_renew_6 x (nI cf) ver val f cnt (nI i) R = some (fC (bt x) (fun j => R (12 + j)) ver d i cnt, R') ∧ fX11_gives_3 x (nI cf) ver val (nI n) f' (nI i) s = some s' ∧ RowP n R' s' := by
  intro d
  induction d with
  | zero =>
    intro f f' i cnt R s hR hM hi hf hf'
    obtain ⟨f, rfl⟩ : ∃ g, f = g + 1 := ⟨f - 1, by omega⟩
    obtain ⟨f', rfl⟩ : ∃ g, f' = g + 1 := ⟨f' - 1, by omega⟩
    refine ⟨R, s, ?_, ?_, hR⟩
    · rw [fX7_renew_6_s, sp_copies, bds, hR.1.2.1, if_pos (nI_le (by omega) (by omega))]
      rfl
    · rw [fX11_gives_3_s, if_pos (nI_le (by omega) (by omega))]
  | succ d ih =>
    intro f f' i cnt R s hR hM hi hf hf'
    obtain ⟨f, rfl⟩ : ∃ g, f = g + 1 := ⟨f - 1, by omega⟩
    obtain ⟨f', rfl⟩ : ∃ g, f' = g + 1 := ⟨f' - 1, by omega⟩
    by_cases hb : bt x i = true
    · have hw : R (32 + cf * 9 + 6) = s (31 + cf * 9 + 8) := (hR.1.2.2.2 cf (by omega)).2.1
      have step : ∀ v : Int32, RowP n (upd (upd (upd R (12 + i) ver) (24 + i) (nI cf)) (18 + i) v) (upd (upd (upd s (24 + i) (nI cf)) (12 + i) ver) (18 + i) v) := by
        intro v
        refine RowP_congr hn (fun k _ => rfl) (fun k _ => ?_) (RowP_set hn (i := 18 + i) (v := v) (by omega) (fun h => absurd h (by omega)) (RowP_setK hn (i := 24 + i) (M := M) (k := cf) (by rw [pk_un (by omega)]; exact hM) hM8 hcf (by omega) (by omega) (RowP_set hn (i := 12 + i) (v := ver) (by omega) (fun h => absurd h (by omega)) hR)))
        by_cases e : k = 18 + i
        · subst e; rw [pk_us, pk_us]
        · rw [pk_un e, pk_un e]; exact upd_comm (by omega) k
      have stM : ∀ v : Int32, (upd (upd (upd s (24 + i) (nI cf)) (12 + i) ver) (18 + i) v) 30 = nI M := fun v => by rw [pk_un (by omega), pk_un (by omega), pk_un (by omega)]; exact hM
      have cc : ∀ (v cnt' : Int32), fC (bt x) (fun j => upd (upd (upd R (12 + i) ver) (24 + i) (nI cf)) (18 + i) v (12 + j)) ver d (i + 1) cnt' = fC (bt x) (fun j => R (12 + j)) ver d (i + 1) cnt' := fun v cnt' => fC_congr d (i + 1) cnt' (fun j h1 h2 => by
        show upd (upd (upd R (12 + i) ver) (24 + i) (nI cf)) (18 + i) v (12 + j) = R (12 + j)
        rw [pk_un (by omega), pk_un (by omega), pk_un (by omega)])
      have body : ∃ v : Int32, (∀ cnt' : Int32, fX7_renew_42 (fX7_renew_6 x (nI cf) ver val f) x (nI cf) ver val cnt' (nI i) R = fX7_renew_6 x (nI cf) ver val f cnt' (nI (i + 1)) (upd (upd (upd R (12 + i) ver) (24 + i) (nI cf)) (18 + i) v)) ∧ fX11_gives_3 x (nI cf) ver val (nI n) (f' + 1) (nI i) s = fX11_gives_3 x (nI cf) ver val (nI n) f' (nI (i + 1)) (upd (upd (upd s (24 + i) (nI cf)) (12 + i) ver) (18 + i) v) := by
        refine ⟨if bt (R (32 + cf * 9 + 6)) i = true then -9 else val, fun cnt' => ?_, ?_⟩
        · unfold fX7_renew_42
          rw [n12, n18, n24, ixs, ixs, ixs, ckN (by omega) (by decide), ckN (by omega) (by decide), ckN (by omega) (by decide), nI_clamp (by omega), nI_clamp (by omega), nI_clamp (by omega), nI_1, sp_isWitness (by omega) (by omega), bds, pk_un (by omega), pk_un (by omega)]
          by_cases q : bt (R (32 + cf * 9 + 6)) i = true
          · rw [if_pos q, if10, ckN (by omega) (by decide), if_pos q]
          · rw [if_neg q, if00, if_neg q]
        · rw [fX11_gives_3_s, if_neg (nI_ge (by omega) (by omega)), rf_has (by omega), bds, if_pos hb, if10, rf_confAt, bds, n12, n18, n24, n8, ixs, ixs, ixs, ixs, ckN (by omega) (by decide), ckN (by omega) (by decide), ckN (by omega) (by decide), ckN (by omega) (by decide), nI_clamp (by omega), nI_clamp (by omega), nI_clamp (by omega), nI_clamp (by omega), nI_1, pk_un (by omega), pk_un (by omega), rf_has (by omega), bds, hw]
          by_cases q : bt (s (31 + cf * 9 + 8)) i = true
          · rw [if_pos q, if10, ckN (by omega) (by decide), if_pos q]
          · rw [if_neg q, if00, if_neg q]
      obtain ⟨v, bd1', bd2'⟩ := body
      obtain ⟨R', s', e1, e2, hP'⟩ := ih f f' (i + 1) (if bt x i = true ∧ ¬ R (12 + i) = ver then cnt + 1 else cnt) _ _ (step v) (stM v) (by omega) (by omega) (by omega)
      refine ⟨R', s', ?_, by rw [bd2']; exact e2, hP'⟩
      rw [cc] at e1
      rw [fX7_renew_6_s, sp_copies, bds, hR.1.2.1, if_neg (nI_ge (by omega) (by omega)), if_pos ((bt_iff (by omega)).mpr hb), n12, ixs, ckN (by omega) (by decide), nI_clamp (by omega), bd1', bd1']
      show _ = some (fC (bt x) (fun j => R (12 + j)) ver d (i + 1) (if bt x i = true ∧ ¬ R (12 + i) = ver then cnt + 1 else cnt), R')
      rw [← e1]
      by_cases q : R (12 + i) = ver
      · rw [if_pos q, if_neg (fun z => z.2 q)]
      · rw [if_neg q, if_pos ⟨hb, q⟩]
    · obtain ⟨R', s', e1, e2, hP'⟩ := ih f f' (i + 1) cnt R s hR hM (by omega) (by omega) (by omega)
      refine ⟨R', s', ?_, ?_, hP'⟩
      · rw [fX7_renew_6_s, sp_copies, bds, hR.1.2.1, if_neg (nI_ge (by omega) (by omega)), if_neg (fun q => hb ((bt_iff (by omega)).mp q)), nI_1, e1]
        show _ = some (fC (bt x) _ ver d (i + 1) _, R')
        rw [if_neg (fun z => hb z.1)]
      · rw [fX11_gives_3_s, if_neg (nI_ge (by omega) (by omega)), rf_has (by omega), bds, if_neg hb, if00, nI_1]
        exact e2
theorem renew_c {n M cf : Nat} (hn : n ≤ 6) (hM8 : M ≤ 8) (hcf : cf < M) (x ver val : Int32) {R s : Nat → Int32} (hR : RowP n R s) (hM : s 30 = nI M) : ∃ R' s', fX7_renew x (nI cf) ver val R = some (fC (bt x) (fun j => R (12 + j)) ver n 0 0, R') ∧ fX11_gives x (nI cf) ver val (nI n) s = some s' ∧ RowP n R' s' := renew_gives hn hM8 hcf x ver val n fuel fuel 0 0 R s hR hM (by omega) (fuel_gt (by omega)) (fuel_gt (by omega))
theorem sim_writes : Sim_writes RelV := by
  intro x y tl tA R pn ps P I K ss sw se vr ty t cp s um U kp iK sm sW sI ak mp mk mv ml ma mr mw th hR
  obtain ⟨n, hn, rfl, hT, hRo, hPa, hIm, hSe, rfl⟩ := hR
  rcases isGroup_c x with e | ⟨e, g, hg, rfl⟩
  · refine ⟨-1, R, pn, ps, P, mp, mk, mv, ml, ma, mr, mw, 0, um, s, U, ?_, ?_, n, hn, rfl, hT, hRo, hPa, hIm, hSe, rfl⟩
    · unfold fX10_writes; rw [e]; rfl
    · unfold fX11_writes; rw [isGroup_eq, e]; rfl
  rcases iw y 0 999 with ⟨e', -⟩ | ⟨e', -, -⟩
  · refine ⟨-1, R, pn, ps, P, mp, mk, mv, ml, ma, mr, mw, 0, um, s, U, ?_, ?_, n, hn, rfl, hT, hRo, hPa, hIm, hSe, rfl⟩
    · unfold fX10_writes; rw [e, bds, if10, e']; rfl
    · unfold fX11_writes; rw [isGroup_eq, e, bds, if10, iw_eq, e']; rfl
  rcases look_c hn hRo (nI g) mp mk mv ml ma mr mw with ⟨e1, e2⟩ | ⟨p, vo, la, va, c, M, hp, h30, hM, hc, hcf, e1, e2, e3, e4, e5, e6⟩
  · refine ⟨-4, R, pn, ps, P, 0, -9, 0, -9, -9, mr, mw, 0, um, s, U, ?_, ?_, n, hn, rfl, hT, hRo, hPa, hIm, hSe, rfl⟩
    · unfold fX10_writes; rw [e, bds, if10, e', bds, if10, e1]; rfl
    · unfold fX11_writes; rw [isGroup_eq, e, bds, if10, iw_eq, e', bds, if10, e2]; rfl
  have en := rf_isEnough (w := 7) hp (by omega) (by decide) e3 e5
  have rf := sp_refusal (vo := vo) (va := va) (need := s (31 + c * 9 + 7)) hp 0
  by_cases hf : vo < s (31 + c * 9 + 7)
  · rw [if_pos hf] at en rf
    refine ⟨-4, R, pn, ps, P, p, nI c, vo, la, va, s (31 + c * 9 + 6), s (31 + c * 9 + 7), 0, um, s, U, ?_, ?_, n, hn, rfl, hT, hRo, hPa, hIm, hSe, rfl⟩
    · unfold fX10_writes; rw [e, bds, if10, e', bds, if10, e1, bd7_in rfl, rf]; rfl
    · unfold fX11_writes; rw [isGroup_eq, e, bds, if10, iw_eq, e', bds, if10, e2, bds, n7, en]; rfl
  · rw [if_neg hf] at en rf
    rw [if_pos rfl] at rf
    obtain ⟨pn', ps', um', P', U', p1, p2, hPa'⟩ := past_push hn hPa hRo
    obtain ⟨R', s', r1, r2, hRo'⟩ := renew_c hn hM hc p (la + 1) y hRo h30
    refine ⟨la + 1, R', pn', ps', P', p, nI c, vo, la, va, s (31 + c * 9 + 6), s (31 + c * 9 + 7), 0, um', s', U', ?_, ?_, n, hn, rfl, hT, hRo', hPa', hIm, hSe, rfl⟩
    · unfold fX10_writes; rw [e, bds, if10, e', bds, if10, e1, bd7_in rfl, rf, bds, if00, p1, bd3_in rfl, r1]; rfl
    · unfold fX11_writes; rw [isGroup_eq, e, bds, if10, iw_eq, e', bds, if10, e2, bds, n7, en, bds, if10, p2, bd2_in rfl, e4, bds, e3, bds, r2]; rfl
theorem rf_mends {n : Nat} (hn : n ≤ 6) {s s' U : Nat → Int32} {x val la : Int32} {c : Nat} (th um : Int32) (e1 : fX11_greatest x 24 (nI n) s = some (nI c)) (e2 : fX11_gives x (nI c) la val (nI n) s = some s') : ∀ (d f i : Nat) (a : Int32), i + d = n → d < f → fX11_mends_67 x val la (nI n) f a (nI i) th um s U = some (fC (bt x) (fun j => s (12 + j)) la d i a, th, um, s', U) := by
  intro d
  induction d with
  | zero =>
    intro f i a hi hf
    obtain ⟨f, rfl⟩ : ∃ g, f = g + 1 := ⟨f - 1, by omega⟩
    rw [fX11_mends_67_s, if_pos (nI_le (by omega) (by omega)), e1, bds, e2]
    rfl
  | succ d ih =>
    intro f i a hi hf
    obtain ⟨f, rfl⟩ : ∃ g, f = g + 1 := ⟨f - 1, by omega⟩
    rw [fX11_mends_67_s, if_neg (nI_ge (by omega) (by omega)), rf_has (by omega), bds, n12, ixs, ckN (by omega) (by decide), nI_clamp (by omega), nI_1, Int32.add_zero, ih f (i + 1) _ (by omega) (by omega), ih f (i + 1) _ (by omega) (by omega)]
    show _ = some (fC _ _ la d (i + 1) (if bt x i = true ∧ ¬ s (12 + i) = la then a + 1 else a), th, um, s', U)
    by_cases h : bt x i = true
    · rw [if_pos h, if10]
      by_cases q : s (12 + i) = la
      · rw [if_pos q, if_neg (fun z => z.2 q)]
      · rw [if_neg q, if_pos ⟨h, q⟩]
    · rw [if_neg h, if00, if_neg (fun z => h z.1)]
theorem sim_mends : Sim_mends RelV := by
  intro x tl tA R pn ps P I K ss sw se vr ty t cp s um U kp iK sm sW sI ak mp mk mv ml ma mr mw th hR
  obtain ⟨n, hn, rfl, hT, hRo, hPa, hIm, hSe, rfl⟩ := hR
  rcases isGroup_c x with e | ⟨e, g, hg, rfl⟩
  · refine ⟨-1, R, pn, ps, P, mp, mk, mv, ml, ma, mr, mw, 0, um, s, U, ?_, ?_, n, hn, rfl, hT, hRo, hPa, hIm, hSe, rfl⟩
    · unfold fX10_mends fX10_lookToRead; rw [e]; rfl
    · unfold fX11_mends; rw [isGroup_eq, e]; rfl
  rcases look_c hn hRo (nI g) mp mk mv ml ma mr mw with ⟨e1, e2⟩ | ⟨p, vo, la, va, c, M, hp, h30, hM, hc, hcf, e1, e2, e3, e4, e5, e6⟩
  · refine ⟨-4, R, pn, ps, P, 0, -9, 0, -9, -9, mr, mw, 0, um, s, U, ?_, ?_, n, hn, rfl, hT, hRo, hPa, hIm, hSe, rfl⟩
    · unfold fX10_mends fX10_lookToRead; rw [e, bds, if10, e1]; rfl
    · unfold fX11_mends; rw [isGroup_eq, e, bds, if10, e2]; rfl
  have en := rf_isEnough (w := 6) hp (by omega) (by decide) e3 e5
  have rf := sp_refusal (vo := vo) (va := va) (need := s (31 + c * 9 + 6)) hp 1
  by_cases hf : vo < s (31 + c * 9 + 6)
  · rw [if_pos hf] at en rf
    refine ⟨-4, R, pn, ps, P, p, nI c, vo, la, va, s (31 + c * 9 + 6), s (31 + c * 9 + 7), 0, um, s, U, ?_, ?_, n, hn, rfl, hT, hRo, hPa, hIm, hSe, rfl⟩
    · unfold fX10_mends fX10_lookToRead; rw [e, bds, if10, e1, bd7_in rfl, rf]; rfl
    · unfold fX11_mends; rw [isGroup_eq, e, bds, if10, e2, bds, n6, en]; rfl
  rw [if_neg hf] at en rf
  rw [if_neg (by decide)] at rf
  by_cases hd : va = -9
  · rw [if_pos hd] at rf
    refine ⟨-5, R, pn, ps, P, p, nI c, vo, la, va, s (31 + c * 9 + 6), s (31 + c * 9 + 7), 0, um, s, U, ?_, ?_, n, hn, rfl, hT, hRo, hPa, hIm, hSe, rfl⟩
    · unfold fX10_mends fX10_lookToRead; rw [e, bds, if10, e1, bd7_in rfl, rf]; rfl
    · unfold fX11_mends; rw [isGroup_eq, e, bds, if10, e2, bds, n6, en, bds, if10, e6, bds, if_pos hd]
  · rw [if_neg hd] at rf
    obtain ⟨pn', ps', um', P', U', p1, p2, hPa'⟩ := past_push hn hPa hRo
    obtain ⟨R', s', r1, r2, hRo'⟩ := renew_c hn hM hc p la va hRo h30
    have hm := rf_mends hn (U := U') 0 um' e3 r2 n fuel 0 0 (by omega) (fuel_gt (by omega))
    have hcc : fC (bt p) (fun j => R (12 + j)) la n 0 0 = fC (bt p) (fun j => s (12 + j)) la n 0 0 := fC_congr n 0 0 (fun j _ hj => hRo.1.1 (12 + j) (by omega))
    refine ⟨fC (bt p) (fun j => s (12 + j)) la n 0 0, R', pn', ps', P', p, nI c, vo, la, va, s (31 + c * 9 + 6), s (31 + c * 9 + 7), 0, um', s', U', ?_, ?_, n, hn, rfl, hT, hRo', hPa', hIm, hSe, rfl⟩
    · unfold fX10_mends fX10_lookToRead; rw [e, bds, if10, e1, bd7_in rfl, rf, bds, bd8_in rfl, if00, p1, bd3_in rfl, r1, hcc]; rfl
    · unfold fX11_mends; rw [isGroup_eq, e, bds, if10, e2, bds, n6, en, bds, if10, e6, bds, if_neg hd, p2, bd2_in rfl, e4, bds]; exact hm
