/-! the walk's own words: contracts that read, contracts that write, the pure combinators that the walked functions are made of -/
def ckI {α : Type} (n : Nat) (i : Int32) (k : Option α) : Option α := if i < 0 ∨ n ≤ i.toNatClampNeg then none else k
theorem ckI_inv {α : Type} {n : Nat} {i : Int32} {k : Option α} {o : α} (h : ckI n i k = some o) : vp_in i n ∧ k = some o := by
  unfold ckI at h
  by_cases hc : i < 0 ∨ n ≤ i.toNatClampNeg
  · rw [if_pos hc] at h; cases h
  · rw [if_neg hc] at h; exact ⟨hc, h⟩
theorem ckI_in {α : Type} {n : Nat} {i : Int32} {k : Option α} (h : vp_in i n) : ckI n i k = k := if_neg h
def dvI {α : Type} (y : Int32) (k : Option α) : Option α := if y = 0 then none else k
theorem dvI_inv {α : Type} {y : Int32} {k : Option α} {o : α} (h : dvI y k = some o) : ¬ y = 0 ∧ k = some o := by
  unfold dvI at h
  by_cases hc : y = 0
  · rw [if_pos hc] at h; cases h
  · rw [if_neg hc] at h; exact ⟨hc, h⟩
theorem dvI_in {α : Type} {y : Int32} {k : Option α} (h : ¬ y = 0) : dvI y k = k := if_neg h
def zcI {α : Type} (v : Int32) (k : Option α) : Option α := if v &&& 1 = v then k else none
theorem zcI_inv {α : Type} {v : Int32} {k : Option α} {o : α} (h : zcI v k = some o) : v &&& 1 = v ∧ k = some o := by
  unfold zcI at h
  by_cases hc : v &&& 1 = v
  · rw [if_pos hc] at h; exact ⟨hc, h⟩
  · rw [if_neg hc] at h; cases h
theorem zcI_in {α : Type} {v : Int32} {k : Option α} (h : v &&& 1 = v) : zcI v k = k := if_pos h
def cpI {α : Type} (n0 n1 : Nat) (sp dp n : Int32) (k : Option α) : Option α := if sp < 0 ∨ dp < 0 ∨ n < 0 ∨ ¬ sp.toNatClampNeg + n.toNatClampNeg ≤ n0 ∨ ¬ dp.toNatClampNeg + n.toNatClampNeg ≤ n1 then none else k
theorem cpI_inv {α : Type} {n0 n1 : Nat} {sp dp n : Int32} {k : Option α} {o : α} (h : cpI n0 n1 sp dp n k = some o) : ¬ sp < 0 ∧ ¬ dp < 0 ∧ ¬ n < 0 ∧ sp.toNatClampNeg + n.toNatClampNeg ≤ n0 ∧ dp.toNatClampNeg + n.toNatClampNeg ≤ n1 ∧ k = some o := by
  unfold cpI at h
  by_cases hc : sp < 0 ∨ dp < 0 ∨ n < 0 ∨ ¬ sp.toNatClampNeg + n.toNatClampNeg ≤ n0 ∨ ¬ dp.toNatClampNeg + n.toNatClampNeg ≤ n1
  · rw [if_pos hc] at h; cases h
  · rw [if_neg hc] at h
    simp only [not_or, Decidable.not_not] at hc
    exact ⟨hc.1, hc.2.1, hc.2.2.1, hc.2.2.2.1, hc.2.2.2.2, h⟩
theorem cpI_in {α : Type} {n0 n1 : Nat} {sp dp n : Int32} {k : Option α} (h1 : ¬ sp < 0) (h2 : ¬ dp < 0) (h3 : ¬ n < 0) (h4 : sp.toNatClampNeg + n.toNatClampNeg ≤ n0) (h5 : dp.toNatClampNeg + n.toNatClampNeg ≤ n1) : cpI n0 n1 sp dp n k = k := by
  unfold cpI
  rw [if_neg]
  simp only [not_or, Decidable.not_not]
  exact ⟨h1, h2, h3, h4, h5⟩
def bd1 {α β : Type} (a : Option α) (k : α → Option β) : Option β := match a with
  | none => none
  | some x => k x
theorem bd1_inv {α β : Type} {a : Option α} {k : α → Option β} {o : β} (h : bd1 a k = some o) : ∃ x, a = some x ∧ k x = some o := by
  cases a with
  | none => cases h
  | some x => exact ⟨x, rfl, h⟩
theorem bd1_in {α β : Type} {a : Option α} {k : α → Option β} {x : α} (h : a = some x) : bd1 a k = k x := by rw [h]; rfl
def bd2 {α β γ : Type} (a : Option (α × β)) (k : α → β → Option γ) : Option γ := match a with
  | none => none
  | some q => k q.1 q.2
theorem bd2_inv {α β γ : Type} {a : Option (α × β)} {k : α → β → Option γ} {o : γ} (h : bd2 a k = some o) : ∃ x y, a = some (x, y) ∧ k x y = some o := by
  cases a with
  | none => cases h
  | some q => exact ⟨q.1, q.2, rfl, h⟩
theorem bd2_in {α β γ : Type} {a : Option (α × β)} {k : α → β → Option γ} {x : α} {y : β} (h : a = some (x, y)) : bd2 a k = k x y := by rw [h]; rfl
def bd3 {α β γ δ : Type} (a : Option (α × β × γ)) (k : α → β → γ → Option δ) : Option δ := match a with
  | none => none
  | some q => k q.1 q.2.1 q.2.2
theorem bd3_inv {α β γ δ : Type} {a : Option (α × β × γ)} {k : α → β → γ → Option δ} {o : δ} (h : bd3 a k = some o) : ∃ x y z, a = some (x, y, z) ∧ k x y z = some o := by
  cases a with
  | none => cases h
  | some q => exact ⟨q.1, q.2.1, q.2.2, rfl, h⟩
theorem bd3_in {α β γ δ : Type} {a : Option (α × β × γ)} {k : α → β → γ → Option δ} {x : α} {y : β} {z : γ} (h : a = some (x, y, z)) : bd3 a k = k x y z := by rw [h]; rfl
def bd4 {α β γ δ ε : Type} (a : Option (α × β × γ × δ)) (k : α → β → γ → δ → Option ε) : Option ε := match a with
  | none => none
  | some q => k q.1 q.2.1 q.2.2.1 q.2.2.2
theorem bd4_inv {α β γ δ ε : Type} {a : Option (α × β × γ × δ)} {k : α → β → γ → δ → Option ε} {o : ε} (h : bd4 a k = some o) : ∃ x y z w, a = some (x, y, z, w) ∧ k x y z w = some o := by
  cases a with
  | none => cases h
  | some q => exact ⟨q.1, q.2.1, q.2.2.1, q.2.2.2, rfl, h⟩
theorem bd4_in {α β γ δ ε : Type} {a : Option (α × β × γ × δ)} {k : α → β → γ → δ → Option ε} {x : α} {y : β} {z : γ} {w : δ} (h : a = some (x, y, z, w)) : bd4 a k = k x y z w := by rw [h]; rfl
theorem ite_t {α : Type} {c : Prop} {i : Decidable c} {a b x : α} (h : c) (e : (@ite α c i a b) = x) : a = x := by rw [if_pos h] at e; exact e
theorem ite_f {α : Type} {c : Prop} {i : Decidable c} {a b x : α} (h : ¬ c) (e : (@ite α c i a b) = x) : b = x := by rw [if_neg h] at e; exact e
/-- where a switch on a table falls through -/
theorem sw_out {x : Int32} {lo hi : Int} (h : ∀ v : Int, lo ≤ v → v ≤ hi → ¬ x = Int32.ofInt v) : x.toInt < lo ∨ hi < x.toInt := by
  by_cases h1 : x.toInt < lo
  · exact Or.inl h1
  · by_cases h2 : hi < x.toInt
    · exact Or.inr h2
    · exact absurd (by simp) (h x.toInt (by omega) (by omega))
/-- the fuel of every walked loop; nothing reads it -/
def fuel : Nat := 4194304
/-! the tables beside va_K: the nest's links -/
def nwQ : List (String × Nat × MethodName × String) := [(RX10, 11, yX2_init, RX10), (RX10, 27, yX7_init, RX10), (RX10, 34, yX4_init, RX10), (RX10, 41, yX1_init, RX10), (RX10, 48, yX3_init, RX10), (RX10, 55, yX6_init, RX10), (RX10, 62, yX0_init, RX10), (RX10, 69, yX5_init, RX10), (RX9, 75, yX10_isWithin, RX10), (RX8, 74, yX10_isWithin, RX10), (RX8, 78, yX10_isLawful, RX10)]
abbrev tyA (cI cZ : ClassId) : List (ClassId × FieldType) := [(cI, .int), (cZ, .boolean)]
def KX (D : va_G) (cI cZ : ClassId) (U : State) : Prop := va_K D vwCl (tyA cI cZ) U ∧ ∀ q ∈ nwQ, va_Nw (.methodLinkNest q.1 q.2.1 q.2.2.1 q.2.2.2) U
theorem KX.warm {D : va_G} {cI cZ : ClassId} {s U : State} (h : KX D cI cZ s) (hW : s.WarmedH U.vm) : KX D cI cZ U := ⟨va_K.moved hW.alike h.1, fun q hq => va_Nw.warmM hW (h.2 q hq)⟩
theorem KX.call {D : va_G} {cI cZ : ClassId} {U : State} {g : JFrame} {mk : MethodId} {a : Array Value} (h : KX D cI cZ U) : KX D cI cZ (U.calling g mk a) := ⟨va_K.moved (u := U) (U := U.calling g mk a) (Vm.Alike.refl U.vm) h.1, fun q hq => va_Nw.same rfl rfl (h.2 q hq)⟩
/-- what a contract asks of the state beside its cells -/
def XS (X : State → Prop) : Prop := ∀ (U : State) (g : JFrame) (mk : MethodId) (a : Array Value), X U → X (U.calling g mk a)
theorem KX.xs {D : va_G} {cI cZ : ClassId} : XS (KX D cI cZ) := fun _ _ _ _ h => h.call
/-- a method that reads only: it answers r -/
def cR (l : Launch) (y : MethodName) (ws : List Cond) (rm : Room) (av : List Value) (D : va_G) (wd : va_W) (X : State → Prop) (r : Int32) : Prop :=
  Met l y ws rm (va_Pc av (fun U => va_P D vwCl wd U.heap ∧ X U)) (QcRead r) 0 0 (fun _ => False)
def qM (D : va_G) (v : Option Value) (wd' : va_W) (A : Nat → Prop) : Array Value → State → Outcome → State → Prop := fun _ st oc t => oc = .returned v ∧ va_P D vwCl wd' t.heap ∧ va_D A wd' ∧ va_F A st t
/-- a method that writes its cells: it answers v, they are wd' -/
def cM (l : Launch) (y : MethodName) (ws : List Cond) (rm : Room) (av : List Value) (D : va_G) (wd wd' : va_W) (X : State → Prop) (v : Option Value) : Prop :=
  ∀ sz : Nat, Met l y ws rm (va_Pc av (fun U => U.heap.size = sz ∧ va_P D vwCl wd U.heap ∧ va_D (fun _ => True) wd ∧ X U)) (qM D v wd' (va_A wd sz)) 0 0 (va_A wd sz)
section BASE
variable {p : Program} {l : Launch} {e : Env} {R : Room} {s : State} {m : MethodId} {args : Array Value} {below : List Frame} {meth : Method} {c : Code} {H : Heap} {locs : List Loc} {cells slots : Nat} {Q : State → Prop}
variable {cc bytes : ByteArray} {nL maxL index n : Nat} {Ts wsY : List Cond} {own C : String} {y : MethodName} {ret : Option FieldType} {rm : Room} {pc : Nat} {ls : Array Slot} {st0 rest As : List Value} {b : Nat}
variable {D : va_G} {wd wd0 wd' wr wn : va_W} {X : State → Prop} {r : Int32} {A : Nat → Prop}
theorem callRV (S : CallFix p m c cc nL s args Ts own) (hM : cR l y wsY rm (.ref b :: As) D wd X r) (cw : CallW R s args own C index y bytes maxL ret wsY rm 0 0 n)
    (hP : va_P D vwCl wd0 H) (is : List Nat) (hs : is.filterMap (fun i => wd0[i]?) = wd) (hXs : XS X) (hX : ∀ U : State, U.heap = H → s.WarmedH U.vm → X U)
    (hrc : ∃ cellB : Cell, H[b]? = some cellB ∧ cellB.vm.isStatics = false ∧ s.vm.findClass C = some cellB.cls)
    (hn : As.length = n) (hsize : ls.size = nL) (hstack : st0 = As.reverse ++ .ref b :: rest) (hW : (rest.map fun v => v.category).sum ≤ 8) (hdg : decode cc pc = .ok (.invokevirtual index, 3)) (hc : cells ≤ R.cells ∧ slots ≤ R.slots)
    (k : W p l e R s m args below meth c H locs cells slots Q (F0 m (pc + 3) ls (.int r :: rest))) : W p l e R s m args below meth c H locs cells slots Q (F0 m pc ls st0) :=
  W.callR (W.runV S hM cw ⟨fun a U g mk q => ⟨q.1, q.2.1, hXs U g mk a q.2.2⟩, hrc, fun U hU hW => ⟨rfl, by rw [hU]; exact hP.sub is hs, hX U hU hW⟩⟩ rfl hn hsize hstack (lv_room hW) hdg hc) k
theorem callRS (S : CallFix p m c cc nL s args Ts own) (hM : cR l y wsY rm As D wd X r) (cw : CallB R s args own index y bytes maxL ret wsY rm 0 0 n ∧ (Cond.static y).before args s = true)
    (hP : va_P D vwCl wd0 H) (is : List Nat) (hs : is.filterMap (fun i => wd0[i]?) = wd) (hXs : XS X) (hX : ∀ U : State, U.heap = H → s.WarmedH U.vm → X U)
    (hn : As.length = n) (hsize : ls.size = nL) (hstack : st0 = As.reverse ++ rest) (hW : (rest.map fun v => v.category).sum ≤ 8) (hdg : decode cc pc = .ok (.invokestatic index, 3)) (hc : cells ≤ R.cells ∧ slots ≤ R.slots)
    (k : W p l e R s m args below meth c H locs cells slots Q (F0 m (pc + 3) ls (.int r :: rest))) : W p l e R s m args below meth c H locs cells slots Q (F0 m pc ls st0) :=
  W.callR (W.runS S hM cw ⟨fun a U g mk q => ⟨q.1, q.2.1, hXs U g mk a q.2.2⟩, fun U hU hW => ⟨rfl, by rw [hU]; exact hP.sub is hs, hX U hU hW⟩⟩ rfl hn hsize hstack (lv_room hW) hdg hc) k
theorem run_of {mc ms : Nat} {g : JFrame} {Qa : State → Outcome → State → Prop} {free : Addr → Prop} (h : va_Run p l e R s m args below meth c H locs cells slots mc ms g rest Qa free) : CallRun p l e R s m args below meth c H locs cells slots mc ms g rest Qa free := by
  intro T hT Y
  obtain ⟨v, st, t, T', L, a1, a2, a3, a4, a5, a6, a7⟩ := h T hT Y
  exact ⟨v, st, t, T', L, a1, a2, a3, a4, a6, a7⟩
theorem callRSN {host : String} (S : CallFix p m c cc nL s args Ts own) (hM : cR l y wsY rm As D wd X r) (cw : va_CN R s args own index y host bytes maxL ret wsY rm 0 0 n ∧ (Cond.static y).before args s = true ∧ True)
    (hP : va_P D vwCl wd0 H) (is : List Nat) (hs : is.filterMap (fun i => wd0[i]?) = wd) (hXs : XS X) (hX : ∀ U : State, U.heap = H → s.WarmedH U.vm → X U)
    (hn : As.length = n) (hsize : ls.size = nL) (hstack : st0 = As.reverse ++ rest) (hW : (rest.map fun v => v.category).sum ≤ 8) (hdg : decode cc pc = .ok (.invokestatic index, 3)) (hc : cells ≤ R.cells ∧ slots ≤ R.slots)
    (k : W p l e R s m args below meth c H locs cells slots Q (F0 m (pc + 3) ls (.int r :: rest))) : W p l e R s m args below meth c H locs cells slots Q (F0 m pc ls st0) :=
  W.callR (run_of (va_runSN S hM cw ⟨fun a U g mk q => ⟨q.1, q.2.1, hXs U g mk a q.2.2⟩, fun U hU hW => ⟨rfl, by rw [hU]; exact hP.sub is hs, hX U hU hW⟩⟩ rfl hn hsize hstack (lv_room hW) hdg hc)) k
/-- behind a call that writes: the caller's world again, in its order -/
theorem callM_end {v : Option Value} {a : Array Value} (hr : va_Run p l e R s m args below meth c H locs cells slots 0 0 (F0 m pc ls st0) rest (qM D v wd' (va_A wd H.size) a) (va_A wd H.size))
    (hP : va_P D vwCl wd0 H) (hD : va_D A wd0) (hS : va_S A s.heap H locs) (hA : ∀ q, s.heap.size ≤ q → A q) (isC isR is9 : List Nat) (hC : isC.map (fun i => wd0[i]?) = wd.map some) (hR : isR.map (fun i => wd0[i]?) = wr.map some) (hn : va_nd isR = true) (hdis : ∀ i ∈ isR, i ∉ isC) (hn9 : va_nd is9 = true) (h9 : is9.map (fun i => (wr ++ wd')[i]?) = wn.map some)
    (k : ∀ (H1 : Heap) (locs1 : List Loc), va_P D vwCl wn H1 → va_D A wn → va_S A s.heap H1 locs1 → W p l e R s m args below meth c H1 locs1 cells slots Q (F0 m (pc + 3) ls (v.toList ++ rest))) : W p l e R s m args below meth c H locs cells slots Q (F0 m pc ls st0) := by
  intro T hT Y
  obtain ⟨v', st₀, t, T', L, h0, Y', hL, e1, e2, ⟨hv, hP1, hD1, hz, hk⟩, st⟩ := hr T hT Y
  cases hv
  rw [h0] at hz hk
  have hF := va_free (wc := wd) hD hS hA isC hC
  obtain ⟨hP2, hD2⟩ := va_join (wr := wr) hP hD isC isR hC hR hn hdis hk hF hP1 hD1
  have hP3 : va_P D vwCl wn t.heap := hP2.sub is9 (by
    have h := congrArg (List.filterMap id) h9
    simpa [List.filterMap_map, Function.comp_def] using h)
  have hD3 : va_D A wn := hD2.sub is9 hn9 h9
  have hS3 : va_S A s.heap t.heap (locs ++ L) := ⟨Nat.le_trans hS.1 hz, fun q h1 h2 => by
      rw [hk q (Nat.lt_of_lt_of_le h1 hS.1) (fun z => h2 (hF q z))]; exact hS.2.1 q h1 h2, fun q hq => by
      rcases List.mem_append.mp hq with h | h
      · exact hS.2.2 q h
      · exact hF _ (hL q h)⟩
  obtain ⟨t2, a1, b1⟩ := k t.heap (locs ++ L) hP3 hD3 hS3 T' e1 Y'
  exact ⟨t2, st t2 a1, b1⟩
theorem callMV {v : Option Value} (S : CallFix p m c cc nL s args Ts own) (hM : cM l y wsY rm (.ref b :: As) D wd wd' X v) (cw : CallW R s args own C index y bytes maxL ret wsY rm 0 0 n)
    (hP : va_P D vwCl wd0 H) (hD : va_D A wd0) (hS : va_S A s.heap H locs) (hA : ∀ q, s.heap.size ≤ q → A q) (isC isR is9 : List Nat) (hC : isC.map (fun i => wd0[i]?) = wd.map some) (hR : isR.map (fun i => wd0[i]?) = wr.map some) (hn : va_nd isR = true) (hdis : ∀ i ∈ isR, i ∉ isC) (hnC : va_nd isC = true) (hn9 : va_nd is9 = true) (h9 : is9.map (fun i => (wr ++ wd')[i]?) = wn.map some)
    (hXs : XS X) (hX : ∀ U : State, U.heap = H → s.WarmedH U.vm → X U)
    (hrc : ∃ cellB : Cell, H[b]? = some cellB ∧ cellB.vm.isStatics = false ∧ s.vm.findClass C = some cellB.cls)
    (hnn : As.length = n) (hsize : ls.size = nL) (hstack : st0 = As.reverse ++ .ref b :: rest) (hW : (rest.map fun v => v.category).sum ≤ 8) (hdg : decode cc pc = .ok (.invokevirtual index, 3)) (hc : cells ≤ R.cells ∧ slots ≤ R.slots)
    (k : ∀ (H1 : Heap) (locs1 : List Loc), va_P D vwCl wn H1 → va_D A wn → va_S A s.heap H1 locs1 → W p l e R s m args below meth c H1 locs1 cells slots Q (F0 m (pc + 3) ls (v.toList ++ rest))) : W p l e R s m args below meth c H locs cells slots Q (F0 m pc ls st0) := by
  have hPc : va_P D vwCl wd H := hP.sub isC (by
    have h := congrArg (List.filterMap id) hC
    simpa [List.filterMap_map, Function.comp_def] using h)
  have hDc : va_D A wd := hD.sub isC hnC hC
  refine callM_end (va_runV S (hM H.size) cw ⟨fun a U g mk q => ⟨q.1, q.2.1, q.2.2.1, q.2.2.2.1, hXs U g mk a q.2.2.2.2⟩, hrc, fun U hU hW => ⟨rfl, by rw [hU], by rw [hU]; exact hPc, hDc.weaken (fun _ _ _ _ => trivial), hX U hU hW⟩⟩ rfl hnn hsize hstack (lv_room hW) hdg hc) hP hD hS hA isC isR is9 hC hR hn hdis hn9 h9 k
/-- ends -/
theorem retR (hx : p.tables.exec = Jvm.exec) (hb : c.code = cc) (hr : meth.sig.returnType = some .int) (hlk : meth.locks = false) {v : Int32} (hdg : decode cc pc = .ok (.ireturn, 1)) : W p l e R s m args below meth c s.heap [] 0 0 (MQ below (QcRead v) args s 0 0 (fun _ => False)) (F0 m pc ls [.int v]) :=
  W.iret hx hb hr (fun _ ht _ => ⟨rfl, ht⟩) (fun _ h => by cases h) hdg hlk
theorem retRz (hx : p.tables.exec = Jvm.exec) (hb : c.code = cc) (hr : meth.sig.returnType = some .boolean) (hlk : meth.locks = false) {v : Int32} (hn : narrow .boolean (.int v) = .int v) (hdg : decode cc pc = .ok (.ireturn, 1)) : W p l e R s m args below meth c s.heap [] 0 0 (MQ below (QcRead v) args s 0 0 (fun _ => False)) (F0 m pc ls [.int v]) :=
  W.zret hx hb hr hn (fun _ ht _ => ⟨rfl, ht⟩) (fun _ h => by cases h) hdg hlk
theorem retM (hx : p.tables.exec = Jvm.exec) (hb : c.code = cc) (hr : meth.sig.returnType = some .int) (hlk : meth.locks = false) {v : Int32} (hP : va_P D vwCl wd' H) (hD : va_D A wd') (hS : va_S A s.heap H locs) (hdg : decode cc pc = .ok (.ireturn, 1)) : W p l e R s m args below meth c H locs 0 0 (MQ below (qM D (some (.int v)) wd' A) args s 0 0 A) (F0 m pc ls [.int v]) :=
  W.iret hx hb hr (fun _ ht _ => ⟨rfl, by rw [ht]; exact hP, hD, hS.F ht⟩) hS.2.2 hdg hlk
theorem retMz (hx : p.tables.exec = Jvm.exec) (hb : c.code = cc) (hr : meth.sig.returnType = some .boolean) (hlk : meth.locks = false) {v : Int32} (hn : narrow .boolean (.int v) = .int v) (hP : va_P D vwCl wd' H) (hD : va_D A wd') (hS : va_S A s.heap H locs) (hdg : decode cc pc = .ok (.ireturn, 1)) : W p l e R s m args below meth c H locs 0 0 (MQ below (qM D (some (.int v)) wd' A) args s 0 0 A) (F0 m pc ls [.int v]) :=
  W.zret hx hb hr hn (fun _ ht _ => ⟨rfl, by rw [ht]; exact hP, hD, hS.F ht⟩) hS.2.2 hdg hlk
theorem retMv (hx : p.tables.exec = Jvm.exec) (hb : c.code = cc) (hr : meth.sig.returnType = none) (hlk : meth.locks = false) (hP : va_P D vwCl wd' H) (hD : va_D A wd') (hS : va_S A s.heap H locs) (hdg : decode cc pc = .ok (.return_, 1)) : W p l e R s m args below meth c H locs 0 0 (MQ below (qM D none wd' A) args s 0 0 A) (F0 m pc ls []) :=
  W.vret hx hb hr (fun _ ht _ => ⟨rfl, by rw [ht]; exact hP, hD, hS.F ht⟩) hS.2.2 hdg hlk
/-- a contract out of a walk -/
theorem cR_of {ws' : List Cond} (hy : plainName y.cls = true) (hw : wsY = Cond.code y cc maxL ret :: ws') (vs : List Value) (hv : (lg_sl vs).length ≤ maxL)
    (body : ∀ (p : Program) (e : Env) (s : State) (m : MethodId) (below : List Frame) (meth : Method) (c : Code) (ls : Array Slot), CallFix p m c cc maxL s vs.toArray wsY y.cls → meth.sig.returnType = ret → meth.locks = false → va_P D vwCl wd s.heap → X s → lv_has ls maxL (lv_args 0 vs) →
      W p l e rm s m vs.toArray below meth c s.heap [] 0 0 (MQ below (QcRead r) vs.toArray s 0 0 (fun _ => False)) (F0 m 0 ls [])) : cR l y wsY rm vs D wd X r := by
  refine Met.ofW (cc := cc) (maxL := maxL) (ret := ret) hy hw ?_
  intro p e s m args below meth c s₁ B hml hv0
  obtain ⟨rfl, hP, hX⟩ := hv0
  have hl := lv_entry vs (n := maxL) hv
  rw [lg_entry_eq]
  exact body p e s m below meth c _ ⟨B.exec, B.bytes, hml, findClass_of_methodNamed B.named, atoms_spec (ws := wsY) B.pre⟩ B.returns B.notSynchronized hP hX hl
theorem cM_of {ws' : List Cond} {v : Option Value} (hy : plainName y.cls = true) (hw : wsY = Cond.code y cc maxL ret :: ws') (vs : List Value) (hv : (lg_sl vs).length ≤ maxL)
    (body : ∀ (p : Program) (e : Env) (s : State) (m : MethodId) (below : List Frame) (meth : Method) (c : Code) (ls : Array Slot) (A : Nat → Prop), CallFix p m c cc maxL s vs.toArray wsY y.cls → meth.sig.returnType = ret → meth.locks = false → va_P D vwCl wd s.heap → X s → lv_has ls maxL (lv_args 0 vs) → va_D A wd → (∀ q : Nat, s.heap.size ≤ q → A q) → va_S A s.heap s.heap [] →
      W p l e rm s m vs.toArray below meth c s.heap [] 0 0 (MQ below (qM D v wd' A) vs.toArray s 0 0 A) (F0 m 0 ls [])) : cM l y wsY rm vs D wd wd' X v := by
  intro sz
  refine Met.ofW (cc := cc) (maxL := maxL) (ret := ret) hy hw ?_
  intro p e s m args below meth c s₁ B hml hv0
  obtain ⟨rfl, hsz, hP, hD, hX⟩ := hv0
  subst hsz
  have hl := lv_entry vs (n := maxL) hv
  rw [lg_entry_eq]
  exact body p e s m below meth c _ _ ⟨B.exec, B.bytes, hml, findClass_of_methodNamed B.named, atoms_spec (ws := wsY) B.pre⟩ B.returns B.notSynchronized hP hX hl hD.self (fun q h => Or.inr h) va_S.rf
end BASE
