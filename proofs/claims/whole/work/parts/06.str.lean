/-! the four words of the text, and the JDK's String over them -/
def stB : List (List Int32) := [[99, 111, 112, 121], [119, 105, 116, 110, 101, 115, 115], [114, 101, 97, 100], [119, 114, 105, 116, 101]]
def stN : List Nat := [4, 7, 4, 5]
def stL (i : Nat) : Nat := stN.getD i 0
def stC (i k : Nat) : Int32 := (stB.getD i []).getD k 0 &&& 255
theorem stL_lt (i : Nat) : stL i < 8 := by
  rcases (show i = 0 ∨ i = 1 ∨ i = 2 ∨ i = 3 ∨ 4 ≤ i by omega) with rfl | rfl | rfl | rfl | h
  · decide
  · decide
  · decide
  · decide
  · have h2 : stN.length ≤ i := h
    simp [stL, List.getD_eq_getElem?_getD, List.getElem?_eq_none h2]
def SX (sz0 : Nat) (ad av : Nat → Nat) (U : State) : Prop :=
  sz0 ≤ U.heap.size ∧ vk_S 4 stN stB ad av (fun q => sz0 ≤ q) U U.heap ∧ va_Z "java/lang/String" "COMPACT_STRINGS" "Z" (.int 1) (fun q => sz0 ≤ q) U U.heap ∧ va_Zq "jdk/internal/util/Preconditions" "SIOOBE_FORMATTER" "Ljava/util/function/BiFunction;" (fun q => sz0 ≤ q) U U.heap ∧ vk_R RX9 48 "copy" (ad 0) U ∧ vk_R RX9 54 "witness" (ad 1) U ∧ vk_R RX9 56 "read" (ad 2) U ∧ vk_R RX9 58 "write" (ad 3) U
def XT (D : va_G) (cI cZ : ClassId) (sz0 : Nat) (ad av : Nat → Nat) (U : State) : Prop := KX D cI cZ U ∧ SX sz0 ad av U
theorem XT.call {D : va_G} {cI cZ : ClassId} {sz0 : Nat} {ad av : Nat → Nat} {U : State} {g : JFrame} {mk : MethodId} {a : Array Value} (h : XT D cI cZ sz0 ad av U) : XT D cI cZ sz0 ad av (U.calling g mk a) := by
  obtain ⟨h0, h1, h2, h3, h4, r0, r1, r2, r3⟩ := h
  exact ⟨h0.call, h1, vk_S.moved (u := U) (U := U.calling g mk a) (Vm.Alike.refl U.vm) h2, va_Z.moved (u := U) (U := U.calling g mk a) (Vm.Alike.refl U.vm) h3, va_Zq.moved (u := U) (U := U.calling g mk a) (Vm.Alike.refl U.vm) h4, vk_R.same rfl r0, vk_R.same rfl r1, vk_R.same rfl r2, vk_R.same rfl r3⟩
theorem XT.xs {D : va_G} {cI cZ : ClassId} {sz0 : Nat} {ad av : Nat → Nat} : XS (XT D cI cZ sz0 ad av) := fun _ _ _ _ h => h.call
theorem XT.at {D : va_G} {cI cZ : ClassId} {sz0 : Nat} {ad av : Nat → Nat} {s : State} {A : Nat → Prop} {H : Heap} {locs : List Loc} (h : XT D cI cZ sz0 ad av s) (hS : va_S A s.heap H locs) (hA : ∀ q, A q → sz0 ≤ q) (U : State) (hU : U.heap = H) (hW : s.WarmedH U.vm) : XT D cI cZ sz0 ad av U := by
  obtain ⟨h0, h1, h2, h3, h4, r0, r1, r2, r3⟩ := h
  have hk : ∀ a : Nat, a < s.heap.size → ¬ (fun q => sz0 ≤ q) a → U.heap[a]? = s.heap[a]? := fun a ha hn => by
    rw [hU]; exact hS.2.1 a ha (fun z => hn (hA a z))
  exact ⟨h0.warm hW, by rw [hU]; exact Nat.le_trans h1 hS.1, (vk_S.moved hW.alike h2).kept hk, (va_Z.moved hW.alike h3).kept hk, (va_Zq.moved hW.alike h4).kept hk, r0.warm hW, r1.warm hW, r2.warm hW, r3.warm hW⟩
theorem XT.at0 {D : va_G} {cI cZ : ClassId} {sz0 : Nat} {ad av : Nat → Nat} {s : State} (h : XT D cI cZ sz0 ad av s) (U : State) (hU : U.heap = s.heap) (hW : s.WarmedH U.vm) : XT D cI cZ sz0 ad av U :=
  h.at (A := fun q => sz0 ≤ q) va_S.rf (fun _ h => h) U hU hW
section STR
variable {p : Program} {l : Launch} {e : Env} {R : Room} {s : State} {m : MethodId} {args : Array Value} {below : List Frame} {meth : Method} {c : Code} {H : Heap} {locs : List Loc} {cells slots : Nat} {Q : State → Prop}
variable {cc bytes : ByteArray} {nL maxL index n : Nat} {Ts wsY : List Cond} {own C : String} {y : MethodName} {ret : Option FieldType} {rm : Room} {pc : Nat} {ls : Array Slot} {st0 rest As : List Value} {b : Nat}
variable {D : va_G} {wd wd0 wd' wr wn : va_W} {X : State → Prop} {r : Int32} {A : Nat → Prop}
theorem retRg {ty : FieldType} (hx : p.tables.exec = Jvm.exec) (hb : c.code = cc) (hr : meth.sig.returnType = some ty) (hlk : meth.locks = false) {v : Int32} (hn : narrow ty (.int v) = .int v) (hdg : decode cc pc = .ok (.ireturn, 1)) : W p l e R s m args below meth c s.heap [] 0 0 (MQ below (QcRead v) args s 0 0 (fun _ => False)) (F0 m pc ls [.int v]) :=
  W.zret hx hb hr hn (fun _ ht _ => ⟨rfl, ht⟩) (fun _ h => by cases h) hdg hlk
/-- a static that reads only and answers nothing -/
def cRv (l : Launch) (y : MethodName) (ws : List Cond) (rm : Room) (av : List Value) (X : State → Prop) : Prop :=
  Met l y ws rm (va_Pc av X) (va_Sv (fun _ => True)) 0 0 (fun _ => False)
theorem callRvS (S : CallFix p m c cc nL s args Ts own) (hM : cRv l y wsY rm As X) (cw : CallB R s args own index y bytes maxL ret wsY rm 0 0 n ∧ (Cond.static y).before args s = true)
    (hXs : XS X) (hX : ∀ U : State, U.heap = H → s.WarmedH U.vm → X U)
    (hn : As.length = n) (hsize : ls.size = nL) (hstack : st0 = As.reverse ++ rest) (hW : (rest.map fun v => v.category).sum ≤ 8) (hdg : decode cc pc = .ok (.invokestatic index, 3)) (hc : cells ≤ R.cells ∧ slots ≤ R.slots)
    (k : W p l e R s m args below meth c H locs cells slots Q (F0 m (pc + 3) ls rest)) : W p l e R s m args below meth c H locs cells slots Q (F0 m pc ls st0) :=
  va_csv (W.runS S hM cw ⟨fun a U g mk q => ⟨q.1, hXs U g mk a q.2⟩, fun U hU hW => ⟨rfl, hX U hU hW⟩⟩ rfl hn hsize hstack (lv_room hW) hdg hc) (fun _ => k)
theorem cRv_of {ws' : List Cond} (hy : plainName y.cls = true) (hw : wsY = Cond.code y cc maxL ret :: ws') (vs : List Value) (hv : (lg_sl vs).length ≤ maxL)
    (body : ∀ (p : Program) (e : Env) (s : State) (m : MethodId) (below : List Frame) (meth : Method) (c : Code) (ls : Array Slot), CallFix p m c cc maxL s vs.toArray wsY y.cls → meth.sig.returnType = ret → meth.locks = false → X s → lv_has ls maxL (lv_args 0 vs) →
      W p l e rm s m vs.toArray below meth c s.heap [] 0 0 (MQ below (va_Sv (fun _ => True)) vs.toArray s 0 0 (fun _ => False)) (F0 m 0 ls [])) : cRv l y wsY rm vs X := by
  refine Met.ofW (cc := cc) (maxL := maxL) (ret := ret) hy hw ?_
  intro p e s m args below meth c s₁ B hml hv0
  obtain ⟨rfl, hX⟩ := hv0
  have hl := lv_entry vs (n := maxL) hv
  rw [lg_entry_eq]
  exact body p e s m below meth c _ ⟨B.exec, B.bytes, hml, findClass_of_methodNamed B.named, atoms_spec (ws := wsY) B.pre⟩ B.returns B.notSynchronized hX hl
end STR
abbrev rmJ0_coder_7d493 : Room := { frames := 0, cells := 0, slots := 0, locals := 0 }
abbrev rmJ0_isLatin1_aae02 : Room := { frames := 0, cells := 0, slots := 0, locals := 0 }
abbrev rmJ0_length_8abf5 : Room := { frames := 1, cells := 0, slots := 0, locals := 20 }
abbrev rmJ3_checkIndex_8e157 : Room := { frames := 0, cells := 0, slots := 0, locals := 0 }
abbrev rmJ0_checkIndex_df160 : Room := { frames := 1, cells := 0, slots := 0, locals := 22 }
abbrev rmJ1_charAt_3b067 : Room := { frames := 2, cells := 0, slots := 0, locals := 43 }
abbrev rmJ0_charAt_5068e : Room := { frames := 3, cells := 0, slots := 0, locals := 64 }
theorem hdJ0_coder_7d493 : yJ0_coder_7d493.cls ≠ "java/lang/invoke/MethodHandle" ∧ yJ0_coder_7d493.cls ≠ "java/lang/invoke/VarHandle" ∧ (parseMethodDescriptor yJ0_coder_7d493.desc).map (fun d => d.parameters.length) = some 0 := by decide +kernel
theorem hdJ0_isLatin1_aae02 : yJ0_isLatin1_aae02.cls ≠ "java/lang/invoke/MethodHandle" ∧ yJ0_isLatin1_aae02.cls ≠ "java/lang/invoke/VarHandle" ∧ (parseMethodDescriptor yJ0_isLatin1_aae02.desc).map (fun d => d.parameters.length) = some 0 := by decide +kernel
theorem hdJ0_length_8abf5 : yJ0_length_8abf5.cls ≠ "java/lang/invoke/MethodHandle" ∧ yJ0_length_8abf5.cls ≠ "java/lang/invoke/VarHandle" ∧ (parseMethodDescriptor yJ0_length_8abf5.desc).map (fun d => d.parameters.length) = some 0 := by decide +kernel
theorem hdJ3_checkIndex_8e157 : yJ3_checkIndex_8e157.cls ≠ "java/lang/invoke/MethodHandle" ∧ yJ3_checkIndex_8e157.cls ≠ "java/lang/invoke/VarHandle" ∧ (parseMethodDescriptor yJ3_checkIndex_8e157.desc).map (fun d => d.parameters.length) = some 3 := by decide +kernel
theorem hdJ0_checkIndex_df160 : yJ0_checkIndex_df160.cls ≠ "java/lang/invoke/MethodHandle" ∧ yJ0_checkIndex_df160.cls ≠ "java/lang/invoke/VarHandle" ∧ (parseMethodDescriptor yJ0_checkIndex_df160.desc).map (fun d => d.parameters.length) = some 2 := by decide +kernel
theorem hdJ1_charAt_3b067 : yJ1_charAt_3b067.cls ≠ "java/lang/invoke/MethodHandle" ∧ yJ1_charAt_3b067.cls ≠ "java/lang/invoke/VarHandle" ∧ (parseMethodDescriptor yJ1_charAt_3b067.desc).map (fun d => d.parameters.length) = some 2 := by decide +kernel
theorem hdJ0_charAt_5068e : yJ0_charAt_5068e.cls ≠ "java/lang/invoke/MethodHandle" ∧ yJ0_charAt_5068e.cls ≠ "java/lang/invoke/VarHandle" ∧ (parseMethodDescriptor yJ0_charAt_5068e.desc).map (fun d => d.parameters.length) = some 1 := by decide +kernel
set_option maxHeartbeats 4000000 in
set_option maxRecDepth 100000 in
theorem ctJ0_coder_7d493 (l : Launch) (D : va_G) (cI cZ : ClassId) (sz0 : Nat) (ad av : Nat → Nat) (i : Nat) (hi : i < 4) : cR l yJ0_coder_7d493 wsJ0_coder_7d493 rmJ0_coder_7d493 [.ref (ad i)] D [] (XT D cI cZ sz0 ad av) 0 := by
  refine cR_of (cc := cJ0_coder_7d493) (maxL := 1) (ret := some .byte) (by decide +kernel) rfl _ (Nat.le_of_ble_eq_true rfl) ?_
  intro p e s m below meth c ls S hr hlk hP hX hl
  obtain ⟨hx, hb, hml, hown, hts⟩ := id S
  have hl : lv_has ls 1 [(0, .ref (ad i))] := hl
  refine va_gets hx hb hX.2.2.2.1 va_S.rf hown (hts (.fieldLink RJ0 38 "java/lang/String" "COMPACT_STRINGS" "Z") (List.mem_of_getElem? (i := 1) rfl)) (fun _ h => h) dJ0_coder_7d493_0 ?_
  refine lv_if_eq (tgt := 13) hx hb dJ0_coder_7d493_3 (by decide) (fun h => absurd h (by decide)) (fun _ => ?_)
  refine lv_aload_n hx hb dJ0_coder_7d493_6 rfl (lv_at hl 0 rfl) ?_
  refine vk_getf hx hb (hX.2.2.1.1 i hi).2.1 va_S.rf hown (hts (.fieldLink RJ0 15 "java/lang/String" "coder" "B") (List.mem_of_getElem? (i := 2) rfl)) (fun _ h => h) dJ0_coder_7d493_7 ?_
  refine lv_goto (tgt := 14) hx hb dJ0_coder_7d493_10 (by decide) ?_
  exact retRg hx hb hr hlk (by decide) dJ0_coder_7d493_14
set_option maxHeartbeats 4000000 in
set_option maxRecDepth 100000 in
theorem ctJ0_isLatin1_aae02 (l : Launch) (D : va_G) (cI cZ : ClassId) (sz0 : Nat) (ad av : Nat → Nat) (i : Nat) (hi : i < 4) : cR l yJ0_isLatin1_aae02 wsJ0_isLatin1_aae02 rmJ0_isLatin1_aae02 [.ref (ad i)] D [] (XT D cI cZ sz0 ad av) 1 := by
  refine cR_of (cc := cJ0_isLatin1_aae02) (maxL := 1) (ret := some .boolean) (by decide +kernel) rfl _ (Nat.le_of_ble_eq_true rfl) ?_
  intro p e s m below meth c ls S hr hlk hP hX hl
  obtain ⟨hx, hb, hml, hown, hts⟩ := id S
  have hl : lv_has ls 1 [(0, .ref (ad i))] := hl
  refine va_gets hx hb hX.2.2.2.1 va_S.rf hown (hts (.fieldLink RJ0 38 "java/lang/String" "COMPACT_STRINGS" "Z") (List.mem_of_getElem? (i := 1) rfl)) (fun _ h => h) dJ0_isLatin1_aae02_0 ?_
  refine lv_if_eq (tgt := 17) hx hb dJ0_isLatin1_aae02_3 (by decide) (fun h => absurd h (by decide)) (fun _ => ?_)
  refine lv_aload_n hx hb dJ0_isLatin1_aae02_6 rfl (lv_at hl 0 rfl) ?_
  refine vk_getf hx hb (hX.2.2.1.1 i hi).2.1 va_S.rf hown (hts (.fieldLink RJ0 15 "java/lang/String" "coder" "B") (List.mem_of_getElem? (i := 2) rfl)) (fun _ h => h) dJ0_isLatin1_aae02_7 ?_
  refine lv_if_ne (tgt := 17) hx hb dJ0_isLatin1_aae02_10 (by decide) (fun h => absurd rfl h) (fun _ => ?_)
  refine lv_iconst (v := 1) hx hb dJ0_isLatin1_aae02_13 (by decide) ?_
  refine lv_goto (tgt := 18) hx hb dJ0_isLatin1_aae02_14 (by decide) ?_
  exact retRg hx hb hr hlk (by decide) dJ0_isLatin1_aae02_18
set_option maxHeartbeats 4000000 in
set_option maxRecDepth 100000 in
theorem ctJ0_length_8abf5 (l : Launch) (D : va_G) (cI cZ : ClassId) (sz0 : Nat) (ad av : Nat → Nat) (i : Nat) (hi : i < 4) : cR l yJ0_length_8abf5 wsJ0_length_8abf5 rmJ0_length_8abf5 [.ref (ad i)] D [] (XT D cI cZ sz0 ad av) (nI (stL i)) := by
  refine cR_of (cc := cJ0_length_8abf5) (maxL := 1) (ret := some .int) (by decide +kernel) rfl _ (Nat.le_of_ble_eq_true rfl) ?_
  intro p e s m below meth c ls S hr hlk hP hX hl
  obtain ⟨hx, hb, hml, hown, hts⟩ := id S
  have hl : lv_has ls 1 [(0, .ref (ad i))] := hl
  refine lv_aload_n hx hb dJ0_length_8abf5_0 rfl (lv_at hl 0 rfl) ?_
  refine vk_getf hx hb (hX.2.2.1.1 i hi).2.2.1 va_S.rf hown (hts (.fieldLink RJ0 9 "java/lang/String" "value" "[B") (List.mem_of_getElem? (i := 1) rfl)) (fun _ h => h) dJ0_length_8abf5_1 ?_
  refine va_tlen hx hb (hX.2.2.1.1 i hi).2.2.2 va_S.rf rfl dJ0_length_8abf5_4 ?_
  refine lv_aload_n hx hb dJ0_length_8abf5_5 rfl (lv_at hl 0 rfl) ?_
  refine callRV (As := []) (rest := [.int (nI (stL i))]) S (ctJ0_coder_7d493 l D cI cZ sz0 ad av i hi) (cwV 0 hts gJ0_length_8abf5_J0_coder_7d493 rfl rfl rfl ⟨rfl, hdJ0_coder_7d493⟩ ⟨Nat.le_of_ble_eq_true rfl, Nat.le_of_ble_eq_true rfl⟩) hP [] rfl XT.xs hX.at0 (vk_recv hX.2.2.1 hi va_S.rf) rfl hl.1 rfl (Nat.le_of_ble_eq_true rfl) dJ0_length_8abf5_6 ⟨Nat.zero_le _, Nat.zero_le _⟩ ?_
  refine lv_ishr hx hb dJ0_length_8abf5_9 ?_
  refine lv_nmI (y := nI (stL i)) (sb_shr0 _).symm ?_
  exact retR hx hb hr hlk dJ0_length_8abf5_10
set_option maxHeartbeats 4000000 in
set_option maxRecDepth 100000 in
theorem ctJ3_checkIndex_8e157 (l : Launch) (D : va_G) (cI cZ : ClassId) (sz0 : Nat) (ad av : Nat → Nat) (k : Int32) (n : Nat) (v : Value) (hv : v.category = 1) (hn : n < 2 ^ 31) (hk : vp_in k n) : cR l yJ3_checkIndex_8e157 wsJ3_checkIndex_8e157 rmJ3_checkIndex_8e157 [.int k, .int (nI n), v] D [] (XT D cI cZ sz0 ad av) k := by
  refine cR_of (cc := cJ3_checkIndex_8e157) (maxL := 3) (ret := some .int) (by decide +kernel) rfl _ (by simp [lg_sl, hv]; exact Nat.le_of_ble_eq_true rfl) ?_
  intro p e s m below meth c ls S hr hlk hP hX hl
  obtain ⟨hx, hb, hml, hown, hts⟩ := id S
  have hl : lv_has ls 3 [(0, .int k), (1, .int (nI n)), (2, v)] := hl
  obtain ⟨j, hj, rfl⟩ := vp_in_of hk hn
  refine lv_iload_n hx hb dJ3_checkIndex_8e157_0 rfl (lv_at hl 0 rfl) ?_
  refine lv_if_lt (tgt := 9) hx hb dJ3_checkIndex_8e157_1 (by decide) (fun h => absurd h (nI_pos (by omega))) (fun _ => ?_)
  refine lv_iload_n hx hb dJ3_checkIndex_8e157_4 rfl (lv_at hl 0 rfl) ?_
  refine lv_iload_n hx hb dJ3_checkIndex_8e157_5 rfl (lv_at hl 1 rfl) ?_
  refine lv_icmp_lt (tgt := 16) hx hb dJ3_checkIndex_8e157_6 (by decide) (fun _ => ?_) (fun h => absurd (nI_lt hj hn) h)
  refine lv_iload_n hx hb dJ3_checkIndex_8e157_16 rfl (lv_at hl 0 rfl) ?_
  exact retR hx hb hr hlk dJ3_checkIndex_8e157_17
set_option maxHeartbeats 4000000 in
set_option maxRecDepth 100000 in
theorem ctJ0_checkIndex_df160 (l : Launch) (D : va_G) (cI cZ : ClassId) (sz0 : Nat) (ad av : Nat → Nat) (k : Int32) (n : Nat) (hn : n < 2 ^ 31) (hk : vp_in k n) : cRv l yJ0_checkIndex_df160 wsJ0_checkIndex_df160 rmJ0_checkIndex_df160 [.int k, .int (nI n)] (XT D cI cZ sz0 ad av) := by
  refine cRv_of (cc := cJ0_checkIndex_df160) (maxL := 2) (ret := none) (by decide +kernel) rfl _ (Nat.le_of_ble_eq_true rfl) ?_
  intro p e s m below meth c ls S hr hlk hX hl
  obtain ⟨hx, hb, hml, hown, hts⟩ := id S
  have hl : lv_has ls 2 [(0, .int k), (1, .int (nI n))] := hl
  have hP : va_P D vwCl [] s.heap := fun k q h => by simp at h
  refine lv_iload_n hx hb dJ0_checkIndex_df160_0 rfl (lv_at hl 0 rfl) ?_
  refine lv_iload_n hx hb dJ0_checkIndex_df160_1 rfl (lv_at hl 1 rfl) ?_
  have go : ∀ v : Value, v.category = 1 → va_Z "jdk/internal/util/Preconditions" "SIOOBE_FORMATTER" "Ljava/util/function/BiFunction;" v (fun q => sz0 ≤ q) s s.heap → W p l e rmJ0_checkIndex_df160 s m [Value.int k, Value.int (nI n)].toArray below meth c s.heap [] 0 0 (MQ below (va_Sv (fun _ => True)) [Value.int k, Value.int (nI n)].toArray s 0 0 (fun _ => False)) (F0 m 2 ls [.int (nI n), .int k]) := by
    intro v hv hZ
    refine va_gets hx hb hZ va_S.rf hown (hts (.fieldLink RJ0 1053 "jdk/internal/util/Preconditions" "SIOOBE_FORMATTER" "Ljava/util/function/BiFunction;") (List.mem_of_getElem? (i := 1) rfl)) (fun _ h => h) dJ0_checkIndex_df160_2 ?_
    refine callRS (As := [.int k, .int (nI n), v]) (rest := []) S (ctJ3_checkIndex_8e157 l D cI cZ sz0 ad av k n v hv hn hk) (va_cwS 3 hts gJ0_checkIndex_df160_J3_checkIndex_8e157 rfl rfl rfl hdJ3_checkIndex_8e157 ⟨Nat.le_of_ble_eq_true rfl, Nat.le_of_ble_eq_true rfl⟩) hP [] rfl XT.xs hX.at0 rfl hl.1 rfl (Nat.le_of_ble_eq_true rfl) dJ0_checkIndex_df160_5 ⟨Nat.zero_le _, Nat.zero_le _⟩ ?_
    refine lv_pop hx hb dJ0_checkIndex_df160_8 rfl ?_
    exact W.vret hx hb hr (fun _ ht _ => ⟨rfl, trivial, ht⟩) (fun _ h => by cases h) dJ0_checkIndex_df160_9 hlk
  rcases hX.2.2.2.2.1 with hZ | ⟨t, hZ⟩
  · exact go .null rfl hZ
  · exact go (.ref t) rfl hZ
set_option maxHeartbeats 4000000 in
set_option maxRecDepth 100000 in
theorem ctJ1_charAt_3b067 (l : Launch) (D : va_G) (cI cZ : ClassId) (sz0 : Nat) (ad av : Nat → Nat) (i : Nat) (hi : i < 4) (k : Int32) (hk : vp_in k (stL i)) : cR l yJ1_charAt_3b067 wsJ1_charAt_3b067 rmJ1_charAt_3b067 [.ref (av i), .int k] D [] (XT D cI cZ sz0 ad av) (stC i k.toNatClampNeg) := by
  refine cR_of (cc := cJ1_charAt_3b067) (maxL := 2) (ret := some .char) (by decide +kernel) rfl _ (Nat.le_of_ble_eq_true rfl) ?_
  intro p e s m below meth c ls S hr hlk hP hX hl
  obtain ⟨hx, hb, hml, hown, hts⟩ := id S
  have hl : lv_has ls 2 [(0, .ref (av i)), (1, .int k)] := hl
  have hlt : stL i < 2 ^ 31 := Nat.lt_trans (stL_lt i) (Nat.le_of_ble_eq_true rfl)
  refine lv_iload_n hx hb dJ1_charAt_3b067_0 rfl (lv_at hl 1 rfl) ?_
  refine lv_aload_n hx hb dJ1_charAt_3b067_1 rfl (lv_at hl 0 rfl) ?_
  refine va_tlen hx hb (hX.2.2.1.1 i hi).2.2.2 va_S.rf rfl dJ1_charAt_3b067_2 ?_
  refine callRvS (As := [.int k, .int (nI (stL i))]) (rest := []) S (ctJ0_checkIndex_df160 l D cI cZ sz0 ad av k (stL i) hlt hk) (va_cwS 2 hts gJ1_charAt_3b067_J0_checkIndex_df160 rfl rfl rfl hdJ0_checkIndex_df160 ⟨Nat.le_of_ble_eq_true rfl, Nat.le_of_ble_eq_true rfl⟩) XT.xs hX.at0 rfl hl.1 rfl (Nat.le_of_ble_eq_true rfl) dJ1_charAt_3b067_3 ⟨Nat.zero_le _, Nat.zero_le _⟩ ?_
  refine lv_aload_n hx hb dJ1_charAt_3b067_6 rfl (lv_at hl 0 rfl) ?_
  refine lv_iload_n hx hb dJ1_charAt_3b067_7 rfl (lv_at hl 1 rfl) ?_
  refine va_tb hx hb (hX.2.2.1.1 i hi).2.2.2 va_S.rf hk rfl dJ1_charAt_3b067_8 ?_
  refine lv_sipush (v := 255) hx hb dJ1_charAt_3b067_9 (by decide) ?_
  refine lv_iand hx hb dJ1_charAt_3b067_12 ?_
  refine lv_i2c (v := stC i k.toNatClampNeg) hx hb dJ1_charAt_3b067_13 (sc_c2 _) ?_
  exact retRg hx hb hr hlk (sc_nar _) dJ1_charAt_3b067_14
set_option maxHeartbeats 4000000 in
set_option maxRecDepth 100000 in
theorem ctJ0_charAt_5068e (l : Launch) (D : va_G) (cI cZ : ClassId) (sz0 : Nat) (ad av : Nat → Nat) (i : Nat) (hi : i < 4) (k : Int32) (hk : vp_in k (stL i)) : cR l yJ0_charAt_5068e wsJ0_charAt_5068e rmJ0_charAt_5068e [.ref (ad i), .int k] D [] (XT D cI cZ sz0 ad av) (stC i k.toNatClampNeg) := by
  refine cR_of (cc := cJ0_charAt_5068e) (maxL := 2) (ret := some .char) (by decide +kernel) rfl _ (Nat.le_of_ble_eq_true rfl) ?_
  intro p e s m below meth c ls S hr hlk hP hX hl
  obtain ⟨hx, hb, hml, hown, hts⟩ := id S
  have hl : lv_has ls 2 [(0, .ref (ad i)), (1, .int k)] := hl
  refine lv_aload_n hx hb dJ0_charAt_5068e_0 rfl (lv_at hl 0 rfl) ?_
  refine callRV (As := []) (rest := []) S (ctJ0_isLatin1_aae02 l D cI cZ sz0 ad av i hi) (cwV 0 hts gJ0_charAt_5068e_J0_isLatin1_aae02 rfl rfl rfl ⟨rfl, hdJ0_isLatin1_aae02⟩ ⟨Nat.le_of_ble_eq_true rfl, Nat.le_of_ble_eq_true rfl⟩) hP [] rfl XT.xs hX.at0 (vk_recv hX.2.2.1 hi va_S.rf) rfl hl.1 rfl (Nat.le_of_ble_eq_true rfl) dJ0_charAt_5068e_1 ⟨Nat.zero_le _, Nat.zero_le _⟩ ?_
  refine lv_if_eq (tgt := 16) hx hb dJ0_charAt_5068e_4 (by decide) (fun h => absurd h (by decide)) (fun _ => ?_)
  refine lv_aload_n hx hb dJ0_charAt_5068e_7 rfl (lv_at hl 0 rfl) ?_
  refine vk_getf hx hb (hX.2.2.1.1 i hi).2.2.1 va_S.rf hown (hts (.fieldLink RJ0 9 "java/lang/String" "value" "[B") (List.mem_of_getElem? (i := 1) rfl)) (fun _ h => h) dJ0_charAt_5068e_8 ?_
  refine lv_iload_n hx hb dJ0_charAt_5068e_11 rfl (lv_at hl 1 rfl) ?_
  refine callRS (As := [.ref (av i), .int k]) (rest := []) S (ctJ1_charAt_3b067 l D cI cZ sz0 ad av i hi k hk) (va_cwS 2 hts gJ0_charAt_5068e_J1_charAt_3b067 rfl rfl rfl hdJ1_charAt_3b067 ⟨Nat.le_of_ble_eq_true rfl, Nat.le_of_ble_eq_true rfl⟩) hP [] rfl XT.xs hX.at0 rfl hl.1 rfl (Nat.le_of_ble_eq_true rfl) dJ0_charAt_5068e_12 ⟨Nat.zero_le _, Nat.zero_le _⟩ ?_
  exact retRg hx hb hr hlk (sc_nar _) dJ0_charAt_5068e_15
/-- all cells of a world lie from sz0 on -/
theorem zc_nil {sz0 : Nat} : ∀ (k : Nat) (q : Nat × va_E), ([] : va_W)[k]? = some q → sz0 ≤ q.1 := fun k q h => by simp at h
theorem zc_cons {sz0 a : Nat} {e : va_E} {w : va_W} (h : sz0 ≤ a) (hw : ∀ (k : Nat) (q : Nat × va_E), w[k]? = some q → sz0 ≤ q.1) : ∀ (k : Nat) (q : Nat × va_E), ((a, e) :: w)[k]? = some q → sz0 ≤ q.1 := by
  intro k q hk
  cases k with
  | zero => cases hk; exact h
  | succ k => exact hw k q hk
section STR2
variable {l : Launch} {cc : ByteArray} {maxL : Nat} {wsY : List Cond} {y : MethodName} {ret : Option FieldType} {rm : Room} {D : va_G} {wd wd' : va_W} {X : State → Prop}
theorem cM_ofZ {sz0 : Nat} {ws' : List Cond} {v : Option Value} (hy : plainName y.cls = true) (hw : wsY = Cond.code y cc maxL ret :: ws') (vs : List Value) (hv : (lg_sl vs).length ≤ maxL) (hz : ∀ (k : Nat) (q : Nat × va_E), wd[k]? = some q → sz0 ≤ q.1) (hXz : ∀ U, X U → sz0 ≤ U.heap.size)
    (body : ∀ (p : Program) (e : Env) (s : State) (m : MethodId) (below : List Frame) (meth : Method) (c : Code) (ls : Array Slot) (A : Nat → Prop), CallFix p m c cc maxL s vs.toArray wsY y.cls → meth.sig.returnType = ret → meth.locks = false → va_P D vwCl wd s.heap → X s → lv_has ls maxL (lv_args 0 vs) → va_D A wd → (∀ q : Nat, s.heap.size ≤ q → A q) → (∀ q : Nat, A q → sz0 ≤ q) → va_S A s.heap s.heap [] →
      W p l e rm s m vs.toArray below meth c s.heap [] 0 0 (MQ below (qM D v wd' A) vs.toArray s 0 0 A) (F0 m 0 ls [])) : cM l y wsY rm vs D wd wd' X v := by
  intro sz
  refine Met.ofW (cc := cc) (maxL := maxL) (ret := ret) hy hw ?_
  intro p e s m args below meth c s₁ B hml hv0
  obtain ⟨rfl, hsz, hP, hD, hX⟩ := hv0
  subst hsz
  have hl := lv_entry vs (n := maxL) hv
  rw [lg_entry_eq]
  refine body p e s m below meth c _ _ ⟨B.exec, B.bytes, hml, findClass_of_methodNamed B.named, atoms_spec (ws := wsY) B.pre⟩ B.returns B.notSynchronized hP hX hl hD.self (fun q h => Or.inr h) (fun q h => ?_) va_S.rf
  rcases h with ⟨k, e, h⟩ | h
  · exact hz k _ h
  · exact Nat.le_trans (hXz s hX) h
end STR2
