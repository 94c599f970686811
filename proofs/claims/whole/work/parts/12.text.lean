def fX9_rewind (v_t_behind : Int32) : Option (Int32) := some (0 : Int32)
abbrev rmX9_rewind : Room := { frames := 0, cells := 0, slots := 0, locals := 0 }
theorem iX9_rewind_X9 : ∀ w ∈ wsX90, w ∈ wsX9_rewind := fun _ h => List.mem_cons_of_mem _ (List.mem_append_right _ h)
theorem mX9_rewind_1 : (Cond.fieldLink RX9 19 "VoteFiles$Tokens" "behind" "I") ∈ wsX9_rewind := List.mem_of_getElem? (i := 1) rfl
theorem hdX9_rewind : yX9_rewind.cls ≠ "java/lang/invoke/MethodHandle" ∧ yX9_rewind.cls ≠ "java/lang/invoke/VarHandle" ∧ (parseMethodDescriptor yX9_rewind.desc).map (fun d => d.parameters.length) = some 0 := by decide +kernel
set_option maxHeartbeats 4000000 in
set_option maxRecDepth 100000 in
theorem ctX9_rewind (l : Launch) (D : va_G) (cI cZ : ClassId) (a_t a_t_text : Nat) (v_t_behind : Int32) (v_t_kind : Int32) (v_t_start : Int32) (v_t_number : Int32) (o_t_behind : Int32) (hf : fX9_rewind v_t_behind = some o_t_behind) : cM l yX9_rewind wsX9_rewind rmX9_rewind [.ref a_t] D [(a_t, .inr (9, [.ref a_t_text, .int v_t_kind, .int v_t_start, .int v_t_number, .int v_t_behind]))] [(a_t, .inr (9, [.ref a_t_text, .int v_t_kind, .int v_t_start, .int v_t_number, .int o_t_behind]))] (KX D cI cZ) none := by
  refine cM_of (cc := cX9_rewind) (maxL := 1) (ret := none) (by decide +kernel) rfl _ (Nat.le_of_ble_eq_true rfl) ?_
  intro p e s m below meth c ls A S hr hlk hP hK hl hD hA hS
  obtain ⟨hx, hb, hml, hown, hts⟩ := id S
  have hl : lv_has ls 1 [(0, .ref a_t)] := hl
  unfold fX9_rewind at hf
  refine lv_aload_n hx hb dX9_rewind_0 rfl (lv_at hl 0 rfl) ?_
  refine lv_iconst (v := 0) hx hb dX9_rewind_1 (by decide) ?_
  refine va_put (D := D) (ci := 9) (v := .int (0 : Int32)) (ty := .int) (C := RX9) (T := TX9) (N := 5) hx hb hts iX9_rewind_X9 tyX9 tyX9_ok nmX9 hown hK.1 hP hD hS 0 rfl rfl 4 (by decide) (hts _ mX9_rewind_1) (fun _ h9 => h9) rfl (tyX9_ok 4 (by decide)) rfl rfl (Nat.le_of_ble_eq_true rfl) dX9_rewind_2 (fun H locs hP hD hS => ?_)
  have hP : va_P D vwCl [(a_t, .inr (9, [.ref a_t_text, .int v_t_kind, .int v_t_start, .int v_t_number, .int (0 : Int32)]))] H := hP
  have hD : va_D A [(a_t, .inr (9, [.ref a_t_text, .int v_t_kind, .int v_t_start, .int v_t_number, .int (0 : Int32)]))] := hD
  obtain rfl := Option.some.inj hf
  exact retMv hx hb hr hlk hP hD hS dX9_rewind_5
def fX10_isWithin (jx0 : Int32) (jx1 : Int32) (jx2 : Int32) : Option (Int32) := if jx0 < jx1 then some (0 : Int32) else if jx2 < jx0 then some (0 : Int32) else some (1 : Int32)
abbrev rmX10_isWithin : Room := { frames := 0, cells := 0, slots := 0, locals := 0 }
theorem hdX10_isWithin : yX10_isWithin.cls ≠ "java/lang/invoke/MethodHandle" ∧ yX10_isWithin.cls ≠ "java/lang/invoke/VarHandle" ∧ (parseMethodDescriptor yX10_isWithin.desc).map (fun d => d.parameters.length) = some 3 := by decide +kernel
set_option maxHeartbeats 4000000 in
set_option maxRecDepth 100000 in
theorem ctX10_isWithin (l : Launch) (D : va_G) (cI cZ : ClassId) (jx0 : Int32) (jx1 : Int32) (jx2 : Int32) (r : Int32) (hf : fX10_isWithin jx0 jx1 jx2 = some r) : cR l yX10_isWithin wsX10_isWithin rmX10_isWithin [.int jx0, .int jx1, .int jx2] D [] (KX D cI cZ) r := by
  refine cR_of (cc := cX10_isWithin) (maxL := 3) (ret := some .boolean) (by decide +kernel) rfl _ (Nat.le_of_ble_eq_true rfl) ?_
  intro p e s m below meth c ls S hr hlk hP hK hl
  obtain ⟨hx, hb, hml, hown, hts⟩ := id S
  have hl : lv_has ls 3 [(0, .int jx0), (1, .int jx1), (2, .int jx2)] := hl
  unfold fX10_isWithin at hf
  refine lv_iload_n hx hb dX10_isWithin_0 rfl (lv_at hl 0 rfl) ?_
  refine lv_iload_n hx hb dX10_isWithin_1 rfl (lv_at hl 1 rfl) ?_
  refine lv_icmp_lt (tgt := 14) hx hb dX10_isWithin_2 (by decide) (fun jc1 => ?_) (fun jc1 => ?_)
  · have hf := ite_t jc1 hf
    refine lv_iconst (v := 0) hx hb dX10_isWithin_14 (by decide) ?_
    obtain rfl := Option.some.inj hf
    exact retRz hx hb hr hlk (by decide) dX10_isWithin_15
  · have hf := ite_f jc1 hf
    refine lv_iload_n hx hb dX10_isWithin_5 rfl (lv_at hl 0 rfl) ?_
    refine lv_iload_n hx hb dX10_isWithin_6 rfl (lv_at hl 2 rfl) ?_
    refine lv_icmp_gt (tgt := 14) hx hb dX10_isWithin_7 (by decide) (fun jc2 => ?_) (fun jc2 => ?_)
    · have hf := ite_t jc2 hf
      refine lv_iconst (v := 0) hx hb dX10_isWithin_14 (by decide) ?_
      obtain rfl := Option.some.inj hf
      exact retRz hx hb hr hlk (by decide) dX10_isWithin_15
    · have hf := ite_f jc2 hf
      refine lv_iconst (v := 1) hx hb dX10_isWithin_10 (by decide) ?_
      refine lv_goto (tgt := 15) hx hb dX10_isWithin_11 (by decide) ?_
      obtain rfl := Option.some.inj hf
      exact retRz hx hb hr hlk (by decide) dX10_isWithin_15
def fX9_isSmall (jx0 : Int32) : Option (Int32) := bd1 (fX10_isWithin jx0 (97 : Int32) (122 : Int32)) (fun jr1 => zcI jr1 (some jr1))
abbrev rmX9_isSmall : Room := { frames := 1, cells := 0, slots := 0, locals := 22 }
theorem mX9_isSmall_2 : (Cond.initialized RX10) ∈ wsX9_isSmall := List.mem_of_getElem? (i := 2) rfl
theorem mX9_isSmall_1 : (Cond.static yX10_isWithin) ∈ wsX9_isSmall := List.mem_of_getElem? (i := 1) rfl
theorem hdX9_isSmall : yX9_isSmall.cls ≠ "java/lang/invoke/MethodHandle" ∧ yX9_isSmall.cls ≠ "java/lang/invoke/VarHandle" ∧ (parseMethodDescriptor yX9_isSmall.desc).map (fun d => d.parameters.length) = some 1 := by decide +kernel
set_option maxHeartbeats 4000000 in
set_option maxRecDepth 100000 in
theorem ctX9_isSmall (l : Launch) (D : va_G) (cI cZ : ClassId) (jx0 : Int32) (r : Int32) (hf : fX9_isSmall jx0 = some r) : cR l yX9_isSmall wsX9_isSmall rmX9_isSmall [.int jx0] D [] (KX D cI cZ) r := by
  refine cR_of (cc := cX9_isSmall) (maxL := 1) (ret := some .boolean) (by decide +kernel) rfl _ (Nat.le_of_ble_eq_true rfl) ?_
  intro p e s m below meth c ls S hr hlk hP hK hl
  obtain ⟨hx, hb, hml, hown, hts⟩ := id S
  have hl : lv_has ls 1 [(0, .int jx0)] := hl
  unfold fX9_isSmall at hf
  refine lv_iload_n hx hb dX9_isSmall_0 rfl (lv_at hl 0 rfl) ?_
  refine lv_bipush (v := 97) hx hb dX9_isSmall_1 (by decide) ?_
  refine lv_bipush (v := 122) hx hb dX9_isSmall_3 (by decide) ?_
  obtain ⟨jr1, je2, hf⟩ := bd1_inv hf
  refine callRSN (As := [.int jx0, .int (97 : Int32), .int (122 : Int32)]) (rest := []) S (ctX10_isWithin l D cI cZ jx0 (97 : Int32) (122 : Int32) jr1 je2) ⟨va_cnB 3 hts gX9_isSmall_X10_isWithin_n75 rfl rfl rfl (hK.2 (RX9, 75, yX10_isWithin, RX10) (by simp [nwQ])) (hts _ mX9_isSmall_2) hdX10_isWithin ⟨Nat.le_of_ble_eq_true rfl, Nat.le_of_ble_eq_true rfl⟩, hts _ mX9_isSmall_1, trivial⟩ hP [] rfl KX.xs (fun U _ hW => hK.warm hW) rfl hl.1 rfl (Nat.le_of_ble_eq_true rfl) dX9_isSmall_5 ⟨Nat.zero_le _, Nat.zero_le _⟩ ?_
  obtain ⟨jh3, hf⟩ := zcI_inv hf
  obtain rfl := Option.some.inj hf
  exact retRz hx hb hr hlk (nar_z jh3) dX9_isSmall_8
def fX9_spells_20 (js : Nat) (v_t_start : Int32) (v_t_behind : Int32) (v_t_text_length : Int32) (v_t_text_letters : (Nat → Int32)) : Nat → Int32 → Option (Int32)
  | 0, _ => none
  | n + 1, jx2 => if (nI (stL js)) ≤ jx2 then some (1 : Int32) else ckI (stL js) jx2 (bd1 (fX2_at (v_t_start + jx2) v_t_text_length v_t_text_letters) (fun jr3 => if (stC js (Int32.toNatClampNeg jx2)) = jr3 then (fX9_spells_20 js v_t_start v_t_behind v_t_text_length v_t_text_letters n) (jx2 + (1 : Int32)) else some (0 : Int32)))
theorem fX9_spells_20_s (js : Nat) (v_t_start : Int32) (v_t_behind : Int32) (v_t_text_length : Int32) (v_t_text_letters : (Nat → Int32)) (n : Nat) (jx2 : Int32) : fX9_spells_20 js v_t_start v_t_behind v_t_text_length v_t_text_letters (n + 1) jx2 = if (nI (stL js)) ≤ jx2 then some (1 : Int32) else ckI (stL js) jx2 (bd1 (fX2_at (v_t_start + jx2) v_t_text_length v_t_text_letters) (fun jr3 => if (stC js (Int32.toNatClampNeg jx2)) = jr3 then (fX9_spells_20 js v_t_start v_t_behind v_t_text_length v_t_text_letters n) (jx2 + (1 : Int32)) else some (0 : Int32))) := rfl
def fX9_spells (js : Nat) (v_t_start : Int32) (v_t_behind : Int32) (v_t_text_length : Int32) (v_t_text_letters : (Nat → Int32)) : Option (Int32) := if (nI (stL js)) = (v_t_behind - v_t_start) then fX9_spells_20 js v_t_start v_t_behind v_t_text_length v_t_text_letters fuel (0 : Int32) else some (0 : Int32)
abbrev rmX9_spells : Room := { frames := 4, cells := 0, slots := 0, locals := 85 }
theorem iX9_spells_X9 : ∀ w ∈ wsX90, w ∈ wsX9_spells := fun _ h => List.mem_cons_of_mem _ (List.mem_append_left _ (List.mem_append_right _ h))
theorem mX9_spells_3 : (Cond.fieldLink RX9 22 "VoteFiles$Tokens" "text" "LVoteFiles$Letters;") ∈ wsX9_spells := List.mem_of_getElem? (i := 3) rfl
theorem mX9_spells_2 : (Cond.fieldLink RX9 13 "VoteFiles$Tokens" "start" "I") ∈ wsX9_spells := List.mem_of_getElem? (i := 2) rfl
theorem mX9_spells_1 : (Cond.fieldLink RX9 19 "VoteFiles$Tokens" "behind" "I") ∈ wsX9_spells := List.mem_of_getElem? (i := 1) rfl
set_option maxHeartbeats 4000000 in
set_option maxRecDepth 100000 in
theorem wX9_spells_20 {p : Program} {l : Launch} {e : Env} {s : State} {m : MethodId} {args : Array Value} {below : List Frame} {meth : Method} {c : Code} {D : va_G} {cI cZ : ClassId} {sz0 : Nat} {ad av : Nat → Nat} (S : CallFix p m c cX9_spells 3 s args wsX9_spells RX9) (hr : meth.sig.returnType = some .boolean) (hlk : meth.locks = false) (hT : XT D cI cZ sz0 ad av s) {a_t a_t_text a_t_text_letters : Nat} {js : Nat} {v_t_start : Int32} {v_t_behind : Int32} {v_t_text_length : Int32} {v_t_text_letters : (Nat → Int32)} {v_t_kind : Int32} {v_t_number : Int32} {r : Int32} (hjs : js < 4) (hP : va_P D vwCl [(a_t, .inr (9, [.ref a_t_text, .int v_t_kind, .int v_t_start, .int v_t_number, .int v_t_behind])), (a_t_text, .inr (2, [.ref a_t_text_letters, .int v_t_text_length])), (a_t_text_letters, .inl (cI, 120, .inl v_t_text_letters))] s.heap) : ∀ (n : Nat), ∀ (jx2 : Int32) (ls : Array Slot), fX9_spells_20 js v_t_start v_t_behind v_t_text_length v_t_text_letters n jx2 = some r → lv_has ls 3 [(0, .ref a_t), (1, .ref (ad js)), (2, .int jx2)] → W p l e rmX9_spells s m args below meth c s.heap [] 0 0 (MQ below (QcRead r) args s 0 0 (fun _ => False)) (F0 m 20 ls []) := by
  obtain ⟨hx, hb, hml, hown, hts⟩ := id S
  have hK := hT.1
  intro n
  induction n with
  | zero =>
    intro jx2 ls hf hl
    cases (show (none : Option _) = some _ from hf)
  | succ n ih =>
    intro jx2 ls hf hl
    have hf := (fX9_spells_20_s _ _ _ _ _ n _).symm.trans hf
    refine lv_iload_n hx hb dX9_spells_20 rfl (lv_at hl 2 rfl) ?_
    refine lv_aload_n hx hb dX9_spells_21 rfl (lv_at hl 1 rfl) ?_
    refine callRV (As := []) (rest := [.int jx2]) S (ctJ0_length_8abf5 l D cI cZ sz0 ad av js hjs) (cwV 0 hts gX9_spells_J0_length_8abf5 rfl rfl rfl ⟨rfl, hdJ0_length_8abf5⟩ ⟨Nat.le_of_ble_eq_true rfl, Nat.le_of_ble_eq_true rfl⟩) hP [] rfl XT.xs hT.at0 (vk_recv hT.2.2.1 hjs va_S.rf) rfl hl.1 rfl (Nat.le_of_ble_eq_true rfl) dX9_spells_22 ⟨Nat.zero_le _, Nat.zero_le _⟩ ?_
    refine lv_icmp_ge (tgt := 57) hx hb dX9_spells_25 (by decide) (fun jc1 => ?_) (fun jc1 => ?_)
    · have hf := ite_t jc1 hf
      refine lv_iconst (v := 1) hx hb dX9_spells_57 (by decide) ?_
      obtain rfl := Option.some.inj hf
      exact retRz hx hb hr hlk (by decide) dX9_spells_58
    · have hf := ite_f jc1 hf
      refine lv_aload_n hx hb dX9_spells_28 rfl (lv_at hl 1 rfl) ?_
      refine lv_iload_n hx hb dX9_spells_29 rfl (lv_at hl 2 rfl) ?_
      obtain ⟨jh2, hf⟩ := ckI_inv hf
      refine callRV (As := [.int jx2]) (rest := []) S (ctJ0_charAt_5068e l D cI cZ sz0 ad av js hjs jx2 jh2) (cwV 1 hts gX9_spells_J0_charAt_5068e rfl rfl rfl ⟨rfl, hdJ0_charAt_5068e⟩ ⟨Nat.le_of_ble_eq_true rfl, Nat.le_of_ble_eq_true rfl⟩) hP [] rfl XT.xs hT.at0 (vk_recv hT.2.2.1 hjs va_S.rf) rfl hl.1 rfl (Nat.le_of_ble_eq_true rfl) dX9_spells_30 ⟨Nat.zero_le _, Nat.zero_le _⟩ ?_
      refine lv_aload_n hx hb dX9_spells_33 rfl (lv_at hl 0 rfl) ?_
      refine va_get (D := D) (ci := 9) (v := .ref a_t_text) (C := RX9) (T := TX9) (N := 5) hx hb hts iX9_spells_X9 hown hK.1 hP 0 rfl rfl 0 (by decide) (hts _ mX9_spells_3) (fun _ h9 => h9) rfl dX9_spells_34 ?_
      refine lv_aload_n hx hb dX9_spells_37 rfl (lv_at hl 0 rfl) ?_
      refine va_get (D := D) (ci := 9) (v := .int v_t_start) (C := RX9) (T := TX9) (N := 5) hx hb hts iX9_spells_X9 hown hK.1 hP 0 rfl rfl 2 (by decide) (hts _ mX9_spells_2) (fun _ h9 => h9) rfl dX9_spells_38 ?_
      refine lv_iload_n hx hb dX9_spells_41 rfl (lv_at hl 2 rfl) ?_
      refine lv_iadd hx hb dX9_spells_42 ?_
      obtain ⟨jr3, je4, hf⟩ := bd1_inv hf
      refine callRV (As := [.int (v_t_start + jx2)]) (rest := [.int (stC js (Int32.toNatClampNeg jx2))]) S (ctX2_at l D cI cZ a_t_text a_t_text_letters (v_t_start + jx2) v_t_text_length v_t_text_letters jr3 je4) (cwV 1 hts gX9_spells_X2_at rfl rfl rfl ⟨rfl, hdX2_at⟩ ⟨Nat.le_of_ble_eq_true rfl, Nat.le_of_ble_eq_true rfl⟩) hP [1, 2] rfl KX.xs (fun U _ hW => hK.warm hW) (va_recv hK.1 hP (ci := 2) (q0 := 1) rfl rfl) rfl hl.1 rfl (Nat.le_of_ble_eq_true rfl) dX9_spells_43 ⟨Nat.zero_le _, Nat.zero_le _⟩ ?_
      refine lv_icmp_eq (tgt := 51) hx hb dX9_spells_46 (by decide) (fun jc5 => ?_) (fun jc5 => ?_)
      · have hf := ite_t jc5 hf
        refine lv_iinc (v := (jx2 + (1 : Int32))) (lv' := [(2, .int (jx2 + (1 : Int32))), (0, .ref a_t), (1, .ref (ad js))]) hx hb dX9_spells_51 hl (k := 2) rfl rfl (by decide) rfl (fun ls hl => ?_)
        refine lv_goto (tgt := 20) hx hb dX9_spells_54 (by decide) ?_
        exact ih (jx2 + (1 : Int32)) ls hf (lv_sub hl [1, 2, 0] rfl)
      · have hf := ite_f jc5 hf
        refine lv_iconst (v := 0) hx hb dX9_spells_49 (by decide) ?_
        obtain rfl := Option.some.inj hf
        exact retRz hx hb hr hlk (by decide) dX9_spells_50
theorem hdX9_spells : yX9_spells.cls ≠ "java/lang/invoke/MethodHandle" ∧ yX9_spells.cls ≠ "java/lang/invoke/VarHandle" ∧ (parseMethodDescriptor yX9_spells.desc).map (fun d => d.parameters.length) = some 1 := by decide +kernel
set_option maxHeartbeats 4000000 in
set_option maxRecDepth 100000 in
theorem ctX9_spells (l : Launch) (D : va_G) (cI cZ : ClassId) (sz0 : Nat) (ad av : Nat → Nat) (a_t a_t_text a_t_text_letters : Nat) (js : Nat) (v_t_start : Int32) (v_t_behind : Int32) (v_t_text_length : Int32) (v_t_text_letters : (Nat → Int32)) (v_t_kind : Int32) (v_t_number : Int32) (r : Int32) (hjs : js < 4) (hf : fX9_spells js v_t_start v_t_behind v_t_text_length v_t_text_letters = some r) : cR l yX9_spells wsX9_spells rmX9_spells [.ref a_t, .ref (ad js)] D [(a_t, .inr (9, [.ref a_t_text, .int v_t_kind, .int v_t_start, .int v_t_number, .int v_t_behind])), (a_t_text, .inr (2, [.ref a_t_text_letters, .int v_t_text_length])), (a_t_text_letters, .inl (cI, 120, .inl v_t_text_letters))] (XT D cI cZ sz0 ad av) r := by
  refine cR_of (cc := cX9_spells) (maxL := 3) (ret := some .boolean) (by decide +kernel) rfl _ (Nat.le_of_ble_eq_true rfl) ?_
  intro p e s m below meth c ls S hr hlk hP hT hl
  have hK := hT.1
  obtain ⟨hx, hb, hml, hown, hts⟩ := id S
  have hl : lv_has ls 3 [(0, .ref a_t), (1, .ref (ad js))] := hl
  unfold fX9_spells at hf
  refine lv_aload_n hx hb dX9_spells_0 rfl (lv_at hl 1 rfl) ?_
  refine callRV (As := []) (rest := []) S (ctJ0_length_8abf5 l D cI cZ sz0 ad av js hjs) (cwV 0 hts gX9_spells_J0_length_8abf5 rfl rfl rfl ⟨rfl, hdJ0_length_8abf5⟩ ⟨Nat.le_of_ble_eq_true rfl, Nat.le_of_ble_eq_true rfl⟩) hP [] rfl XT.xs hT.at0 (vk_recv hT.2.2.1 hjs va_S.rf) rfl hl.1 rfl (Nat.le_of_ble_eq_true rfl) dX9_spells_1 ⟨Nat.zero_le _, Nat.zero_le _⟩ ?_
  refine lv_aload_n hx hb dX9_spells_4 rfl (lv_at hl 0 rfl) ?_
  refine va_get (D := D) (ci := 9) (v := .int v_t_behind) (C := RX9) (T := TX9) (N := 5) hx hb hts iX9_spells_X9 hown hK.1 hP 0 rfl rfl 4 (by decide) (hts _ mX9_spells_1) (fun _ h9 => h9) rfl dX9_spells_5 ?_
  refine lv_aload_n hx hb dX9_spells_8 rfl (lv_at hl 0 rfl) ?_
  refine va_get (D := D) (ci := 9) (v := .int v_t_start) (C := RX9) (T := TX9) (N := 5) hx hb hts iX9_spells_X9 hown hK.1 hP 0 rfl rfl 2 (by decide) (hts _ mX9_spells_2) (fun _ h9 => h9) rfl dX9_spells_9 ?_
  refine lv_isub hx hb dX9_spells_12 ?_
  refine lv_icmp_eq (tgt := 18) hx hb dX9_spells_13 (by decide) (fun jc1 => ?_) (fun jc1 => ?_)
  · have hf := ite_t jc1 hf
    refine lv_iconst (v := 0) hx hb dX9_spells_18 (by decide) ?_
    refine lv_istore_n (lv' := [(2, .int (0 : Int32)), (0, .ref a_t), (1, .ref (ad js))]) hx hb dX9_spells_19 rfl hl (by decide) rfl (fun ls hl => ?_)
    exact wX9_spells_20 S hr hlk hT hjs hP fuel (0 : Int32) ls hf (lv_sub hl [1, 2, 0] rfl)
  · have hf := ite_f jc1 hf
    refine lv_iconst (v := 0) hx hb dX9_spells_16 (by decide) ?_
    obtain rfl := Option.some.inj hf
    exact retRz hx hb hr hlk (by decide) dX9_spells_17
def fX9_takeWord_44 (v_t_start : Int32) (v_t_text_length : Int32) (v_t_text_letters : (Nat → Int32)) (v_t_kind : Int32) (v_t_behind : Int32) : Option (Int32 × Int32) := bd1 (fX9_spells 0 v_t_start v_t_behind v_t_text_length v_t_text_letters) (fun jr1 => if jr1 = 0 then bd1 (fX9_spells 1 v_t_start v_t_behind v_t_text_length v_t_text_letters) (fun jr4 => if jr4 = 0 then bd1 (fX9_spells 2 v_t_start v_t_behind v_t_text_length v_t_text_letters) (fun jr7 => if jr7 = 0 then bd1 (fX9_spells 3 v_t_start v_t_behind v_t_text_length v_t_text_letters) (fun jr10 => if jr10 = 0 then some ((7 : Int32), v_t_behind) else some ((4 : Int32), v_t_behind)) else some ((3 : Int32), v_t_behind)) else some ((2 : Int32), v_t_behind)) else some ((1 : Int32), v_t_behind))
def fX9_takeWord_0 (v_t_start : Int32) (v_t_text_length : Int32) (v_t_text_letters : (Nat → Int32)) : Nat → Int32 → Int32 → Option (Int32 × Int32)
  | 0, _, _ => none
  | n + 1, v_t_kind, v_t_behind => if v_t_text_length ≤ v_t_behind then fX9_takeWord_44 v_t_start v_t_text_length v_t_text_letters v_t_kind v_t_behind else bd1 (fX2_at v_t_behind v_t_text_length v_t_text_letters) (fun jr2 => bd1 (fX9_isSmall jr2) (fun jr4 => if jr4 = 0 then fX9_takeWord_44 v_t_start v_t_text_length v_t_text_letters v_t_kind v_t_behind else (fX9_takeWord_0 v_t_start v_t_text_length v_t_text_letters n) v_t_kind (v_t_behind + (1 : Int32))))
theorem fX9_takeWord_0_s (v_t_start : Int32) (v_t_text_length : Int32) (v_t_text_letters : (Nat → Int32)) (n : Nat) (v_t_kind : Int32) (v_t_behind : Int32) : fX9_takeWord_0 v_t_start v_t_text_length v_t_text_letters (n + 1) v_t_kind v_t_behind = if v_t_text_length ≤ v_t_behind then fX9_takeWord_44 v_t_start v_t_text_length v_t_text_letters v_t_kind v_t_behind else bd1 (fX2_at v_t_behind v_t_text_length v_t_text_letters) (fun jr2 => bd1 (fX9_isSmall jr2) (fun jr4 => if jr4 = 0 then fX9_takeWord_44 v_t_start v_t_text_length v_t_text_letters v_t_kind v_t_behind else (fX9_takeWord_0 v_t_start v_t_text_length v_t_text_letters n) v_t_kind (v_t_behind + (1 : Int32)))) := rfl
def fX9_takeWord (v_t_kind : Int32) (v_t_start : Int32) (v_t_behind : Int32) (v_t_text_length : Int32) (v_t_text_letters : (Nat → Int32)) : Option (Int32 × Int32) := fX9_takeWord_0 v_t_start v_t_text_length v_t_text_letters fuel v_t_kind v_t_behind
abbrev rmX9_takeWord : Room := { frames := 5, cells := 0, slots := 0, locals := 107 }
theorem iX9_takeWord_X9 : ∀ w ∈ wsX90, w ∈ wsX9_takeWord := fun _ h => List.mem_cons_of_mem _ (List.mem_append_left _ (List.mem_append_right _ h))
theorem mX9_takeWord_4 : (Cond.fieldLink RX9 9 "VoteFiles$Tokens" "kind" "I") ∈ wsX9_takeWord := List.mem_of_getElem? (i := 4) rfl
theorem mX9_takeWord_1 : (Cond.fieldLink RX9 19 "VoteFiles$Tokens" "behind" "I") ∈ wsX9_takeWord := List.mem_of_getElem? (i := 1) rfl
theorem mX9_takeWord_2 : (Cond.fieldLink RX9 22 "VoteFiles$Tokens" "text" "LVoteFiles$Letters;") ∈ wsX9_takeWord := List.mem_of_getElem? (i := 2) rfl
theorem iX9_takeWord_X2 : ∀ w ∈ wsX20, w ∈ wsX9_takeWord := fun _ h => List.mem_cons_of_mem _ (List.mem_append_right _ h)
theorem mX9_takeWord_3 : (Cond.fieldLink RX9 26 "VoteFiles$Letters" "length" "I") ∈ wsX9_takeWord := List.mem_of_getElem? (i := 3) rfl
set_option maxHeartbeats 4000000 in
set_option maxRecDepth 100000 in
theorem wX9_takeWord_44 {p : Program} {l : Launch} {e : Env} {s : State} {m : MethodId} {args : Array Value} {below : List Frame} {meth : Method} {c : Code} {D : va_G} {cI cZ : ClassId} {sz0 : Nat} {ad av : Nat → Nat} (S : CallFix p m c cX9_takeWord 1 s args wsX9_takeWord RX9) (hr : meth.sig.returnType = none) (hlk : meth.locks = false) (hT : XT D cI cZ sz0 ad av s) {a_t a_t_text a_t_text_letters : Nat} (z_t : sz0 ≤ a_t) (z_t_text : sz0 ≤ a_t_text) (z_t_text_letters : sz0 ≤ a_t_text_letters) {v_t_start : Int32} {v_t_text_length : Int32} {v_t_text_letters : (Nat → Int32)} {v_t_number : Int32} {o_t_kind : Int32} {o_t_behind : Int32} {A : Nat → Prop} (hA : ∀ q : Nat, s.heap.size ≤ q → A q) (hZ : ∀ q : Nat, A q → sz0 ≤ q) : ∀ (v_t_kind : Int32) (v_t_behind : Int32) (ls : Array Slot) (H : Heap) (locs : List Loc), fX9_takeWord_44 v_t_start v_t_text_length v_t_text_letters v_t_kind v_t_behind = some (o_t_kind, o_t_behind) → lv_has ls 1 [(0, .ref a_t)] → va_P D vwCl [(a_t, .inr (9, [.ref a_t_text, .int v_t_kind, .int v_t_start, .int v_t_number, .int v_t_behind])), (a_t_text, .inr (2, [.ref a_t_text_letters, .int v_t_text_length])), (a_t_text_letters, .inl (cI, 120, .inl v_t_text_letters))] H → va_D A [(a_t, .inr (9, [.ref a_t_text, .int v_t_kind, .int v_t_start, .int v_t_number, .int v_t_behind])), (a_t_text, .inr (2, [.ref a_t_text_letters, .int v_t_text_length])), (a_t_text_letters, .inl (cI, 120, .inl v_t_text_letters))] → va_S A s.heap H locs → W p l e rmX9_takeWord s m args below meth c H locs 0 0 (MQ below (qM D none [(a_t, .inr (9, [.ref a_t_text, .int o_t_kind, .int v_t_start, .int v_t_number, .int o_t_behind])), (a_t_text, .inr (2, [.ref a_t_text_letters, .int v_t_text_length])), (a_t_text_letters, .inl (cI, 120, .inl v_t_text_letters))] A) args s 0 0 A) (F0 m 44 ls []) := by
  obtain ⟨hx, hb, hml, hown, hts⟩ := id S
  have hK := hT.1
  intro v_t_kind v_t_behind ls H locs hf hl hP hD hS
  unfold fX9_takeWord_44 at hf
  refine lv_aload_n hx hb dX9_takeWord_44 rfl (lv_at hl 0 rfl) ?_
  refine va_ldcS hx hb hown hT.2.2.2.2.2.1 dX9_takeWord_45 ?_
  obtain ⟨jr1, je2, hf⟩ := bd1_inv hf
  refine callRV (As := [.ref (ad 0)]) (rest := []) S (ctX9_spells l D cI cZ sz0 ad av a_t a_t_text a_t_text_letters 0 v_t_start v_t_behind v_t_text_length v_t_text_letters v_t_kind v_t_number jr1 (by decide) je2) (cwV 1 hts gX9_takeWord_X9_spells rfl rfl rfl ⟨rfl, hdX9_spells⟩ ⟨Nat.le_of_ble_eq_true rfl, Nat.le_of_ble_eq_true rfl⟩) hP [0, 1, 2] rfl XT.xs (hT.at hS hZ) (va_recv hK.1 hP (ci := 9) (q0 := 0) rfl rfl) rfl hl.1 rfl (Nat.le_of_ble_eq_true rfl) dX9_takeWord_47 ⟨Nat.zero_le _, Nat.zero_le _⟩ ?_
  refine lv_if_eq (tgt := 61) hx hb dX9_takeWord_50 (by decide) (fun jc3 => ?_) (fun jc3 => ?_)
  · have hf := ite_t jc3 hf
    refine lv_aload_n hx hb dX9_takeWord_61 rfl (lv_at hl 0 rfl) ?_
    refine va_ldcS hx hb hown hT.2.2.2.2.2.2.1 dX9_takeWord_62 ?_
    obtain ⟨jr4, je5, hf⟩ := bd1_inv hf
    refine callRV (As := [.ref (ad 1)]) (rest := []) S (ctX9_spells l D cI cZ sz0 ad av a_t a_t_text a_t_text_letters 1 v_t_start v_t_behind v_t_text_length v_t_text_letters v_t_kind v_t_number jr4 (by decide) je5) (cwV 1 hts gX9_takeWord_X9_spells rfl rfl rfl ⟨rfl, hdX9_spells⟩ ⟨Nat.le_of_ble_eq_true rfl, Nat.le_of_ble_eq_true rfl⟩) hP [0, 1, 2] rfl XT.xs (hT.at hS hZ) (va_recv hK.1 hP (ci := 9) (q0 := 0) rfl rfl) rfl hl.1 rfl (Nat.le_of_ble_eq_true rfl) dX9_takeWord_64 ⟨Nat.zero_le _, Nat.zero_le _⟩ ?_
    refine lv_if_eq (tgt := 78) hx hb dX9_takeWord_67 (by decide) (fun jc6 => ?_) (fun jc6 => ?_)
    · have hf := ite_t jc6 hf
      refine lv_aload_n hx hb dX9_takeWord_78 rfl (lv_at hl 0 rfl) ?_
      refine va_ldcS hx hb hown hT.2.2.2.2.2.2.2.1 dX9_takeWord_79 ?_
      obtain ⟨jr7, je8, hf⟩ := bd1_inv hf
      refine callRV (As := [.ref (ad 2)]) (rest := []) S (ctX9_spells l D cI cZ sz0 ad av a_t a_t_text a_t_text_letters 2 v_t_start v_t_behind v_t_text_length v_t_text_letters v_t_kind v_t_number jr7 (by decide) je8) (cwV 1 hts gX9_takeWord_X9_spells rfl rfl rfl ⟨rfl, hdX9_spells⟩ ⟨Nat.le_of_ble_eq_true rfl, Nat.le_of_ble_eq_true rfl⟩) hP [0, 1, 2] rfl XT.xs (hT.at hS hZ) (va_recv hK.1 hP (ci := 9) (q0 := 0) rfl rfl) rfl hl.1 rfl (Nat.le_of_ble_eq_true rfl) dX9_takeWord_81 ⟨Nat.zero_le _, Nat.zero_le _⟩ ?_
      refine lv_if_eq (tgt := 95) hx hb dX9_takeWord_84 (by decide) (fun jc9 => ?_) (fun jc9 => ?_)
      · have hf := ite_t jc9 hf
        refine lv_aload_n hx hb dX9_takeWord_95 rfl (lv_at hl 0 rfl) ?_
        refine va_ldcS hx hb hown hT.2.2.2.2.2.2.2.2 dX9_takeWord_96 ?_
        obtain ⟨jr10, je11, hf⟩ := bd1_inv hf
        refine callRV (As := [.ref (ad 3)]) (rest := []) S (ctX9_spells l D cI cZ sz0 ad av a_t a_t_text a_t_text_letters 3 v_t_start v_t_behind v_t_text_length v_t_text_letters v_t_kind v_t_number jr10 (by decide) je11) (cwV 1 hts gX9_takeWord_X9_spells rfl rfl rfl ⟨rfl, hdX9_spells⟩ ⟨Nat.le_of_ble_eq_true rfl, Nat.le_of_ble_eq_true rfl⟩) hP [0, 1, 2] rfl XT.xs (hT.at hS hZ) (va_recv hK.1 hP (ci := 9) (q0 := 0) rfl rfl) rfl hl.1 rfl (Nat.le_of_ble_eq_true rfl) dX9_takeWord_98 ⟨Nat.zero_le _, Nat.zero_le _⟩ ?_
        refine lv_if_eq (tgt := 112) hx hb dX9_takeWord_101 (by decide) (fun jc12 => ?_) (fun jc12 => ?_)
        · have hf := ite_t jc12 hf
          refine lv_aload_n hx hb dX9_takeWord_112 rfl (lv_at hl 0 rfl) ?_
          refine lv_bipush (v := 7) hx hb dX9_takeWord_113 (by decide) ?_
          refine va_put (D := D) (ci := 9) (v := .int (7 : Int32)) (ty := .int) (C := RX9) (T := TX9) (N := 5) hx hb hts iX9_takeWord_X9 tyX9 tyX9_ok nmX9 hown hK.1 hP hD hS 0 rfl rfl 1 (by decide) (hts _ mX9_takeWord_4) (fun _ h9 => h9) rfl (tyX9_ok 1 (by decide)) rfl rfl (Nat.le_of_ble_eq_true rfl) dX9_takeWord_115 (fun H locs hP hD hS => ?_)
          have hP : va_P D vwCl [(a_t, .inr (9, [.ref a_t_text, .int (7 : Int32), .int v_t_start, .int v_t_number, .int v_t_behind])), (a_t_text, .inr (2, [.ref a_t_text_letters, .int v_t_text_length])), (a_t_text_letters, .inl (cI, 120, .inl v_t_text_letters))] H := hP
          have hD : va_D A [(a_t, .inr (9, [.ref a_t_text, .int (7 : Int32), .int v_t_start, .int v_t_number, .int v_t_behind])), (a_t_text, .inr (2, [.ref a_t_text_letters, .int v_t_text_length])), (a_t_text_letters, .inl (cI, 120, .inl v_t_text_letters))] := hD
          obtain ⟨rfl, rfl⟩ := pr2_inv hf
          exact retMv hx hb hr hlk hP hD hS dX9_takeWord_118
        · have hf := ite_f jc12 hf
          refine lv_aload_n hx hb dX9_takeWord_104 rfl (lv_at hl 0 rfl) ?_
          refine lv_iconst (v := 4) hx hb dX9_takeWord_105 (by decide) ?_
          refine va_put (D := D) (ci := 9) (v := .int (4 : Int32)) (ty := .int) (C := RX9) (T := TX9) (N := 5) hx hb hts iX9_takeWord_X9 tyX9 tyX9_ok nmX9 hown hK.1 hP hD hS 0 rfl rfl 1 (by decide) (hts _ mX9_takeWord_4) (fun _ h9 => h9) rfl (tyX9_ok 1 (by decide)) rfl rfl (Nat.le_of_ble_eq_true rfl) dX9_takeWord_106 (fun H locs hP hD hS => ?_)
          have hP : va_P D vwCl [(a_t, .inr (9, [.ref a_t_text, .int (4 : Int32), .int v_t_start, .int v_t_number, .int v_t_behind])), (a_t_text, .inr (2, [.ref a_t_text_letters, .int v_t_text_length])), (a_t_text_letters, .inl (cI, 120, .inl v_t_text_letters))] H := hP
          have hD : va_D A [(a_t, .inr (9, [.ref a_t_text, .int (4 : Int32), .int v_t_start, .int v_t_number, .int v_t_behind])), (a_t_text, .inr (2, [.ref a_t_text_letters, .int v_t_text_length])), (a_t_text_letters, .inl (cI, 120, .inl v_t_text_letters))] := hD
          refine lv_goto (tgt := 118) hx hb dX9_takeWord_109 (by decide) ?_
          obtain ⟨rfl, rfl⟩ := pr2_inv hf
          exact retMv hx hb hr hlk hP hD hS dX9_takeWord_118
      · have hf := ite_f jc9 hf
        refine lv_aload_n hx hb dX9_takeWord_87 rfl (lv_at hl 0 rfl) ?_
        refine lv_iconst (v := 3) hx hb dX9_takeWord_88 (by decide) ?_
        refine va_put (D := D) (ci := 9) (v := .int (3 : Int32)) (ty := .int) (C := RX9) (T := TX9) (N := 5) hx hb hts iX9_takeWord_X9 tyX9 tyX9_ok nmX9 hown hK.1 hP hD hS 0 rfl rfl 1 (by decide) (hts _ mX9_takeWord_4) (fun _ h9 => h9) rfl (tyX9_ok 1 (by decide)) rfl rfl (Nat.le_of_ble_eq_true rfl) dX9_takeWord_89 (fun H locs hP hD hS => ?_)
        have hP : va_P D vwCl [(a_t, .inr (9, [.ref a_t_text, .int (3 : Int32), .int v_t_start, .int v_t_number, .int v_t_behind])), (a_t_text, .inr (2, [.ref a_t_text_letters, .int v_t_text_length])), (a_t_text_letters, .inl (cI, 120, .inl v_t_text_letters))] H := hP
        have hD : va_D A [(a_t, .inr (9, [.ref a_t_text, .int (3 : Int32), .int v_t_start, .int v_t_number, .int v_t_behind])), (a_t_text, .inr (2, [.ref a_t_text_letters, .int v_t_text_length])), (a_t_text_letters, .inl (cI, 120, .inl v_t_text_letters))] := hD
        refine lv_goto (tgt := 118) hx hb dX9_takeWord_92 (by decide) ?_
        obtain ⟨rfl, rfl⟩ := pr2_inv hf
        exact retMv hx hb hr hlk hP hD hS dX9_takeWord_118
    · have hf := ite_f jc6 hf
      refine lv_aload_n hx hb dX9_takeWord_70 rfl (lv_at hl 0 rfl) ?_
      refine lv_iconst (v := 2) hx hb dX9_takeWord_71 (by decide) ?_
      refine va_put (D := D) (ci := 9) (v := .int (2 : Int32)) (ty := .int) (C := RX9) (T := TX9) (N := 5) hx hb hts iX9_takeWord_X9 tyX9 tyX9_ok nmX9 hown hK.1 hP hD hS 0 rfl rfl 1 (by decide) (hts _ mX9_takeWord_4) (fun _ h9 => h9) rfl (tyX9_ok 1 (by decide)) rfl rfl (Nat.le_of_ble_eq_true rfl) dX9_takeWord_72 (fun H locs hP hD hS => ?_)
      have hP : va_P D vwCl [(a_t, .inr (9, [.ref a_t_text, .int (2 : Int32), .int v_t_start, .int v_t_number, .int v_t_behind])), (a_t_text, .inr (2, [.ref a_t_text_letters, .int v_t_text_length])), (a_t_text_letters, .inl (cI, 120, .inl v_t_text_letters))] H := hP
      have hD : va_D A [(a_t, .inr (9, [.ref a_t_text, .int (2 : Int32), .int v_t_start, .int v_t_number, .int v_t_behind])), (a_t_text, .inr (2, [.ref a_t_text_letters, .int v_t_text_length])), (a_t_text_letters, .inl (cI, 120, .inl v_t_text_letters))] := hD
      refine lv_goto (tgt := 118) hx hb dX9_takeWord_75 (by decide) ?_
      obtain ⟨rfl, rfl⟩ := pr2_inv hf
      exact retMv hx hb hr hlk hP hD hS dX9_takeWord_118
  · have hf := ite_f jc3 hf
    refine lv_aload_n hx hb dX9_takeWord_53 rfl (lv_at hl 0 rfl) ?_
    refine lv_iconst (v := 1) hx hb dX9_takeWord_54 (by decide) ?_
    refine va_put (D := D) (ci := 9) (v := .int (1 : Int32)) (ty := .int) (C := RX9) (T := TX9) (N := 5) hx hb hts iX9_takeWord_X9 tyX9 tyX9_ok nmX9 hown hK.1 hP hD hS 0 rfl rfl 1 (by decide) (hts _ mX9_takeWord_4) (fun _ h9 => h9) rfl (tyX9_ok 1 (by decide)) rfl rfl (Nat.le_of_ble_eq_true rfl) dX9_takeWord_55 (fun H locs hP hD hS => ?_)
    have hP : va_P D vwCl [(a_t, .inr (9, [.ref a_t_text, .int (1 : Int32), .int v_t_start, .int v_t_number, .int v_t_behind])), (a_t_text, .inr (2, [.ref a_t_text_letters, .int v_t_text_length])), (a_t_text_letters, .inl (cI, 120, .inl v_t_text_letters))] H := hP
    have hD : va_D A [(a_t, .inr (9, [.ref a_t_text, .int (1 : Int32), .int v_t_start, .int v_t_number, .int v_t_behind])), (a_t_text, .inr (2, [.ref a_t_text_letters, .int v_t_text_length])), (a_t_text_letters, .inl (cI, 120, .inl v_t_text_letters))] := hD
    refine lv_goto (tgt := 118) hx hb dX9_takeWord_58 (by decide) ?_
    obtain ⟨rfl, rfl⟩ := pr2_inv hf
    exact retMv hx hb hr hlk hP hD hS dX9_takeWord_118
set_option maxHeartbeats 4000000 in
set_option maxRecDepth 100000 in
theorem wX9_takeWord_0 {p : Program} {l : Launch} {e : Env} {s : State} {m : MethodId} {args : Array Value} {below : List Frame} {meth : Method} {c : Code} {D : va_G} {cI cZ : ClassId} {sz0 : Nat} {ad av : Nat → Nat} (S : CallFix p m c cX9_takeWord 1 s args wsX9_takeWord RX9) (hr : meth.sig.returnType = none) (hlk : meth.locks = false) (hT : XT D cI cZ sz0 ad av s) {a_t a_t_text a_t_text_letters : Nat} (z_t : sz0 ≤ a_t) (z_t_text : sz0 ≤ a_t_text) (z_t_text_letters : sz0 ≤ a_t_text_letters) {v_t_start : Int32} {v_t_text_length : Int32} {v_t_text_letters : (Nat → Int32)} {v_t_number : Int32} {o_t_kind : Int32} {o_t_behind : Int32} {A : Nat → Prop} (hA : ∀ q : Nat, s.heap.size ≤ q → A q) (hZ : ∀ q : Nat, A q → sz0 ≤ q) : ∀ (n : Nat), ∀ (v_t_kind : Int32) (v_t_behind : Int32) (ls : Array Slot) (H : Heap) (locs : List Loc), fX9_takeWord_0 v_t_start v_t_text_length v_t_text_letters n v_t_kind v_t_behind = some (o_t_kind, o_t_behind) → lv_has ls 1 [(0, .ref a_t)] → va_P D vwCl [(a_t, .inr (9, [.ref a_t_text, .int v_t_kind, .int v_t_start, .int v_t_number, .int v_t_behind])), (a_t_text, .inr (2, [.ref a_t_text_letters, .int v_t_text_length])), (a_t_text_letters, .inl (cI, 120, .inl v_t_text_letters))] H → va_D A [(a_t, .inr (9, [.ref a_t_text, .int v_t_kind, .int v_t_start, .int v_t_number, .int v_t_behind])), (a_t_text, .inr (2, [.ref a_t_text_letters, .int v_t_text_length])), (a_t_text_letters, .inl (cI, 120, .inl v_t_text_letters))] → va_S A s.heap H locs → W p l e rmX9_takeWord s m args below meth c H locs 0 0 (MQ below (qM D none [(a_t, .inr (9, [.ref a_t_text, .int o_t_kind, .int v_t_start, .int v_t_number, .int o_t_behind])), (a_t_text, .inr (2, [.ref a_t_text_letters, .int v_t_text_length])), (a_t_text_letters, .inl (cI, 120, .inl v_t_text_letters))] A) args s 0 0 A) (F0 m 0 ls []) := by
  obtain ⟨hx, hb, hml, hown, hts⟩ := id S
  have hK := hT.1
  intro n
  induction n with
  | zero =>
    intro v_t_kind v_t_behind ls H locs hf hl hP hD hS
    cases (show (none : Option _) = some _ from hf)
  | succ n ih =>
    intro v_t_kind v_t_behind ls H locs hf hl hP hD hS
    have hf := (fX9_takeWord_0_s _ _ _ n _ _).symm.trans hf
    refine lv_aload_n hx hb dX9_takeWord_0 rfl (lv_at hl 0 rfl) ?_
    refine va_get (D := D) (ci := 9) (v := .int v_t_behind) (C := RX9) (T := TX9) (N := 5) hx hb hts iX9_takeWord_X9 hown hK.1 hP 0 rfl rfl 4 (by decide) (hts _ mX9_takeWord_1) (fun _ h9 => h9) rfl dX9_takeWord_1 ?_
    refine lv_aload_n hx hb dX9_takeWord_4 rfl (lv_at hl 0 rfl) ?_
    refine va_get (D := D) (ci := 9) (v := .ref a_t_text) (C := RX9) (T := TX9) (N := 5) hx hb hts iX9_takeWord_X9 hown hK.1 hP 0 rfl rfl 0 (by decide) (hts _ mX9_takeWord_2) (fun _ h9 => h9) rfl dX9_takeWord_5 ?_
    refine va_get (D := D) (ci := 2) (v := .int v_t_text_length) (C := RX2) (T := TX2) (N := 2) hx hb hts iX9_takeWord_X2 hown hK.1 hP 1 rfl rfl 1 (by decide) (hts _ mX9_takeWord_3) (fun _ h9 => h9) rfl dX9_takeWord_8 ?_
    refine lv_icmp_ge (tgt := 44) hx hb dX9_takeWord_11 (by decide) (fun jc1 => ?_) (fun jc1 => ?_)
    · have hf := ite_t jc1 hf
      exact wX9_takeWord_44 S hr hlk hT z_t z_t_text z_t_text_letters hA hZ v_t_kind v_t_behind ls _ _ hf (lv_sub hl [0] rfl) hP hD hS
    · have hf := ite_f jc1 hf
      refine lv_aload_n hx hb dX9_takeWord_14 rfl (lv_at hl 0 rfl) ?_
      refine va_get (D := D) (ci := 9) (v := .ref a_t_text) (C := RX9) (T := TX9) (N := 5) hx hb hts iX9_takeWord_X9 hown hK.1 hP 0 rfl rfl 0 (by decide) (hts _ mX9_takeWord_2) (fun _ h9 => h9) rfl dX9_takeWord_15 ?_
      refine lv_aload_n hx hb dX9_takeWord_18 rfl (lv_at hl 0 rfl) ?_
      refine va_get (D := D) (ci := 9) (v := .int v_t_behind) (C := RX9) (T := TX9) (N := 5) hx hb hts iX9_takeWord_X9 hown hK.1 hP 0 rfl rfl 4 (by decide) (hts _ mX9_takeWord_1) (fun _ h9 => h9) rfl dX9_takeWord_19 ?_
      obtain ⟨jr2, je3, hf⟩ := bd1_inv hf
      refine callRV (As := [.int v_t_behind]) (rest := []) S (ctX2_at l D cI cZ a_t_text a_t_text_letters v_t_behind v_t_text_length v_t_text_letters jr2 je3) (cwV 1 hts gX9_takeWord_X2_at rfl rfl rfl ⟨rfl, hdX2_at⟩ ⟨Nat.le_of_ble_eq_true rfl, Nat.le_of_ble_eq_true rfl⟩) hP [1, 2] rfl KX.xs (fun U _ hW => hK.warm hW) (va_recv hK.1 hP (ci := 2) (q0 := 1) rfl rfl) rfl hl.1 rfl (Nat.le_of_ble_eq_true rfl) dX9_takeWord_22 ⟨Nat.zero_le _, Nat.zero_le _⟩ ?_
      obtain ⟨jr4, je5, hf⟩ := bd1_inv hf
      refine callRS (As := [.int jr2]) (rest := []) S (ctX9_isSmall l D cI cZ jr2 jr4 je5) (va_cwS 1 hts gX9_takeWord_X9_isSmall rfl rfl rfl hdX9_isSmall ⟨Nat.le_of_ble_eq_true rfl, Nat.le_of_ble_eq_true rfl⟩) hP [] rfl KX.xs (fun U _ hW => hK.warm hW) rfl hl.1 rfl (Nat.le_of_ble_eq_true rfl) dX9_takeWord_25 ⟨Nat.zero_le _, Nat.zero_le _⟩ ?_
      refine lv_if_eq (tgt := 44) hx hb dX9_takeWord_28 (by decide) (fun jc6 => ?_) (fun jc6 => ?_)
      · have hf := ite_t jc6 hf
        exact wX9_takeWord_44 S hr hlk hT z_t z_t_text z_t_text_letters hA hZ v_t_kind v_t_behind ls _ _ hf (lv_sub hl [0] rfl) hP hD hS
      · have hf := ite_f jc6 hf
        refine lv_aload_n hx hb dX9_takeWord_31 rfl (lv_at hl 0 rfl) ?_
        refine lv_dup hx hb dX9_takeWord_32 rfl ?_
        refine va_get (D := D) (ci := 9) (v := .int v_t_behind) (C := RX9) (T := TX9) (N := 5) hx hb hts iX9_takeWord_X9 hown hK.1 hP 0 rfl rfl 4 (by decide) (hts _ mX9_takeWord_1) (fun _ h9 => h9) rfl dX9_takeWord_33 ?_
        refine lv_iconst (v := 1) hx hb dX9_takeWord_36 (by decide) ?_
        refine lv_iadd hx hb dX9_takeWord_37 ?_
        refine va_put (D := D) (ci := 9) (v := .int (v_t_behind + (1 : Int32))) (ty := .int) (C := RX9) (T := TX9) (N := 5) hx hb hts iX9_takeWord_X9 tyX9 tyX9_ok nmX9 hown hK.1 hP hD hS 0 rfl rfl 4 (by decide) (hts _ mX9_takeWord_1) (fun _ h9 => h9) rfl (tyX9_ok 4 (by decide)) rfl rfl (Nat.le_of_ble_eq_true rfl) dX9_takeWord_38 (fun H locs hP hD hS => ?_)
        have hP : va_P D vwCl [(a_t, .inr (9, [.ref a_t_text, .int v_t_kind, .int v_t_start, .int v_t_number, .int (v_t_behind + (1 : Int32))])), (a_t_text, .inr (2, [.ref a_t_text_letters, .int v_t_text_length])), (a_t_text_letters, .inl (cI, 120, .inl v_t_text_letters))] H := hP
        have hD : va_D A [(a_t, .inr (9, [.ref a_t_text, .int v_t_kind, .int v_t_start, .int v_t_number, .int (v_t_behind + (1 : Int32))])), (a_t_text, .inr (2, [.ref a_t_text_letters, .int v_t_text_length])), (a_t_text_letters, .inl (cI, 120, .inl v_t_text_letters))] := hD
        refine lv_goto (tgt := 0) hx hb dX9_takeWord_41 (by decide) ?_
        exact ih v_t_kind (v_t_behind + (1 : Int32)) ls _ _ hf (lv_sub hl [0] rfl) hP hD hS
theorem hdX9_takeWord : yX9_takeWord.cls ≠ "java/lang/invoke/MethodHandle" ∧ yX9_takeWord.cls ≠ "java/lang/invoke/VarHandle" ∧ (parseMethodDescriptor yX9_takeWord.desc).map (fun d => d.parameters.length) = some 0 := by decide +kernel
set_option maxHeartbeats 4000000 in
set_option maxRecDepth 100000 in
theorem ctX9_takeWord (l : Launch) (D : va_G) (cI cZ : ClassId) (sz0 : Nat) (ad av : Nat → Nat) (a_t a_t_text a_t_text_letters : Nat) (z_t : sz0 ≤ a_t) (z_t_text : sz0 ≤ a_t_text) (z_t_text_letters : sz0 ≤ a_t_text_letters) (v_t_kind : Int32) (v_t_start : Int32) (v_t_behind : Int32) (v_t_text_length : Int32) (v_t_text_letters : (Nat → Int32)) (v_t_number : Int32) (o_t_kind : Int32) (o_t_behind : Int32) (hf : fX9_takeWord v_t_kind v_t_start v_t_behind v_t_text_length v_t_text_letters = some (o_t_kind, o_t_behind)) : cM l yX9_takeWord wsX9_takeWord rmX9_takeWord [.ref a_t] D [(a_t, .inr (9, [.ref a_t_text, .int v_t_kind, .int v_t_start, .int v_t_number, .int v_t_behind])), (a_t_text, .inr (2, [.ref a_t_text_letters, .int v_t_text_length])), (a_t_text_letters, .inl (cI, 120, .inl v_t_text_letters))] [(a_t, .inr (9, [.ref a_t_text, .int o_t_kind, .int v_t_start, .int v_t_number, .int o_t_behind])), (a_t_text, .inr (2, [.ref a_t_text_letters, .int v_t_text_length])), (a_t_text_letters, .inl (cI, 120, .inl v_t_text_letters))] (XT D cI cZ sz0 ad av) none := by
  refine cM_ofZ (cc := cX9_takeWord) (maxL := 1) (ret := none) (by decide +kernel) rfl _ (Nat.le_of_ble_eq_true rfl) (zc_cons z_t (zc_cons z_t_text (zc_cons z_t_text_letters zc_nil))) (fun U h => h.2.1) ?_
  intro p e s m below meth c ls A S hr hlk hP hT hl hD hA hZ hS
  have hK := hT.1
  obtain ⟨hx, hb, hml, hown, hts⟩ := id S
  have hl : lv_has ls 1 [(0, .ref a_t)] := hl
  unfold fX9_takeWord at hf
  exact wX9_takeWord_0 S hr hlk hT z_t z_t_text z_t_text_letters hA hZ fuel v_t_kind v_t_behind ls _ _ hf (lv_sub hl [0] rfl) hP hD hS
def fX9_isDigit (jx0 : Int32) : Option (Int32) := bd1 (fX10_isWithin jx0 (48 : Int32) (57 : Int32)) (fun jr1 => zcI jr1 (some jr1))
abbrev rmX9_isDigit : Room := { frames := 1, cells := 0, slots := 0, locals := 22 }
theorem mX9_isDigit_2 : (Cond.initialized RX10) ∈ wsX9_isDigit := List.mem_of_getElem? (i := 2) rfl
theorem mX9_isDigit_1 : (Cond.static yX10_isWithin) ∈ wsX9_isDigit := List.mem_of_getElem? (i := 1) rfl
theorem hdX9_isDigit : yX9_isDigit.cls ≠ "java/lang/invoke/MethodHandle" ∧ yX9_isDigit.cls ≠ "java/lang/invoke/VarHandle" ∧ (parseMethodDescriptor yX9_isDigit.desc).map (fun d => d.parameters.length) = some 1 := by decide +kernel
set_option maxHeartbeats 4000000 in
set_option maxRecDepth 100000 in
theorem ctX9_isDigit (l : Launch) (D : va_G) (cI cZ : ClassId) (jx0 : Int32) (r : Int32) (hf : fX9_isDigit jx0 = some r) : cR l yX9_isDigit wsX9_isDigit rmX9_isDigit [.int jx0] D [] (KX D cI cZ) r := by
  refine cR_of (cc := cX9_isDigit) (maxL := 1) (ret := some .boolean) (by decide +kernel) rfl _ (Nat.le_of_ble_eq_true rfl) ?_
  intro p e s m below meth c ls S hr hlk hP hK hl
  obtain ⟨hx, hb, hml, hown, hts⟩ := id S
  have hl : lv_has ls 1 [(0, .int jx0)] := hl
  unfold fX9_isDigit at hf
  refine lv_iload_n hx hb dX9_isDigit_0 rfl (lv_at hl 0 rfl) ?_
  refine lv_bipush (v := 48) hx hb dX9_isDigit_1 (by decide) ?_
  refine lv_bipush (v := 57) hx hb dX9_isDigit_3 (by decide) ?_
  obtain ⟨jr1, je2, hf⟩ := bd1_inv hf
  refine callRSN (As := [.int jx0, .int (48 : Int32), .int (57 : Int32)]) (rest := []) S (ctX10_isWithin l D cI cZ jx0 (48 : Int32) (57 : Int32) jr1 je2) ⟨va_cnB 3 hts gX9_isDigit_X10_isWithin_n75 rfl rfl rfl (hK.2 (RX9, 75, yX10_isWithin, RX10) (by simp [nwQ])) (hts _ mX9_isDigit_2) hdX10_isWithin ⟨Nat.le_of_ble_eq_true rfl, Nat.le_of_ble_eq_true rfl⟩, hts _ mX9_isDigit_1, trivial⟩ hP [] rfl KX.xs (fun U _ hW => hK.warm hW) rfl hl.1 rfl (Nat.le_of_ble_eq_true rfl) dX9_isDigit_5 ⟨Nat.zero_le _, Nat.zero_le _⟩ ?_
  obtain ⟨jh3, hf⟩ := zcI_inv hf
  obtain rfl := Option.some.inj hf
  exact retRz hx hb hr hlk (nar_z jh3) dX9_isDigit_8
def fX9_takeNumber_114 (v_t_start : Int32) (v_t_text_length : Int32) (v_t_text_letters : (Nat → Int32)) (jy0 : Int32) (v_t_kind : Int32) (v_t_number : Int32) (v_t_behind : Int32) : Option (Int32 × Int32 × Int32) := if jy0 = 0 then if v_t_number ≤ (99 : Int32) then some ((5 : Int32), v_t_number, v_t_behind) else some ((7 : Int32), v_t_number, v_t_behind) else some ((7 : Int32), v_t_number, v_t_behind)
def fX9_takeNumber_80 (v_t_start : Int32) (v_t_text_length : Int32) (v_t_text_letters : (Nat → Int32)) (v_t_kind : Int32) (v_t_number : Int32) (v_t_behind : Int32) : Option (Int32 × Int32 × Int32) := if (v_t_behind - v_t_start) ≤ (1 : Int32) then fX9_takeNumber_114 v_t_start v_t_text_length v_t_text_letters (0 : Int32) v_t_kind v_t_number v_t_behind else bd1 (fX2_at v_t_start v_t_text_length v_t_text_letters) (fun jr2 => if jr2 = (48 : Int32) then fX9_takeNumber_114 v_t_start v_t_text_length v_t_text_letters (1 : Int32) v_t_kind v_t_number v_t_behind else fX9_takeNumber_114 v_t_start v_t_text_length v_t_text_letters (0 : Int32) v_t_kind v_t_number v_t_behind)
def fX9_takeNumber_5 (v_t_start : Int32) (v_t_text_length : Int32) (v_t_text_letters : (Nat → Int32)) : Nat → Int32 → Int32 → Int32 → Option (Int32 × Int32 × Int32)
  | 0, _, _, _ => none
  | n + 1, v_t_kind, v_t_number, v_t_behind => if v_t_text_length ≤ v_t_behind then fX9_takeNumber_80 v_t_start v_t_text_length v_t_text_letters v_t_kind v_t_number v_t_behind else bd1 (fX2_at v_t_behind v_t_text_length v_t_text_letters) (fun jr2 => bd1 (fX9_isDigit jr2) (fun jr4 => if jr4 = 0 then fX9_takeNumber_80 v_t_start v_t_text_length v_t_text_letters v_t_kind v_t_number v_t_behind else bd1 (fX2_at v_t_behind v_t_text_length v_t_text_letters) (fun jr7 => (fX9_takeNumber_5 v_t_start v_t_text_length v_t_text_letters n) v_t_kind (if ((((10 : Int32) * v_t_number) + jr7) - (48 : Int32)) < (100 : Int32) then ((((10 : Int32) * v_t_number) + jr7) - (48 : Int32)) else (100 : Int32)) (v_t_behind + (1 : Int32)))))
theorem fX9_takeNumber_5_s (v_t_start : Int32) (v_t_text_length : Int32) (v_t_text_letters : (Nat → Int32)) (n : Nat) (v_t_kind : Int32) (v_t_number : Int32) (v_t_behind : Int32) : fX9_takeNumber_5 v_t_start v_t_text_length v_t_text_letters (n + 1) v_t_kind v_t_number v_t_behind = if v_t_text_length ≤ v_t_behind then fX9_takeNumber_80 v_t_start v_t_text_length v_t_text_letters v_t_kind v_t_number v_t_behind else bd1 (fX2_at v_t_behind v_t_text_length v_t_text_letters) (fun jr2 => bd1 (fX9_isDigit jr2) (fun jr4 => if jr4 = 0 then fX9_takeNumber_80 v_t_start v_t_text_length v_t_text_letters v_t_kind v_t_number v_t_behind else bd1 (fX2_at v_t_behind v_t_text_length v_t_text_letters) (fun jr7 => (fX9_takeNumber_5 v_t_start v_t_text_length v_t_text_letters n) v_t_kind (if ((((10 : Int32) * v_t_number) + jr7) - (48 : Int32)) < (100 : Int32) then ((((10 : Int32) * v_t_number) + jr7) - (48 : Int32)) else (100 : Int32)) (v_t_behind + (1 : Int32))))) := rfl
def fX9_takeNumber (v_t_kind : Int32) (v_t_start : Int32) (v_t_number : Int32) (v_t_behind : Int32) (v_t_text_length : Int32) (v_t_text_letters : (Nat → Int32)) : Option (Int32 × Int32 × Int32) := fX9_takeNumber_5 v_t_start v_t_text_length v_t_text_letters fuel v_t_kind (0 : Int32) v_t_behind
abbrev rmX9_takeNumber : Room := { frames := 2, cells := 0, slots := 0, locals := 42 }
theorem iX9_takeNumber_X9 : ∀ w ∈ wsX90, w ∈ wsX9_takeNumber := fun _ h => List.mem_cons_of_mem _ (List.mem_append_left _ (List.mem_append_right _ h))
theorem mX9_takeNumber_10 : (Cond.fieldLink RX9 9 "VoteFiles$Tokens" "kind" "I") ∈ wsX9_takeNumber := List.mem_of_getElem? (i := 10) rfl
theorem mX9_takeNumber_1 : (Cond.fieldLink RX9 16 "VoteFiles$Tokens" "number" "I") ∈ wsX9_takeNumber := List.mem_of_getElem? (i := 1) rfl
theorem mX9_takeNumber_2 : (Cond.fieldLink RX9 19 "VoteFiles$Tokens" "behind" "I") ∈ wsX9_takeNumber := List.mem_of_getElem? (i := 2) rfl
theorem mX9_takeNumber_9 : (Cond.fieldLink RX9 13 "VoteFiles$Tokens" "start" "I") ∈ wsX9_takeNumber := List.mem_of_getElem? (i := 9) rfl
theorem mX9_takeNumber_3 : (Cond.fieldLink RX9 22 "VoteFiles$Tokens" "text" "LVoteFiles$Letters;") ∈ wsX9_takeNumber := List.mem_of_getElem? (i := 3) rfl
theorem iX9_takeNumber_X2 : ∀ w ∈ wsX20, w ∈ wsX9_takeNumber := fun _ h => List.mem_cons_of_mem _ (List.mem_append_right _ h)
theorem mX9_takeNumber_4 : (Cond.fieldLink RX9 26 "VoteFiles$Letters" "length" "I") ∈ wsX9_takeNumber := List.mem_of_getElem? (i := 4) rfl
theorem mX9_takeNumber_5 : (Cond.methodLink RX9 69 Lib.Math.min.name) ∈ wsX9_takeNumber := List.mem_of_getElem? (i := 5) rfl
theorem mX9_takeNumber_6 : (Cond.static Lib.Math.min.name) ∈ wsX9_takeNumber := List.mem_of_getElem? (i := 6) rfl
theorem mX9_takeNumber_7 : (Cond.initialized "java/lang/Math") ∈ wsX9_takeNumber := List.mem_of_getElem? (i := 7) rfl
theorem mX9_takeNumber_8 : (Cond.code Lib.Math.min.name Lib.Math.min.code 2 (some .int)) ∈ wsX9_takeNumber := List.mem_of_getElem? (i := 8) rfl
set_option maxHeartbeats 4000000 in
set_option maxRecDepth 100000 in
theorem wX9_takeNumber_114 {p : Program} {l : Launch} {e : Env} {s : State} {m : MethodId} {args : Array Value} {below : List Frame} {meth : Method} {c : Code} {D : va_G} {cI cZ : ClassId} (S : CallFix p m c cX9_takeNumber 2 s args wsX9_takeNumber RX9) (hr : meth.sig.returnType = none) (hlk : meth.locks = false) (hK : KX D cI cZ s) {a_t a_t_text a_t_text_letters : Nat} {v_t_start : Int32} {v_t_text_length : Int32} {v_t_text_letters : (Nat → Int32)} {o_t_kind : Int32} {o_t_number : Int32} {o_t_behind : Int32} {A : Nat → Prop} (hA : ∀ q : Nat, s.heap.size ≤ q → A q) : ∀ (jy0 : Int32) (v_t_kind : Int32) (v_t_number : Int32) (v_t_behind : Int32) (ls : Array Slot) (H : Heap) (locs : List Loc), fX9_takeNumber_114 v_t_start v_t_text_length v_t_text_letters jy0 v_t_kind v_t_number v_t_behind = some (o_t_kind, o_t_number, o_t_behind) → lv_has ls 2 [(0, .ref a_t)] → va_P D vwCl [(a_t, .inr (9, [.ref a_t_text, .int v_t_kind, .int v_t_start, .int v_t_number, .int v_t_behind])), (a_t_text, .inr (2, [.ref a_t_text_letters, .int v_t_text_length])), (a_t_text_letters, .inl (cI, 120, .inl v_t_text_letters))] H → va_D A [(a_t, .inr (9, [.ref a_t_text, .int v_t_kind, .int v_t_start, .int v_t_number, .int v_t_behind])), (a_t_text, .inr (2, [.ref a_t_text_letters, .int v_t_text_length])), (a_t_text_letters, .inl (cI, 120, .inl v_t_text_letters))] → va_S A s.heap H locs → W p l e rmX9_takeNumber s m args below meth c H locs 0 0 (MQ below (qM D none [(a_t, .inr (9, [.ref a_t_text, .int o_t_kind, .int v_t_start, .int o_t_number, .int o_t_behind])), (a_t_text, .inr (2, [.ref a_t_text_letters, .int v_t_text_length])), (a_t_text_letters, .inl (cI, 120, .inl v_t_text_letters))] A) args s 0 0 A) (F0 m 114 ls [.int jy0]) := by
  obtain ⟨hx, hb, hml, hown, hts⟩ := id S
  intro jy0 v_t_kind v_t_number v_t_behind ls H locs hf hl hP hD hS
  unfold fX9_takeNumber_114 at hf
  refine lv_istore_n (lv' := [(1, .int jy0), (0, .ref a_t)]) hx hb dX9_takeNumber_114 rfl hl (by decide) rfl (fun ls hl => ?_)
  refine lv_aload_n hx hb dX9_takeNumber_115 rfl (lv_at hl 1 rfl) ?_
  refine lv_iload_n hx hb dX9_takeNumber_116 rfl (lv_at hl 0 rfl) ?_
  refine lv_if_ne (tgt := 129) hx hb dX9_takeNumber_117 (by decide) (fun jc1 => ?_) (fun jc1 => ?_)
  · have hf := ite_f jc1 hf
    refine lv_bipush (v := 7) hx hb dX9_takeNumber_129 (by decide) ?_
    refine lv_goto (tgt := 135) hx hb dX9_takeNumber_131 (by decide) ?_
    refine va_put (D := D) (ci := 9) (v := .int (7 : Int32)) (ty := .int) (C := RX9) (T := TX9) (N := 5) hx hb hts iX9_takeNumber_X9 tyX9 tyX9_ok nmX9 hown hK.1 hP hD hS 0 rfl rfl 1 (by decide) (hts _ mX9_takeNumber_10) (fun _ h9 => h9) rfl (tyX9_ok 1 (by decide)) rfl rfl (Nat.le_of_ble_eq_true rfl) dX9_takeNumber_135 (fun H locs hP hD hS => ?_)
    have hP : va_P D vwCl [(a_t, .inr (9, [.ref a_t_text, .int (7 : Int32), .int v_t_start, .int v_t_number, .int v_t_behind])), (a_t_text, .inr (2, [.ref a_t_text_letters, .int v_t_text_length])), (a_t_text_letters, .inl (cI, 120, .inl v_t_text_letters))] H := hP
    have hD : va_D A [(a_t, .inr (9, [.ref a_t_text, .int (7 : Int32), .int v_t_start, .int v_t_number, .int v_t_behind])), (a_t_text, .inr (2, [.ref a_t_text_letters, .int v_t_text_length])), (a_t_text_letters, .inl (cI, 120, .inl v_t_text_letters))] := hD
    obtain ⟨rfl, rfl, rfl⟩ := pr3_inv hf
    exact retMv hx hb hr hlk hP hD hS dX9_takeNumber_138
  · have hf := ite_t jc1 hf
    refine lv_aload_n hx hb dX9_takeNumber_120 rfl (lv_at hl 1 rfl) ?_
    refine va_get (D := D) (ci := 9) (v := .int v_t_number) (C := RX9) (T := TX9) (N := 5) hx hb hts iX9_takeNumber_X9 hown hK.1 hP 0 rfl rfl 3 (by decide) (hts _ mX9_takeNumber_1) (fun _ h9 => h9) rfl dX9_takeNumber_121 ?_
    refine lv_bipush (v := 99) hx hb dX9_takeNumber_124 (by decide) ?_
    refine lv_icmp_le (tgt := 134) hx hb dX9_takeNumber_126 (by decide) (fun jc2 => ?_) (fun jc2 => ?_)
    · have hf := ite_t jc2 hf
      refine lv_iconst (v := 5) hx hb dX9_takeNumber_134 (by decide) ?_
      refine va_put (D := D) (ci := 9) (v := .int (5 : Int32)) (ty := .int) (C := RX9) (T := TX9) (N := 5) hx hb hts iX9_takeNumber_X9 tyX9 tyX9_ok nmX9 hown hK.1 hP hD hS 0 rfl rfl 1 (by decide) (hts _ mX9_takeNumber_10) (fun _ h9 => h9) rfl (tyX9_ok 1 (by decide)) rfl rfl (Nat.le_of_ble_eq_true rfl) dX9_takeNumber_135 (fun H locs hP hD hS => ?_)
      have hP : va_P D vwCl [(a_t, .inr (9, [.ref a_t_text, .int (5 : Int32), .int v_t_start, .int v_t_number, .int v_t_behind])), (a_t_text, .inr (2, [.ref a_t_text_letters, .int v_t_text_length])), (a_t_text_letters, .inl (cI, 120, .inl v_t_text_letters))] H := hP
      have hD : va_D A [(a_t, .inr (9, [.ref a_t_text, .int (5 : Int32), .int v_t_start, .int v_t_number, .int v_t_behind])), (a_t_text, .inr (2, [.ref a_t_text_letters, .int v_t_text_length])), (a_t_text_letters, .inl (cI, 120, .inl v_t_text_letters))] := hD
      obtain ⟨rfl, rfl, rfl⟩ := pr3_inv hf
      exact retMv hx hb hr hlk hP hD hS dX9_takeNumber_138
    · have hf := ite_f jc2 hf
      refine lv_bipush (v := 7) hx hb dX9_takeNumber_129 (by decide) ?_
      refine lv_goto (tgt := 135) hx hb dX9_takeNumber_131 (by decide) ?_
      refine va_put (D := D) (ci := 9) (v := .int (7 : Int32)) (ty := .int) (C := RX9) (T := TX9) (N := 5) hx hb hts iX9_takeNumber_X9 tyX9 tyX9_ok nmX9 hown hK.1 hP hD hS 0 rfl rfl 1 (by decide) (hts _ mX9_takeNumber_10) (fun _ h9 => h9) rfl (tyX9_ok 1 (by decide)) rfl rfl (Nat.le_of_ble_eq_true rfl) dX9_takeNumber_135 (fun H locs hP hD hS => ?_)
      have hP : va_P D vwCl [(a_t, .inr (9, [.ref a_t_text, .int (7 : Int32), .int v_t_start, .int v_t_number, .int v_t_behind])), (a_t_text, .inr (2, [.ref a_t_text_letters, .int v_t_text_length])), (a_t_text_letters, .inl (cI, 120, .inl v_t_text_letters))] H := hP
      have hD : va_D A [(a_t, .inr (9, [.ref a_t_text, .int (7 : Int32), .int v_t_start, .int v_t_number, .int v_t_behind])), (a_t_text, .inr (2, [.ref a_t_text_letters, .int v_t_text_length])), (a_t_text_letters, .inl (cI, 120, .inl v_t_text_letters))] := hD
      obtain ⟨rfl, rfl, rfl⟩ := pr3_inv hf
      exact retMv hx hb hr hlk hP hD hS dX9_takeNumber_138
set_option maxHeartbeats 4000000 in
set_option maxRecDepth 100000 in
theorem wX9_takeNumber_80 {p : Program} {l : Launch} {e : Env} {s : State} {m : MethodId} {args : Array Value} {below : List Frame} {meth : Method} {c : Code} {D : va_G} {cI cZ : ClassId} (S : CallFix p m c cX9_takeNumber 2 s args wsX9_takeNumber RX9) (hr : meth.sig.returnType = none) (hlk : meth.locks = false) (hK : KX D cI cZ s) {a_t a_t_text a_t_text_letters : Nat} {v_t_start : Int32} {v_t_text_length : Int32} {v_t_text_letters : (Nat → Int32)} {o_t_kind : Int32} {o_t_number : Int32} {o_t_behind : Int32} {A : Nat → Prop} (hA : ∀ q : Nat, s.heap.size ≤ q → A q) : ∀ (v_t_kind : Int32) (v_t_number : Int32) (v_t_behind : Int32) (ls : Array Slot) (H : Heap) (locs : List Loc), fX9_takeNumber_80 v_t_start v_t_text_length v_t_text_letters v_t_kind v_t_number v_t_behind = some (o_t_kind, o_t_number, o_t_behind) → lv_has ls 2 [(0, .ref a_t)] → va_P D vwCl [(a_t, .inr (9, [.ref a_t_text, .int v_t_kind, .int v_t_start, .int v_t_number, .int v_t_behind])), (a_t_text, .inr (2, [.ref a_t_text_letters, .int v_t_text_length])), (a_t_text_letters, .inl (cI, 120, .inl v_t_text_letters))] H → va_D A [(a_t, .inr (9, [.ref a_t_text, .int v_t_kind, .int v_t_start, .int v_t_number, .int v_t_behind])), (a_t_text, .inr (2, [.ref a_t_text_letters, .int v_t_text_length])), (a_t_text_letters, .inl (cI, 120, .inl v_t_text_letters))] → va_S A s.heap H locs → W p l e rmX9_takeNumber s m args below meth c H locs 0 0 (MQ below (qM D none [(a_t, .inr (9, [.ref a_t_text, .int o_t_kind, .int v_t_start, .int o_t_number, .int o_t_behind])), (a_t_text, .inr (2, [.ref a_t_text_letters, .int v_t_text_length])), (a_t_text_letters, .inl (cI, 120, .inl v_t_text_letters))] A) args s 0 0 A) (F0 m 80 ls []) := by
  obtain ⟨hx, hb, hml, hown, hts⟩ := id S
  intro v_t_kind v_t_number v_t_behind ls H locs hf hl hP hD hS
  unfold fX9_takeNumber_80 at hf
  refine lv_aload_n hx hb dX9_takeNumber_80 rfl (lv_at hl 0 rfl) ?_
  refine va_get (D := D) (ci := 9) (v := .int v_t_behind) (C := RX9) (T := TX9) (N := 5) hx hb hts iX9_takeNumber_X9 hown hK.1 hP 0 rfl rfl 4 (by decide) (hts _ mX9_takeNumber_2) (fun _ h9 => h9) rfl dX9_takeNumber_81 ?_
  refine lv_aload_n hx hb dX9_takeNumber_84 rfl (lv_at hl 0 rfl) ?_
  refine va_get (D := D) (ci := 9) (v := .int v_t_start) (C := RX9) (T := TX9) (N := 5) hx hb hts iX9_takeNumber_X9 hown hK.1 hP 0 rfl rfl 2 (by decide) (hts _ mX9_takeNumber_9) (fun _ h9 => h9) rfl dX9_takeNumber_85 ?_
  refine lv_isub hx hb dX9_takeNumber_88 ?_
  refine lv_iconst (v := 1) hx hb dX9_takeNumber_89 (by decide) ?_
  refine lv_icmp_le (tgt := 113) hx hb dX9_takeNumber_90 (by decide) (fun jc1 => ?_) (fun jc1 => ?_)
  · have hf := ite_t jc1 hf
    refine lv_iconst (v := 0) hx hb dX9_takeNumber_113 (by decide) ?_
    exact wX9_takeNumber_114 S hr hlk hK hA (0 : Int32) v_t_kind v_t_number v_t_behind ls _ _ hf (lv_sub hl [0] rfl) hP hD hS
  · have hf := ite_f jc1 hf
    refine lv_aload_n hx hb dX9_takeNumber_93 rfl (lv_at hl 0 rfl) ?_
    refine va_get (D := D) (ci := 9) (v := .ref a_t_text) (C := RX9) (T := TX9) (N := 5) hx hb hts iX9_takeNumber_X9 hown hK.1 hP 0 rfl rfl 0 (by decide) (hts _ mX9_takeNumber_3) (fun _ h9 => h9) rfl dX9_takeNumber_94 ?_
    refine lv_aload_n hx hb dX9_takeNumber_97 rfl (lv_at hl 0 rfl) ?_
    refine va_get (D := D) (ci := 9) (v := .int v_t_start) (C := RX9) (T := TX9) (N := 5) hx hb hts iX9_takeNumber_X9 hown hK.1 hP 0 rfl rfl 2 (by decide) (hts _ mX9_takeNumber_9) (fun _ h9 => h9) rfl dX9_takeNumber_98 ?_
    obtain ⟨jr2, je3, hf⟩ := bd1_inv hf
    refine callRV (As := [.int v_t_start]) (rest := []) S (ctX2_at l D cI cZ a_t_text a_t_text_letters v_t_start v_t_text_length v_t_text_letters jr2 je3) (cwV 1 hts gX9_takeNumber_X2_at rfl rfl rfl ⟨rfl, hdX2_at⟩ ⟨Nat.le_of_ble_eq_true rfl, Nat.le_of_ble_eq_true rfl⟩) hP [1, 2] rfl KX.xs (fun U _ hW => hK.warm hW) (va_recv hK.1 hP (ci := 2) (q0 := 1) rfl rfl) rfl hl.1 rfl (Nat.le_of_ble_eq_true rfl) dX9_takeNumber_101 ⟨Nat.zero_le _, Nat.zero_le _⟩ ?_
    refine lv_bipush (v := 48) hx hb dX9_takeNumber_104 (by decide) ?_
    refine lv_icmp_ne (tgt := 113) hx hb dX9_takeNumber_106 (by decide) (fun jc4 => ?_) (fun jc4 => ?_)
    · have hf := ite_f jc4 hf
      refine lv_iconst (v := 0) hx hb dX9_takeNumber_113 (by decide) ?_
      exact wX9_takeNumber_114 S hr hlk hK hA (0 : Int32) v_t_kind v_t_number v_t_behind ls _ _ hf (lv_sub hl [0] rfl) hP hD hS
    · have hf := ite_t jc4 hf
      refine lv_iconst (v := 1) hx hb dX9_takeNumber_109 (by decide) ?_
      refine lv_goto (tgt := 114) hx hb dX9_takeNumber_110 (by decide) ?_
      exact wX9_takeNumber_114 S hr hlk hK hA (1 : Int32) v_t_kind v_t_number v_t_behind ls _ _ hf (lv_sub hl [0] rfl) hP hD hS
set_option maxHeartbeats 4000000 in
set_option maxRecDepth 100000 in
theorem wX9_takeNumber_5 {p : Program} {l : Launch} {e : Env} {s : State} {m : MethodId} {args : Array Value} {below : List Frame} {meth : Method} {c : Code} {D : va_G} {cI cZ : ClassId} (S : CallFix p m c cX9_takeNumber 2 s args wsX9_takeNumber RX9) (hr : meth.sig.returnType = none) (hlk : meth.locks = false) (hK : KX D cI cZ s) {a_t a_t_text a_t_text_letters : Nat} {v_t_start : Int32} {v_t_text_length : Int32} {v_t_text_letters : (Nat → Int32)} {o_t_kind : Int32} {o_t_number : Int32} {o_t_behind : Int32} {A : Nat → Prop} (hA : ∀ q : Nat, s.heap.size ≤ q → A q) : ∀ (n : Nat), ∀ (v_t_kind : Int32) (v_t_number : Int32) (v_t_behind : Int32) (ls : Array Slot) (H : Heap) (locs : List Loc), fX9_takeNumber_5 v_t_start v_t_text_length v_t_text_letters n v_t_kind v_t_number v_t_behind = some (o_t_kind, o_t_number, o_t_behind) → lv_has ls 2 [(0, .ref a_t)] → va_P D vwCl [(a_t, .inr (9, [.ref a_t_text, .int v_t_kind, .int v_t_start, .int v_t_number, .int v_t_behind])), (a_t_text, .inr (2, [.ref a_t_text_letters, .int v_t_text_length])), (a_t_text_letters, .inl (cI, 120, .inl v_t_text_letters))] H → va_D A [(a_t, .inr (9, [.ref a_t_text, .int v_t_kind, .int v_t_start, .int v_t_number, .int v_t_behind])), (a_t_text, .inr (2, [.ref a_t_text_letters, .int v_t_text_length])), (a_t_text_letters, .inl (cI, 120, .inl v_t_text_letters))] → va_S A s.heap H locs → W p l e rmX9_takeNumber s m args below meth c H locs 0 0 (MQ below (qM D none [(a_t, .inr (9, [.ref a_t_text, .int o_t_kind, .int v_t_start, .int o_t_number, .int o_t_behind])), (a_t_text, .inr (2, [.ref a_t_text_letters, .int v_t_text_length])), (a_t_text_letters, .inl (cI, 120, .inl v_t_text_letters))] A) args s 0 0 A) (F0 m 5 ls []) := by
  obtain ⟨hx, hb, hml, hown, hts⟩ := id S
  intro n
  induction n with
  | zero =>
    intro v_t_kind v_t_number v_t_behind ls H locs hf hl hP hD hS
    cases (show (none : Option _) = some _ from hf)
  | succ n ih =>
    intro v_t_kind v_t_number v_t_behind ls H locs hf hl hP hD hS
    have hf := (fX9_takeNumber_5_s _ _ _ n _ _ _).symm.trans hf
    refine lv_aload_n hx hb dX9_takeNumber_5 rfl (lv_at hl 0 rfl) ?_
    refine va_get (D := D) (ci := 9) (v := .int v_t_behind) (C := RX9) (T := TX9) (N := 5) hx hb hts iX9_takeNumber_X9 hown hK.1 hP 0 rfl rfl 4 (by decide) (hts _ mX9_takeNumber_2) (fun _ h9 => h9) rfl dX9_takeNumber_6 ?_
    refine lv_aload_n hx hb dX9_takeNumber_9 rfl (lv_at hl 0 rfl) ?_
    refine va_get (D := D) (ci := 9) (v := .ref a_t_text) (C := RX9) (T := TX9) (N := 5) hx hb hts iX9_takeNumber_X9 hown hK.1 hP 0 rfl rfl 0 (by decide) (hts _ mX9_takeNumber_3) (fun _ h9 => h9) rfl dX9_takeNumber_10 ?_
    refine va_get (D := D) (ci := 2) (v := .int v_t_text_length) (C := RX2) (T := TX2) (N := 2) hx hb hts iX9_takeNumber_X2 hown hK.1 hP 1 rfl rfl 1 (by decide) (hts _ mX9_takeNumber_4) (fun _ h9 => h9) rfl dX9_takeNumber_13 ?_
    refine lv_icmp_ge (tgt := 80) hx hb dX9_takeNumber_16 (by decide) (fun jc1 => ?_) (fun jc1 => ?_)
    · have hf := ite_t jc1 hf
      exact wX9_takeNumber_80 S hr hlk hK hA v_t_kind v_t_number v_t_behind ls _ _ hf (lv_sub hl [0] rfl) hP hD hS
    · have hf := ite_f jc1 hf
      refine lv_aload_n hx hb dX9_takeNumber_19 rfl (lv_at hl 0 rfl) ?_
      refine va_get (D := D) (ci := 9) (v := .ref a_t_text) (C := RX9) (T := TX9) (N := 5) hx hb hts iX9_takeNumber_X9 hown hK.1 hP 0 rfl rfl 0 (by decide) (hts _ mX9_takeNumber_3) (fun _ h9 => h9) rfl dX9_takeNumber_20 ?_
      refine lv_aload_n hx hb dX9_takeNumber_23 rfl (lv_at hl 0 rfl) ?_
      refine va_get (D := D) (ci := 9) (v := .int v_t_behind) (C := RX9) (T := TX9) (N := 5) hx hb hts iX9_takeNumber_X9 hown hK.1 hP 0 rfl rfl 4 (by decide) (hts _ mX9_takeNumber_2) (fun _ h9 => h9) rfl dX9_takeNumber_24 ?_
      obtain ⟨jr2, je3, hf⟩ := bd1_inv hf
      refine callRV (As := [.int v_t_behind]) (rest := []) S (ctX2_at l D cI cZ a_t_text a_t_text_letters v_t_behind v_t_text_length v_t_text_letters jr2 je3) (cwV 1 hts gX9_takeNumber_X2_at rfl rfl rfl ⟨rfl, hdX2_at⟩ ⟨Nat.le_of_ble_eq_true rfl, Nat.le_of_ble_eq_true rfl⟩) hP [1, 2] rfl KX.xs (fun U _ hW => hK.warm hW) (va_recv hK.1 hP (ci := 2) (q0 := 1) rfl rfl) rfl hl.1 rfl (Nat.le_of_ble_eq_true rfl) dX9_takeNumber_27 ⟨Nat.zero_le _, Nat.zero_le _⟩ ?_
      obtain ⟨jr4, je5, hf⟩ := bd1_inv hf
      refine callRS (As := [.int jr2]) (rest := []) S (ctX9_isDigit l D cI cZ jr2 jr4 je5) (va_cwS 1 hts gX9_takeNumber_X9_isDigit rfl rfl rfl hdX9_isDigit ⟨Nat.le_of_ble_eq_true rfl, Nat.le_of_ble_eq_true rfl⟩) hP [] rfl KX.xs (fun U _ hW => hK.warm hW) rfl hl.1 rfl (Nat.le_of_ble_eq_true rfl) dX9_takeNumber_30 ⟨Nat.zero_le _, Nat.zero_le _⟩ ?_
      refine lv_if_eq (tgt := 80) hx hb dX9_takeNumber_33 (by decide) (fun jc6 => ?_) (fun jc6 => ?_)
      · have hf := ite_t jc6 hf
        exact wX9_takeNumber_80 S hr hlk hK hA v_t_kind v_t_number v_t_behind ls _ _ hf (lv_sub hl [0] rfl) hP hD hS
      · have hf := ite_f jc6 hf
        refine lv_aload_n hx hb dX9_takeNumber_36 rfl (lv_at hl 0 rfl) ?_
        refine lv_bipush (v := 100) hx hb dX9_takeNumber_37 (by decide) ?_
        refine lv_bipush (v := 10) hx hb dX9_takeNumber_39 (by decide) ?_
        refine lv_aload_n hx hb dX9_takeNumber_41 rfl (lv_at hl 0 rfl) ?_
        refine va_get (D := D) (ci := 9) (v := .int v_t_number) (C := RX9) (T := TX9) (N := 5) hx hb hts iX9_takeNumber_X9 hown hK.1 hP 0 rfl rfl 3 (by decide) (hts _ mX9_takeNumber_1) (fun _ h9 => h9) rfl dX9_takeNumber_42 ?_
        refine lv_imul hx hb dX9_takeNumber_45 ?_
        refine lv_aload_n hx hb dX9_takeNumber_46 rfl (lv_at hl 0 rfl) ?_
        refine va_get (D := D) (ci := 9) (v := .ref a_t_text) (C := RX9) (T := TX9) (N := 5) hx hb hts iX9_takeNumber_X9 hown hK.1 hP 0 rfl rfl 0 (by decide) (hts _ mX9_takeNumber_3) (fun _ h9 => h9) rfl dX9_takeNumber_47 ?_
        refine lv_aload_n hx hb dX9_takeNumber_50 rfl (lv_at hl 0 rfl) ?_
        refine va_get (D := D) (ci := 9) (v := .int v_t_behind) (C := RX9) (T := TX9) (N := 5) hx hb hts iX9_takeNumber_X9 hown hK.1 hP 0 rfl rfl 4 (by decide) (hts _ mX9_takeNumber_2) (fun _ h9 => h9) rfl dX9_takeNumber_51 ?_
        obtain ⟨jr7, je8, hf⟩ := bd1_inv hf
        refine callRV (As := [.int v_t_behind]) (rest := [.int ((10 : Int32) * v_t_number), .int (100 : Int32), .ref a_t]) S (ctX2_at l D cI cZ a_t_text a_t_text_letters v_t_behind v_t_text_length v_t_text_letters jr7 je8) (cwV 1 hts gX9_takeNumber_X2_at rfl rfl rfl ⟨rfl, hdX2_at⟩ ⟨Nat.le_of_ble_eq_true rfl, Nat.le_of_ble_eq_true rfl⟩) hP [1, 2] rfl KX.xs (fun U _ hW => hK.warm hW) (va_recv hK.1 hP (ci := 2) (q0 := 1) rfl rfl) rfl hl.1 rfl (Nat.le_of_ble_eq_true rfl) dX9_takeNumber_54 ⟨Nat.zero_le _, Nat.zero_le _⟩ ?_
        refine lv_iadd hx hb dX9_takeNumber_57 ?_
        refine lv_bipush (v := 48) hx hb dX9_takeNumber_58 (by decide) ?_
        refine lv_isub hx hb dX9_takeNumber_60 ?_
        refine va_mmin hx hb (hml.trans hl.1.symm) hown (hts _ mX9_takeNumber_5) (hts _ mX9_takeNumber_6) (hts _ mX9_takeNumber_7) (hts _ mX9_takeNumber_8) (Nat.le_of_ble_eq_true rfl) (Nat.le_of_ble_eq_true rfl) (Nat.zero_le _) (Nat.zero_le _) dX9_takeNumber_61 ?_
        refine va_put (D := D) (ci := 9) (v := .int (if ((((10 : Int32) * v_t_number) + jr7) - (48 : Int32)) < (100 : Int32) then ((((10 : Int32) * v_t_number) + jr7) - (48 : Int32)) else (100 : Int32))) (ty := .int) (C := RX9) (T := TX9) (N := 5) hx hb hts iX9_takeNumber_X9 tyX9 tyX9_ok nmX9 hown hK.1 hP hD hS 0 rfl rfl 3 (by decide) (hts _ mX9_takeNumber_1) (fun _ h9 => h9) rfl (tyX9_ok 3 (by decide)) rfl rfl (Nat.le_of_ble_eq_true rfl) dX9_takeNumber_64 (fun H locs hP hD hS => ?_)
        have hP : va_P D vwCl [(a_t, .inr (9, [.ref a_t_text, .int v_t_kind, .int v_t_start, .int (if ((((10 : Int32) * v_t_number) + jr7) - (48 : Int32)) < (100 : Int32) then ((((10 : Int32) * v_t_number) + jr7) - (48 : Int32)) else (100 : Int32)), .int v_t_behind])), (a_t_text, .inr (2, [.ref a_t_text_letters, .int v_t_text_length])), (a_t_text_letters, .inl (cI, 120, .inl v_t_text_letters))] H := hP
        have hD : va_D A [(a_t, .inr (9, [.ref a_t_text, .int v_t_kind, .int v_t_start, .int (if ((((10 : Int32) * v_t_number) + jr7) - (48 : Int32)) < (100 : Int32) then ((((10 : Int32) * v_t_number) + jr7) - (48 : Int32)) else (100 : Int32)), .int v_t_behind])), (a_t_text, .inr (2, [.ref a_t_text_letters, .int v_t_text_length])), (a_t_text_letters, .inl (cI, 120, .inl v_t_text_letters))] := hD
        refine lv_aload_n hx hb dX9_takeNumber_67 rfl (lv_at hl 0 rfl) ?_
        refine lv_dup hx hb dX9_takeNumber_68 rfl ?_
        refine va_get (D := D) (ci := 9) (v := .int v_t_behind) (C := RX9) (T := TX9) (N := 5) hx hb hts iX9_takeNumber_X9 hown hK.1 hP 0 rfl rfl 4 (by decide) (hts _ mX9_takeNumber_2) (fun _ h9 => h9) rfl dX9_takeNumber_69 ?_
        refine lv_iconst (v := 1) hx hb dX9_takeNumber_72 (by decide) ?_
        refine lv_iadd hx hb dX9_takeNumber_73 ?_
        refine va_put (D := D) (ci := 9) (v := .int (v_t_behind + (1 : Int32))) (ty := .int) (C := RX9) (T := TX9) (N := 5) hx hb hts iX9_takeNumber_X9 tyX9 tyX9_ok nmX9 hown hK.1 hP hD hS 0 rfl rfl 4 (by decide) (hts _ mX9_takeNumber_2) (fun _ h9 => h9) rfl (tyX9_ok 4 (by decide)) rfl rfl (Nat.le_of_ble_eq_true rfl) dX9_takeNumber_74 (fun H locs hP hD hS => ?_)
        have hP : va_P D vwCl [(a_t, .inr (9, [.ref a_t_text, .int v_t_kind, .int v_t_start, .int (if ((((10 : Int32) * v_t_number) + jr7) - (48 : Int32)) < (100 : Int32) then ((((10 : Int32) * v_t_number) + jr7) - (48 : Int32)) else (100 : Int32)), .int (v_t_behind + (1 : Int32))])), (a_t_text, .inr (2, [.ref a_t_text_letters, .int v_t_text_length])), (a_t_text_letters, .inl (cI, 120, .inl v_t_text_letters))] H := hP
        have hD : va_D A [(a_t, .inr (9, [.ref a_t_text, .int v_t_kind, .int v_t_start, .int (if ((((10 : Int32) * v_t_number) + jr7) - (48 : Int32)) < (100 : Int32) then ((((10 : Int32) * v_t_number) + jr7) - (48 : Int32)) else (100 : Int32)), .int (v_t_behind + (1 : Int32))])), (a_t_text, .inr (2, [.ref a_t_text_letters, .int v_t_text_length])), (a_t_text_letters, .inl (cI, 120, .inl v_t_text_letters))] := hD
        refine lv_goto (tgt := 5) hx hb dX9_takeNumber_77 (by decide) ?_
        exact ih v_t_kind (if ((((10 : Int32) * v_t_number) + jr7) - (48 : Int32)) < (100 : Int32) then ((((10 : Int32) * v_t_number) + jr7) - (48 : Int32)) else (100 : Int32)) (v_t_behind + (1 : Int32)) ls _ _ hf (lv_sub hl [0] rfl) hP hD hS
theorem hdX9_takeNumber : yX9_takeNumber.cls ≠ "java/lang/invoke/MethodHandle" ∧ yX9_takeNumber.cls ≠ "java/lang/invoke/VarHandle" ∧ (parseMethodDescriptor yX9_takeNumber.desc).map (fun d => d.parameters.length) = some 0 := by decide +kernel
set_option maxHeartbeats 4000000 in
set_option maxRecDepth 100000 in
theorem ctX9_takeNumber (l : Launch) (D : va_G) (cI cZ : ClassId) (a_t a_t_text a_t_text_letters : Nat) (v_t_kind : Int32) (v_t_start : Int32) (v_t_number : Int32) (v_t_behind : Int32) (v_t_text_length : Int32) (v_t_text_letters : (Nat → Int32)) (o_t_kind : Int32) (o_t_number : Int32) (o_t_behind : Int32) (hf : fX9_takeNumber v_t_kind v_t_start v_t_number v_t_behind v_t_text_length v_t_text_letters = some (o_t_kind, o_t_number, o_t_behind)) : cM l yX9_takeNumber wsX9_takeNumber rmX9_takeNumber [.ref a_t] D [(a_t, .inr (9, [.ref a_t_text, .int v_t_kind, .int v_t_start, .int v_t_number, .int v_t_behind])), (a_t_text, .inr (2, [.ref a_t_text_letters, .int v_t_text_length])), (a_t_text_letters, .inl (cI, 120, .inl v_t_text_letters))] [(a_t, .inr (9, [.ref a_t_text, .int o_t_kind, .int v_t_start, .int o_t_number, .int o_t_behind])), (a_t_text, .inr (2, [.ref a_t_text_letters, .int v_t_text_length])), (a_t_text_letters, .inl (cI, 120, .inl v_t_text_letters))] (KX D cI cZ) none := by
  refine cM_of (cc := cX9_takeNumber) (maxL := 2) (ret := none) (by decide +kernel) rfl _ (Nat.le_of_ble_eq_true rfl) ?_
  intro p e s m below meth c ls A S hr hlk hP hK hl hD hA hS
  obtain ⟨hx, hb, hml, hown, hts⟩ := id S
  have hl : lv_has ls 2 [(0, .ref a_t)] := hl
  unfold fX9_takeNumber at hf
  refine lv_aload_n hx hb dX9_takeNumber_0 rfl (lv_at hl 0 rfl) ?_
  refine lv_iconst (v := 0) hx hb dX9_takeNumber_1 (by decide) ?_
  refine va_put (D := D) (ci := 9) (v := .int (0 : Int32)) (ty := .int) (C := RX9) (T := TX9) (N := 5) hx hb hts iX9_takeNumber_X9 tyX9 tyX9_ok nmX9 hown hK.1 hP hD hS 0 rfl rfl 3 (by decide) (hts _ mX9_takeNumber_1) (fun _ h9 => h9) rfl (tyX9_ok 3 (by decide)) rfl rfl (Nat.le_of_ble_eq_true rfl) dX9_takeNumber_2 (fun H locs hP hD hS => ?_)
  have hP : va_P D vwCl [(a_t, .inr (9, [.ref a_t_text, .int v_t_kind, .int v_t_start, .int (0 : Int32), .int v_t_behind])), (a_t_text, .inr (2, [.ref a_t_text_letters, .int v_t_text_length])), (a_t_text_letters, .inl (cI, 120, .inl v_t_text_letters))] H := hP
  have hD : va_D A [(a_t, .inr (9, [.ref a_t_text, .int v_t_kind, .int v_t_start, .int (0 : Int32), .int v_t_behind])), (a_t_text, .inr (2, [.ref a_t_text_letters, .int v_t_text_length])), (a_t_text_letters, .inl (cI, 120, .inl v_t_text_letters))] := hD
  exact wX9_takeNumber_5 S hr hlk hK hA fuel v_t_kind (0 : Int32) v_t_behind ls _ _ hf (lv_sub hl [0] rfl) hP hD hS
def fX9_advance_51 (v_t_text_length : Int32) (v_t_text_letters : (Nat → Int32)) (v_t_kind : Int32) (v_t_start : Int32) (v_t_number : Int32) (v_t_behind : Int32) : Option (Int32 × Int32 × Int32 × Int32) := if v_t_start < v_t_text_length then bd1 (fX2_at v_t_start v_t_text_length v_t_text_letters) (fun jr2 => bd1 (fX9_isSmall jr2) (fun jr4 => if jr4 = 0 then bd1 (fX2_at v_t_start v_t_text_length v_t_text_letters) (fun jr7 => bd1 (fX9_isDigit jr7) (fun jr9 => if jr9 = 0 then bd1 (fX2_at v_t_start v_t_text_length v_t_text_letters) (fun jr12 => if jr12 = (59 : Int32) then some ((6 : Int32), v_t_start, v_t_number, (v_t_start + (1 : Int32))) else some ((7 : Int32), v_t_start, v_t_number, (v_t_start + (1 : Int32)))) else bd3 (fX9_takeNumber v_t_kind v_t_start v_t_number v_t_start v_t_text_length v_t_text_letters) (fun jg15 jg16 jg17 => some (jg15, v_t_start, jg16, jg17)))) else bd2 (fX9_takeWord v_t_kind v_t_start v_t_start v_t_text_length v_t_text_letters) (fun jg19 jg20 => some (jg19, v_t_start, v_t_number, jg20)))) else some ((0 : Int32), v_t_start, v_t_number, v_t_start)
def fX9_advance_8 (v_t_text_length : Int32) (v_t_text_letters : (Nat → Int32)) : Nat → Int32 → Int32 → Int32 → Int32 → Option (Int32 × Int32 × Int32 × Int32)
  | 0, _, _, _, _ => none
  | n + 1, v_t_kind, v_t_start, v_t_number, v_t_behind => if v_t_text_length ≤ v_t_start then fX9_advance_51 v_t_text_length v_t_text_letters v_t_kind v_t_start v_t_number v_t_behind else bd1 (fX2_at v_t_start v_t_text_length v_t_text_letters) (fun jr2 => if jr2 = (32 : Int32) then (fX9_advance_8 v_t_text_length v_t_text_letters n) v_t_kind (v_t_start + (1 : Int32)) v_t_number v_t_behind else fX9_advance_51 v_t_text_length v_t_text_letters v_t_kind v_t_start v_t_number v_t_behind)
theorem fX9_advance_8_s (v_t_text_length : Int32) (v_t_text_letters : (Nat → Int32)) (n : Nat) (v_t_kind : Int32) (v_t_start : Int32) (v_t_number : Int32) (v_t_behind : Int32) : fX9_advance_8 v_t_text_length v_t_text_letters (n + 1) v_t_kind v_t_start v_t_number v_t_behind = if v_t_text_length ≤ v_t_start then fX9_advance_51 v_t_text_length v_t_text_letters v_t_kind v_t_start v_t_number v_t_behind else bd1 (fX2_at v_t_start v_t_text_length v_t_text_letters) (fun jr2 => if jr2 = (32 : Int32) then (fX9_advance_8 v_t_text_length v_t_text_letters n) v_t_kind (v_t_start + (1 : Int32)) v_t_number v_t_behind else fX9_advance_51 v_t_text_length v_t_text_letters v_t_kind v_t_start v_t_number v_t_behind) := rfl
def fX9_advance (v_t_kind : Int32) (v_t_start : Int32) (v_t_number : Int32) (v_t_behind : Int32) (v_t_text_length : Int32) (v_t_text_letters : (Nat → Int32)) : Option (Int32 × Int32 × Int32 × Int32) := fX9_advance_8 v_t_text_length v_t_text_letters fuel v_t_kind v_t_behind v_t_number v_t_behind
abbrev rmX9_advance : Room := { frames := 6, cells := 0, slots := 0, locals := 127 }
theorem iX9_advance_X9 : ∀ w ∈ wsX90, w ∈ wsX9_advance := fun _ h => List.mem_cons_of_mem _ (List.mem_append_left _ (List.mem_append_right _ h))
theorem mX9_advance_2 : (Cond.fieldLink RX9 13 "VoteFiles$Tokens" "start" "I") ∈ wsX9_advance := List.mem_of_getElem? (i := 2) rfl
theorem mX9_advance_1 : (Cond.fieldLink RX9 19 "VoteFiles$Tokens" "behind" "I") ∈ wsX9_advance := List.mem_of_getElem? (i := 1) rfl
theorem mX9_advance_3 : (Cond.fieldLink RX9 22 "VoteFiles$Tokens" "text" "LVoteFiles$Letters;") ∈ wsX9_advance := List.mem_of_getElem? (i := 3) rfl
theorem iX9_advance_X2 : ∀ w ∈ wsX20, w ∈ wsX9_advance := fun _ h => List.mem_cons_of_mem _ (List.mem_append_right _ h)
theorem mX9_advance_4 : (Cond.fieldLink RX9 26 "VoteFiles$Letters" "length" "I") ∈ wsX9_advance := List.mem_of_getElem? (i := 4) rfl
theorem mX9_advance_5 : (Cond.fieldLink RX9 9 "VoteFiles$Tokens" "kind" "I") ∈ wsX9_advance := List.mem_of_getElem? (i := 5) rfl
set_option maxHeartbeats 4000000 in
set_option maxRecDepth 100000 in
theorem wX9_advance_51 {p : Program} {l : Launch} {e : Env} {s : State} {m : MethodId} {args : Array Value} {below : List Frame} {meth : Method} {c : Code} {D : va_G} {cI cZ : ClassId} {sz0 : Nat} {ad av : Nat → Nat} (S : CallFix p m c cX9_advance 1 s args wsX9_advance RX9) (hr : meth.sig.returnType = none) (hlk : meth.locks = false) (hT : XT D cI cZ sz0 ad av s) {a_t a_t_text a_t_text_letters : Nat} (z_t : sz0 ≤ a_t) (z_t_text : sz0 ≤ a_t_text) (z_t_text_letters : sz0 ≤ a_t_text_letters) {v_t_text_length : Int32} {v_t_text_letters : (Nat → Int32)} {o_t_kind : Int32} {o_t_start : Int32} {o_t_number : Int32} {o_t_behind : Int32} {A : Nat → Prop} (hA : ∀ q : Nat, s.heap.size ≤ q → A q) (hZ : ∀ q : Nat, A q → sz0 ≤ q) : ∀ (v_t_kind : Int32) (v_t_start : Int32) (v_t_number : Int32) (v_t_behind : Int32) (ls : Array Slot) (H : Heap) (locs : List Loc), fX9_advance_51 v_t_text_length v_t_text_letters v_t_kind v_t_start v_t_number v_t_behind = some (o_t_kind, o_t_start, o_t_number, o_t_behind) → lv_has ls 1 [(0, .ref a_t)] → va_P D vwCl [(a_t, .inr (9, [.ref a_t_text, .int v_t_kind, .int v_t_start, .int v_t_number, .int v_t_behind])), (a_t_text, .inr (2, [.ref a_t_text_letters, .int v_t_text_length])), (a_t_text_letters, .inl (cI, 120, .inl v_t_text_letters))] H → va_D A [(a_t, .inr (9, [.ref a_t_text, .int v_t_kind, .int v_t_start, .int v_t_number, .int v_t_behind])), (a_t_text, .inr (2, [.ref a_t_text_letters, .int v_t_text_length])), (a_t_text_letters, .inl (cI, 120, .inl v_t_text_letters))] → va_S A s.heap H locs → W p l e rmX9_advance s m args below meth c H locs 0 0 (MQ below (qM D none [(a_t, .inr (9, [.ref a_t_text, .int o_t_kind, .int o_t_start, .int o_t_number, .int o_t_behind])), (a_t_text, .inr (2, [.ref a_t_text_letters, .int v_t_text_length])), (a_t_text_letters, .inl (cI, 120, .inl v_t_text_letters))] A) args s 0 0 A) (F0 m 51 ls []) := by
  obtain ⟨hx, hb, hml, hown, hts⟩ := id S
  have hK := hT.1
  intro v_t_kind v_t_start v_t_number v_t_behind ls H locs hf hl hP hD hS
  unfold fX9_advance_51 at hf
  refine lv_aload_n hx hb dX9_advance_51 rfl (lv_at hl 0 rfl) ?_
  refine lv_aload_n hx hb dX9_advance_52 rfl (lv_at hl 0 rfl) ?_
  refine va_get (D := D) (ci := 9) (v := .int v_t_start) (C := RX9) (T := TX9) (N := 5) hx hb hts iX9_advance_X9 hown hK.1 hP 0 rfl rfl 2 (by decide) (hts _ mX9_advance_2) (fun _ h9 => h9) rfl dX9_advance_53 ?_
  refine va_put (D := D) (ci := 9) (v := .int v_t_start) (ty := .int) (C := RX9) (T := TX9) (N := 5) hx hb hts iX9_advance_X9 tyX9 tyX9_ok nmX9 hown hK.1 hP hD hS 0 rfl rfl 4 (by decide) (hts _ mX9_advance_1) (fun _ h9 => h9) rfl (tyX9_ok 4 (by decide)) rfl rfl (Nat.le_of_ble_eq_true rfl) dX9_advance_56 (fun H locs hP hD hS => ?_)
  have hP : va_P D vwCl [(a_t, .inr (9, [.ref a_t_text, .int v_t_kind, .int v_t_start, .int v_t_number, .int v_t_start])), (a_t_text, .inr (2, [.ref a_t_text_letters, .int v_t_text_length])), (a_t_text_letters, .inl (cI, 120, .inl v_t_text_letters))] H := hP
  have hD : va_D A [(a_t, .inr (9, [.ref a_t_text, .int v_t_kind, .int v_t_start, .int v_t_number, .int v_t_start])), (a_t_text, .inr (2, [.ref a_t_text_letters, .int v_t_text_length])), (a_t_text_letters, .inl (cI, 120, .inl v_t_text_letters))] := hD
  refine lv_aload_n hx hb dX9_advance_59 rfl (lv_at hl 0 rfl) ?_
  refine va_get (D := D) (ci := 9) (v := .int v_t_start) (C := RX9) (T := TX9) (N := 5) hx hb hts iX9_advance_X9 hown hK.1 hP 0 rfl rfl 2 (by decide) (hts _ mX9_advance_2) (fun _ h9 => h9) rfl dX9_advance_60 ?_
  refine lv_aload_n hx hb dX9_advance_63 rfl (lv_at hl 0 rfl) ?_
  refine va_get (D := D) (ci := 9) (v := .ref a_t_text) (C := RX9) (T := TX9) (N := 5) hx hb hts iX9_advance_X9 hown hK.1 hP 0 rfl rfl 0 (by decide) (hts _ mX9_advance_3) (fun _ h9 => h9) rfl dX9_advance_64 ?_
  refine va_get (D := D) (ci := 2) (v := .int v_t_text_length) (C := RX2) (T := TX2) (N := 2) hx hb hts iX9_advance_X2 hown hK.1 hP 1 rfl rfl 1 (by decide) (hts _ mX9_advance_4) (fun _ h9 => h9) rfl dX9_advance_67 ?_
  refine lv_icmp_lt (tgt := 81) hx hb dX9_advance_70 (by decide) (fun jc1 => ?_) (fun jc1 => ?_)
  · have hf := ite_t jc1 hf
    refine lv_aload_n hx hb dX9_advance_81 rfl (lv_at hl 0 rfl) ?_
    refine va_get (D := D) (ci := 9) (v := .ref a_t_text) (C := RX9) (T := TX9) (N := 5) hx hb hts iX9_advance_X9 hown hK.1 hP 0 rfl rfl 0 (by decide) (hts _ mX9_advance_3) (fun _ h9 => h9) rfl dX9_advance_82 ?_
    refine lv_aload_n hx hb dX9_advance_85 rfl (lv_at hl 0 rfl) ?_
    refine va_get (D := D) (ci := 9) (v := .int v_t_start) (C := RX9) (T := TX9) (N := 5) hx hb hts iX9_advance_X9 hown hK.1 hP 0 rfl rfl 2 (by decide) (hts _ mX9_advance_2) (fun _ h9 => h9) rfl dX9_advance_86 ?_
    obtain ⟨jr2, je3, hf⟩ := bd1_inv hf
    refine callRV (As := [.int v_t_start]) (rest := []) S (ctX2_at l D cI cZ a_t_text a_t_text_letters v_t_start v_t_text_length v_t_text_letters jr2 je3) (cwV 1 hts gX9_advance_X2_at rfl rfl rfl ⟨rfl, hdX2_at⟩ ⟨Nat.le_of_ble_eq_true rfl, Nat.le_of_ble_eq_true rfl⟩) hP [1, 2] rfl KX.xs (fun U _ hW => hK.warm hW) (va_recv hK.1 hP (ci := 2) (q0 := 1) rfl rfl) rfl hl.1 rfl (Nat.le_of_ble_eq_true rfl) dX9_advance_89 ⟨Nat.zero_le _, Nat.zero_le _⟩ ?_
    obtain ⟨jr4, je5, hf⟩ := bd1_inv hf
    refine callRS (As := [.int jr2]) (rest := []) S (ctX9_isSmall l D cI cZ jr2 jr4 je5) (va_cwS 1 hts gX9_advance_X9_isSmall rfl rfl rfl hdX9_isSmall ⟨Nat.le_of_ble_eq_true rfl, Nat.le_of_ble_eq_true rfl⟩) hP [] rfl KX.xs (fun U _ hW => hK.warm hW) rfl hl.1 rfl (Nat.le_of_ble_eq_true rfl) dX9_advance_92 ⟨Nat.zero_le _, Nat.zero_le _⟩ ?_
    refine lv_if_eq (tgt := 105) hx hb dX9_advance_95 (by decide) (fun jc6 => ?_) (fun jc6 => ?_)
    · have hf := ite_t jc6 hf
      refine lv_aload_n hx hb dX9_advance_105 rfl (lv_at hl 0 rfl) ?_
      refine va_get (D := D) (ci := 9) (v := .ref a_t_text) (C := RX9) (T := TX9) (N := 5) hx hb hts iX9_advance_X9 hown hK.1 hP 0 rfl rfl 0 (by decide) (hts _ mX9_advance_3) (fun _ h9 => h9) rfl dX9_advance_106 ?_
      refine lv_aload_n hx hb dX9_advance_109 rfl (lv_at hl 0 rfl) ?_
      refine va_get (D := D) (ci := 9) (v := .int v_t_start) (C := RX9) (T := TX9) (N := 5) hx hb hts iX9_advance_X9 hown hK.1 hP 0 rfl rfl 2 (by decide) (hts _ mX9_advance_2) (fun _ h9 => h9) rfl dX9_advance_110 ?_
      obtain ⟨jr7, je8, hf⟩ := bd1_inv hf
      refine callRV (As := [.int v_t_start]) (rest := []) S (ctX2_at l D cI cZ a_t_text a_t_text_letters v_t_start v_t_text_length v_t_text_letters jr7 je8) (cwV 1 hts gX9_advance_X2_at rfl rfl rfl ⟨rfl, hdX2_at⟩ ⟨Nat.le_of_ble_eq_true rfl, Nat.le_of_ble_eq_true rfl⟩) hP [1, 2] rfl KX.xs (fun U _ hW => hK.warm hW) (va_recv hK.1 hP (ci := 2) (q0 := 1) rfl rfl) rfl hl.1 rfl (Nat.le_of_ble_eq_true rfl) dX9_advance_113 ⟨Nat.zero_le _, Nat.zero_le _⟩ ?_
      obtain ⟨jr9, je10, hf⟩ := bd1_inv hf
      refine callRS (As := [.int jr7]) (rest := []) S (ctX9_isDigit l D cI cZ jr7 jr9 je10) (va_cwS 1 hts gX9_advance_X9_isDigit rfl rfl rfl hdX9_isDigit ⟨Nat.le_of_ble_eq_true rfl, Nat.le_of_ble_eq_true rfl⟩) hP [] rfl KX.xs (fun U _ hW => hK.warm hW) rfl hl.1 rfl (Nat.le_of_ble_eq_true rfl) dX9_advance_116 ⟨Nat.zero_le _, Nat.zero_le _⟩ ?_
      refine lv_if_eq (tgt := 129) hx hb dX9_advance_119 (by decide) (fun jc11 => ?_) (fun jc11 => ?_)
      · have hf := ite_t jc11 hf
        refine lv_aload_n hx hb dX9_advance_129 rfl (lv_at hl 0 rfl) ?_
        refine lv_aload_n hx hb dX9_advance_130 rfl (lv_at hl 0 rfl) ?_
        refine va_get (D := D) (ci := 9) (v := .int v_t_start) (C := RX9) (T := TX9) (N := 5) hx hb hts iX9_advance_X9 hown hK.1 hP 0 rfl rfl 2 (by decide) (hts _ mX9_advance_2) (fun _ h9 => h9) rfl dX9_advance_131 ?_
        refine lv_iconst (v := 1) hx hb dX9_advance_134 (by decide) ?_
        refine lv_iadd hx hb dX9_advance_135 ?_
        refine va_put (D := D) (ci := 9) (v := .int (v_t_start + (1 : Int32))) (ty := .int) (C := RX9) (T := TX9) (N := 5) hx hb hts iX9_advance_X9 tyX9 tyX9_ok nmX9 hown hK.1 hP hD hS 0 rfl rfl 4 (by decide) (hts _ mX9_advance_1) (fun _ h9 => h9) rfl (tyX9_ok 4 (by decide)) rfl rfl (Nat.le_of_ble_eq_true rfl) dX9_advance_136 (fun H locs hP hD hS => ?_)
        have hP : va_P D vwCl [(a_t, .inr (9, [.ref a_t_text, .int v_t_kind, .int v_t_start, .int v_t_number, .int (v_t_start + (1 : Int32))])), (a_t_text, .inr (2, [.ref a_t_text_letters, .int v_t_text_length])), (a_t_text_letters, .inl (cI, 120, .inl v_t_text_letters))] H := hP
        have hD : va_D A [(a_t, .inr (9, [.ref a_t_text, .int v_t_kind, .int v_t_start, .int v_t_number, .int (v_t_start + (1 : Int32))])), (a_t_text, .inr (2, [.ref a_t_text_letters, .int v_t_text_length])), (a_t_text_letters, .inl (cI, 120, .inl v_t_text_letters))] := hD
        refine lv_aload_n hx hb dX9_advance_139 rfl (lv_at hl 0 rfl) ?_
        refine lv_aload_n hx hb dX9_advance_140 rfl (lv_at hl 0 rfl) ?_
        refine va_get (D := D) (ci := 9) (v := .ref a_t_text) (C := RX9) (T := TX9) (N := 5) hx hb hts iX9_advance_X9 hown hK.1 hP 0 rfl rfl 0 (by decide) (hts _ mX9_advance_3) (fun _ h9 => h9) rfl dX9_advance_141 ?_
        refine lv_aload_n hx hb dX9_advance_144 rfl (lv_at hl 0 rfl) ?_
        refine va_get (D := D) (ci := 9) (v := .int v_t_start) (C := RX9) (T := TX9) (N := 5) hx hb hts iX9_advance_X9 hown hK.1 hP 0 rfl rfl 2 (by decide) (hts _ mX9_advance_2) (fun _ h9 => h9) rfl dX9_advance_145 ?_
        obtain ⟨jr12, je13, hf⟩ := bd1_inv hf
        refine callRV (As := [.int v_t_start]) (rest := [.ref a_t]) S (ctX2_at l D cI cZ a_t_text a_t_text_letters v_t_start v_t_text_length v_t_text_letters jr12 je13) (cwV 1 hts gX9_advance_X2_at rfl rfl rfl ⟨rfl, hdX2_at⟩ ⟨Nat.le_of_ble_eq_true rfl, Nat.le_of_ble_eq_true rfl⟩) hP [1, 2] rfl KX.xs (fun U _ hW => hK.warm hW) (va_recv hK.1 hP (ci := 2) (q0 := 1) rfl rfl) rfl hl.1 rfl (Nat.le_of_ble_eq_true rfl) dX9_advance_148 ⟨Nat.zero_le _, Nat.zero_le _⟩ ?_
        refine lv_bipush (v := 59) hx hb dX9_advance_151 (by decide) ?_
        refine lv_icmp_ne (tgt := 161) hx hb dX9_advance_153 (by decide) (fun jc14 => ?_) (fun jc14 => ?_)
        · have hf := ite_f jc14 hf
          refine lv_bipush (v := 7) hx hb dX9_advance_161 (by decide) ?_
          refine va_put (D := D) (ci := 9) (v := .int (7 : Int32)) (ty := .int) (C := RX9) (T := TX9) (N := 5) hx hb hts iX9_advance_X9 tyX9 tyX9_ok nmX9 hown hK.1 hP hD hS 0 rfl rfl 1 (by decide) (hts _ mX9_advance_5) (fun _ h9 => h9) rfl (tyX9_ok 1 (by decide)) rfl rfl (Nat.le_of_ble_eq_true rfl) dX9_advance_163 (fun H locs hP hD hS => ?_)
          have hP : va_P D vwCl [(a_t, .inr (9, [.ref a_t_text, .int (7 : Int32), .int v_t_start, .int v_t_number, .int (v_t_start + (1 : Int32))])), (a_t_text, .inr (2, [.ref a_t_text_letters, .int v_t_text_length])), (a_t_text_letters, .inl (cI, 120, .inl v_t_text_letters))] H := hP
          have hD : va_D A [(a_t, .inr (9, [.ref a_t_text, .int (7 : Int32), .int v_t_start, .int v_t_number, .int (v_t_start + (1 : Int32))])), (a_t_text, .inr (2, [.ref a_t_text_letters, .int v_t_text_length])), (a_t_text_letters, .inl (cI, 120, .inl v_t_text_letters))] := hD
          obtain ⟨rfl, rfl, rfl, rfl⟩ := pr4_inv hf
          exact retMv hx hb hr hlk hP hD hS dX9_advance_166
        · have hf := ite_t jc14 hf
          refine lv_bipush (v := 6) hx hb dX9_advance_156 (by decide) ?_
          refine lv_goto (tgt := 163) hx hb dX9_advance_158 (by decide) ?_
          refine va_put (D := D) (ci := 9) (v := .int (6 : Int32)) (ty := .int) (C := RX9) (T := TX9) (N := 5) hx hb hts iX9_advance_X9 tyX9 tyX9_ok nmX9 hown hK.1 hP hD hS 0 rfl rfl 1 (by decide) (hts _ mX9_advance_5) (fun _ h9 => h9) rfl (tyX9_ok 1 (by decide)) rfl rfl (Nat.le_of_ble_eq_true rfl) dX9_advance_163 (fun H locs hP hD hS => ?_)
          have hP : va_P D vwCl [(a_t, .inr (9, [.ref a_t_text, .int (6 : Int32), .int v_t_start, .int v_t_number, .int (v_t_start + (1 : Int32))])), (a_t_text, .inr (2, [.ref a_t_text_letters, .int v_t_text_length])), (a_t_text_letters, .inl (cI, 120, .inl v_t_text_letters))] H := hP
          have hD : va_D A [(a_t, .inr (9, [.ref a_t_text, .int (6 : Int32), .int v_t_start, .int v_t_number, .int (v_t_start + (1 : Int32))])), (a_t_text, .inr (2, [.ref a_t_text_letters, .int v_t_text_length])), (a_t_text_letters, .inl (cI, 120, .inl v_t_text_letters))] := hD
          obtain ⟨rfl, rfl, rfl, rfl⟩ := pr4_inv hf
          exact retMv hx hb hr hlk hP hD hS dX9_advance_166
      · have hf := ite_f jc11 hf
        refine lv_aload_n hx hb dX9_advance_122 rfl (lv_at hl 0 rfl) ?_
        obtain ⟨jg15, jg16, jg17, je18, hf⟩ := bd3_inv hf
        refine callMV (As := []) (rest := []) (wr := []) (wn := [(a_t, .inr (9, [.ref a_t_text, .int jg15, .int v_t_start, .int jg16, .int jg17])), (a_t_text, .inr (2, [.ref a_t_text_letters, .int v_t_text_length])), (a_t_text_letters, .inl (cI, 120, .inl v_t_text_letters))]) S (ctX9_takeNumber l D cI cZ a_t a_t_text a_t_text_letters v_t_kind v_t_start v_t_number v_t_start v_t_text_length v_t_text_letters jg15 jg16 jg17 je18) (cwV 0 hts gX9_advance_X9_takeNumber rfl rfl rfl ⟨rfl, hdX9_takeNumber⟩ ⟨Nat.le_of_ble_eq_true rfl, Nat.le_of_ble_eq_true rfl⟩) hP hD hS hA [0, 1, 2] [] [0, 1, 2] rfl rfl (by decide) (by decide) (by decide) (by decide) rfl KX.xs (fun U _ hW => hK.warm hW) (va_recv hK.1 hP (ci := 9) (q0 := 0) rfl rfl) rfl hl.1 rfl (Nat.le_of_ble_eq_true rfl) dX9_advance_123 ⟨Nat.zero_le _, Nat.zero_le _⟩ (fun H locs hP hD hS => ?_)
        refine W.eq (g2 := F0 m 126 ls []) rfl ?_
        refine lv_goto (tgt := 166) hx hb dX9_advance_126 (by decide) ?_
        obtain ⟨rfl, rfl, rfl, rfl⟩ := pr4_inv hf
        exact retMv hx hb hr hlk hP hD hS dX9_advance_166
    · have hf := ite_f jc6 hf
      refine lv_aload_n hx hb dX9_advance_98 rfl (lv_at hl 0 rfl) ?_
      obtain ⟨jg19, jg20, je21, hf⟩ := bd2_inv hf
      refine callMV (As := []) (rest := []) (wr := []) (wn := [(a_t, .inr (9, [.ref a_t_text, .int jg19, .int v_t_start, .int v_t_number, .int jg20])), (a_t_text, .inr (2, [.ref a_t_text_letters, .int v_t_text_length])), (a_t_text_letters, .inl (cI, 120, .inl v_t_text_letters))]) S (ctX9_takeWord l D cI cZ sz0 ad av a_t a_t_text a_t_text_letters z_t z_t_text z_t_text_letters v_t_kind v_t_start v_t_start v_t_text_length v_t_text_letters v_t_number jg19 jg20 je21) (cwV 0 hts gX9_advance_X9_takeWord rfl rfl rfl ⟨rfl, hdX9_takeWord⟩ ⟨Nat.le_of_ble_eq_true rfl, Nat.le_of_ble_eq_true rfl⟩) hP hD hS hA [0, 1, 2] [] [0, 1, 2] rfl rfl (by decide) (by decide) (by decide) (by decide) rfl XT.xs (hT.at hS hZ) (va_recv hK.1 hP (ci := 9) (q0 := 0) rfl rfl) rfl hl.1 rfl (Nat.le_of_ble_eq_true rfl) dX9_advance_99 ⟨Nat.zero_le _, Nat.zero_le _⟩ (fun H locs hP hD hS => ?_)
      refine W.eq (g2 := F0 m 102 ls []) rfl ?_
      refine lv_goto (tgt := 166) hx hb dX9_advance_102 (by decide) ?_
      obtain ⟨rfl, rfl, rfl, rfl⟩ := pr4_inv hf
      exact retMv hx hb hr hlk hP hD hS dX9_advance_166
  · have hf := ite_f jc1 hf
    refine lv_aload_n hx hb dX9_advance_73 rfl (lv_at hl 0 rfl) ?_
    refine lv_iconst (v := 0) hx hb dX9_advance_74 (by decide) ?_
    refine va_put (D := D) (ci := 9) (v := .int (0 : Int32)) (ty := .int) (C := RX9) (T := TX9) (N := 5) hx hb hts iX9_advance_X9 tyX9 tyX9_ok nmX9 hown hK.1 hP hD hS 0 rfl rfl 1 (by decide) (hts _ mX9_advance_5) (fun _ h9 => h9) rfl (tyX9_ok 1 (by decide)) rfl rfl (Nat.le_of_ble_eq_true rfl) dX9_advance_75 (fun H locs hP hD hS => ?_)
    have hP : va_P D vwCl [(a_t, .inr (9, [.ref a_t_text, .int (0 : Int32), .int v_t_start, .int v_t_number, .int v_t_start])), (a_t_text, .inr (2, [.ref a_t_text_letters, .int v_t_text_length])), (a_t_text_letters, .inl (cI, 120, .inl v_t_text_letters))] H := hP
    have hD : va_D A [(a_t, .inr (9, [.ref a_t_text, .int (0 : Int32), .int v_t_start, .int v_t_number, .int v_t_start])), (a_t_text, .inr (2, [.ref a_t_text_letters, .int v_t_text_length])), (a_t_text_letters, .inl (cI, 120, .inl v_t_text_letters))] := hD
    refine lv_goto (tgt := 166) hx hb dX9_advance_78 (by decide) ?_
    obtain ⟨rfl, rfl, rfl, rfl⟩ := pr4_inv hf
    exact retMv hx hb hr hlk hP hD hS dX9_advance_166
set_option maxHeartbeats 4000000 in
set_option maxRecDepth 100000 in
theorem wX9_advance_8 {p : Program} {l : Launch} {e : Env} {s : State} {m : MethodId} {args : Array Value} {below : List Frame} {meth : Method} {c : Code} {D : va_G} {cI cZ : ClassId} {sz0 : Nat} {ad av : Nat → Nat} (S : CallFix p m c cX9_advance 1 s args wsX9_advance RX9) (hr : meth.sig.returnType = none) (hlk : meth.locks = false) (hT : XT D cI cZ sz0 ad av s) {a_t a_t_text a_t_text_letters : Nat} (z_t : sz0 ≤ a_t) (z_t_text : sz0 ≤ a_t_text) (z_t_text_letters : sz0 ≤ a_t_text_letters) {v_t_text_length : Int32} {v_t_text_letters : (Nat → Int32)} {o_t_kind : Int32} {o_t_start : Int32} {o_t_number : Int32} {o_t_behind : Int32} {A : Nat → Prop} (hA : ∀ q : Nat, s.heap.size ≤ q → A q) (hZ : ∀ q : Nat, A q → sz0 ≤ q) : ∀ (n : Nat), ∀ (v_t_kind : Int32) (v_t_start : Int32) (v_t_number : Int32) (v_t_behind : Int32) (ls : Array Slot) (H : Heap) (locs : List Loc), fX9_advance_8 v_t_text_length v_t_text_letters n v_t_kind v_t_start v_t_number v_t_behind = some (o_t_kind, o_t_start, o_t_number, o_t_behind) → lv_has ls 1 [(0, .ref a_t)] → va_P D vwCl [(a_t, .inr (9, [.ref a_t_text, .int v_t_kind, .int v_t_start, .int v_t_number, .int v_t_behind])), (a_t_text, .inr (2, [.ref a_t_text_letters, .int v_t_text_length])), (a_t_text_letters, .inl (cI, 120, .inl v_t_text_letters))] H → va_D A [(a_t, .inr (9, [.ref a_t_text, .int v_t_kind, .int v_t_start, .int v_t_number, .int v_t_behind])), (a_t_text, .inr (2, [.ref a_t_text_letters, .int v_t_text_length])), (a_t_text_letters, .inl (cI, 120, .inl v_t_text_letters))] → va_S A s.heap H locs → W p l e rmX9_advance s m args below meth c H locs 0 0 (MQ below (qM D none [(a_t, .inr (9, [.ref a_t_text, .int o_t_kind, .int o_t_start, .int o_t_number, .int o_t_behind])), (a_t_text, .inr (2, [.ref a_t_text_letters, .int v_t_text_length])), (a_t_text_letters, .inl (cI, 120, .inl v_t_text_letters))] A) args s 0 0 A) (F0 m 8 ls []) := by
  obtain ⟨hx, hb, hml, hown, hts⟩ := id S
  have hK := hT.1
  intro n
  induction n with
  | zero =>
    intro v_t_kind v_t_start v_t_number v_t_behind ls H locs hf hl hP hD hS
    cases (show (none : Option _) = some _ from hf)
  | succ n ih =>
    intro v_t_kind v_t_start v_t_number v_t_behind ls H locs hf hl hP hD hS
    have hf := (fX9_advance_8_s _ _ n _ _ _ _).symm.trans hf
    refine lv_aload_n hx hb dX9_advance_8 rfl (lv_at hl 0 rfl) ?_
    refine va_get (D := D) (ci := 9) (v := .int v_t_start) (C := RX9) (T := TX9) (N := 5) hx hb hts iX9_advance_X9 hown hK.1 hP 0 rfl rfl 2 (by decide) (hts _ mX9_advance_2) (fun _ h9 => h9) rfl dX9_advance_9 ?_
    refine lv_aload_n hx hb dX9_advance_12 rfl (lv_at hl 0 rfl) ?_
    refine va_get (D := D) (ci := 9) (v := .ref a_t_text) (C := RX9) (T := TX9) (N := 5) hx hb hts iX9_advance_X9 hown hK.1 hP 0 rfl rfl 0 (by decide) (hts _ mX9_advance_3) (fun _ h9 => h9) rfl dX9_advance_13 ?_
    refine va_get (D := D) (ci := 2) (v := .int v_t_text_length) (C := RX2) (T := TX2) (N := 2) hx hb hts iX9_advance_X2 hown hK.1 hP 1 rfl rfl 1 (by decide) (hts _ mX9_advance_4) (fun _ h9 => h9) rfl dX9_advance_16 ?_
    refine lv_icmp_ge (tgt := 51) hx hb dX9_advance_19 (by decide) (fun jc1 => ?_) (fun jc1 => ?_)
    · have hf := ite_t jc1 hf
      exact wX9_advance_51 S hr hlk hT z_t z_t_text z_t_text_letters hA hZ v_t_kind v_t_start v_t_number v_t_behind ls _ _ hf (lv_sub hl [0] rfl) hP hD hS
    · have hf := ite_f jc1 hf
      refine lv_aload_n hx hb dX9_advance_22 rfl (lv_at hl 0 rfl) ?_
      refine va_get (D := D) (ci := 9) (v := .ref a_t_text) (C := RX9) (T := TX9) (N := 5) hx hb hts iX9_advance_X9 hown hK.1 hP 0 rfl rfl 0 (by decide) (hts _ mX9_advance_3) (fun _ h9 => h9) rfl dX9_advance_23 ?_
      refine lv_aload_n hx hb dX9_advance_26 rfl (lv_at hl 0 rfl) ?_
      refine va_get (D := D) (ci := 9) (v := .int v_t_start) (C := RX9) (T := TX9) (N := 5) hx hb hts iX9_advance_X9 hown hK.1 hP 0 rfl rfl 2 (by decide) (hts _ mX9_advance_2) (fun _ h9 => h9) rfl dX9_advance_27 ?_
      obtain ⟨jr2, je3, hf⟩ := bd1_inv hf
      refine callRV (As := [.int v_t_start]) (rest := []) S (ctX2_at l D cI cZ a_t_text a_t_text_letters v_t_start v_t_text_length v_t_text_letters jr2 je3) (cwV 1 hts gX9_advance_X2_at rfl rfl rfl ⟨rfl, hdX2_at⟩ ⟨Nat.le_of_ble_eq_true rfl, Nat.le_of_ble_eq_true rfl⟩) hP [1, 2] rfl KX.xs (fun U _ hW => hK.warm hW) (va_recv hK.1 hP (ci := 2) (q0 := 1) rfl rfl) rfl hl.1 rfl (Nat.le_of_ble_eq_true rfl) dX9_advance_30 ⟨Nat.zero_le _, Nat.zero_le _⟩ ?_
      refine lv_bipush (v := 32) hx hb dX9_advance_33 (by decide) ?_
      refine lv_icmp_ne (tgt := 51) hx hb dX9_advance_35 (by decide) (fun jc4 => ?_) (fun jc4 => ?_)
      · have hf := ite_f jc4 hf
        exact wX9_advance_51 S hr hlk hT z_t z_t_text z_t_text_letters hA hZ v_t_kind v_t_start v_t_number v_t_behind ls _ _ hf (lv_sub hl [0] rfl) hP hD hS
      · have hf := ite_t jc4 hf
        refine lv_aload_n hx hb dX9_advance_38 rfl (lv_at hl 0 rfl) ?_
        refine lv_dup hx hb dX9_advance_39 rfl ?_
        refine va_get (D := D) (ci := 9) (v := .int v_t_start) (C := RX9) (T := TX9) (N := 5) hx hb hts iX9_advance_X9 hown hK.1 hP 0 rfl rfl 2 (by decide) (hts _ mX9_advance_2) (fun _ h9 => h9) rfl dX9_advance_40 ?_
        refine lv_iconst (v := 1) hx hb dX9_advance_43 (by decide) ?_
        refine lv_iadd hx hb dX9_advance_44 ?_
        refine va_put (D := D) (ci := 9) (v := .int (v_t_start + (1 : Int32))) (ty := .int) (C := RX9) (T := TX9) (N := 5) hx hb hts iX9_advance_X9 tyX9 tyX9_ok nmX9 hown hK.1 hP hD hS 0 rfl rfl 2 (by decide) (hts _ mX9_advance_2) (fun _ h9 => h9) rfl (tyX9_ok 2 (by decide)) rfl rfl (Nat.le_of_ble_eq_true rfl) dX9_advance_45 (fun H locs hP hD hS => ?_)
        have hP : va_P D vwCl [(a_t, .inr (9, [.ref a_t_text, .int v_t_kind, .int (v_t_start + (1 : Int32)), .int v_t_number, .int v_t_behind])), (a_t_text, .inr (2, [.ref a_t_text_letters, .int v_t_text_length])), (a_t_text_letters, .inl (cI, 120, .inl v_t_text_letters))] H := hP
        have hD : va_D A [(a_t, .inr (9, [.ref a_t_text, .int v_t_kind, .int (v_t_start + (1 : Int32)), .int v_t_number, .int v_t_behind])), (a_t_text, .inr (2, [.ref a_t_text_letters, .int v_t_text_length])), (a_t_text_letters, .inl (cI, 120, .inl v_t_text_letters))] := hD
        refine lv_goto (tgt := 8) hx hb dX9_advance_48 (by decide) ?_
        exact ih v_t_kind (v_t_start + (1 : Int32)) v_t_number v_t_behind ls _ _ hf (lv_sub hl [0] rfl) hP hD hS
theorem hdX9_advance : yX9_advance.cls ≠ "java/lang/invoke/MethodHandle" ∧ yX9_advance.cls ≠ "java/lang/invoke/VarHandle" ∧ (parseMethodDescriptor yX9_advance.desc).map (fun d => d.parameters.length) = some 0 := by decide +kernel
set_option maxHeartbeats 4000000 in
set_option maxRecDepth 100000 in
theorem ctX9_advance (l : Launch) (D : va_G) (cI cZ : ClassId) (sz0 : Nat) (ad av : Nat → Nat) (a_t a_t_text a_t_text_letters : Nat) (z_t : sz0 ≤ a_t) (z_t_text : sz0 ≤ a_t_text) (z_t_text_letters : sz0 ≤ a_t_text_letters) (v_t_kind : Int32) (v_t_start : Int32) (v_t_number : Int32) (v_t_behind : Int32) (v_t_text_length : Int32) (v_t_text_letters : (Nat → Int32)) (o_t_kind : Int32) (o_t_start : Int32) (o_t_number : Int32) (o_t_behind : Int32) (hf : fX9_advance v_t_kind v_t_start v_t_number v_t_behind v_t_text_length v_t_text_letters = some (o_t_kind, o_t_start, o_t_number, o_t_behind)) : cM l yX9_advance wsX9_advance rmX9_advance [.ref a_t] D [(a_t, .inr (9, [.ref a_t_text, .int v_t_kind, .int v_t_start, .int v_t_number, .int v_t_behind])), (a_t_text, .inr (2, [.ref a_t_text_letters, .int v_t_text_length])), (a_t_text_letters, .inl (cI, 120, .inl v_t_text_letters))] [(a_t, .inr (9, [.ref a_t_text, .int o_t_kind, .int o_t_start, .int o_t_number, .int o_t_behind])), (a_t_text, .inr (2, [.ref a_t_text_letters, .int v_t_text_length])), (a_t_text_letters, .inl (cI, 120, .inl v_t_text_letters))] (XT D cI cZ sz0 ad av) none := by
  refine cM_ofZ (cc := cX9_advance) (maxL := 1) (ret := none) (by decide +kernel) rfl _ (Nat.le_of_ble_eq_true rfl) (zc_cons z_t (zc_cons z_t_text (zc_cons z_t_text_letters zc_nil))) (fun U h => h.2.1) ?_
  intro p e s m below meth c ls A S hr hlk hP hT hl hD hA hZ hS
  have hK := hT.1
  obtain ⟨hx, hb, hml, hown, hts⟩ := id S
  have hl : lv_has ls 1 [(0, .ref a_t)] := hl
  unfold fX9_advance at hf
  refine lv_aload_n hx hb dX9_advance_0 rfl (lv_at hl 0 rfl) ?_
  refine lv_aload_n hx hb dX9_advance_1 rfl (lv_at hl 0 rfl) ?_
  refine va_get (D := D) (ci := 9) (v := .int v_t_behind) (C := RX9) (T := TX9) (N := 5) hx hb hts iX9_advance_X9 hown hK.1 hP 0 rfl rfl 4 (by decide) (hts _ mX9_advance_1) (fun _ h9 => h9) rfl dX9_advance_2 ?_
  refine va_put (D := D) (ci := 9) (v := .int v_t_behind) (ty := .int) (C := RX9) (T := TX9) (N := 5) hx hb hts iX9_advance_X9 tyX9 tyX9_ok nmX9 hown hK.1 hP hD hS 0 rfl rfl 2 (by decide) (hts _ mX9_advance_2) (fun _ h9 => h9) rfl (tyX9_ok 2 (by decide)) rfl rfl (Nat.le_of_ble_eq_true rfl) dX9_advance_5 (fun H locs hP hD hS => ?_)
  have hP : va_P D vwCl [(a_t, .inr (9, [.ref a_t_text, .int v_t_kind, .int v_t_behind, .int v_t_number, .int v_t_behind])), (a_t_text, .inr (2, [.ref a_t_text_letters, .int v_t_text_length])), (a_t_text_letters, .inl (cI, 120, .inl v_t_text_letters))] H := hP
  have hD : va_D A [(a_t, .inr (9, [.ref a_t_text, .int v_t_kind, .int v_t_behind, .int v_t_number, .int v_t_behind])), (a_t_text, .inr (2, [.ref a_t_text_letters, .int v_t_text_length])), (a_t_text_letters, .inl (cI, 120, .inl v_t_text_letters))] := hD
  exact wX9_advance_8 S hr hlk hT z_t z_t_text z_t_text_letters hA hZ fuel v_t_kind v_t_behind v_t_number v_t_behind ls _ _ hf (lv_sub hl [0] rfl) hP hD hS
def fX8_mayBegin (jx1 : Int32) (v_t_copies : Int32) (v_t_read : Int32) (v_t_write : Int32) : Option (Int32) := if jx1 = (1 : Int32) then if (6 : Int32) ≤ v_t_copies then some (0 : Int32) else some (1 : Int32) else if jx1 = (2 : Int32) then if (6 : Int32) ≤ v_t_copies then some (0 : Int32) else some (1 : Int32) else if jx1 = (3 : Int32) then if v_t_read = 0 then some (1 : Int32) else some (0 : Int32) else if jx1 = (4 : Int32) then if v_t_write = 0 then some (1 : Int32) else some (0 : Int32) else some (0 : Int32)
abbrev rmX8_mayBegin : Room := { frames := 0, cells := 0, slots := 0, locals := 0 }
theorem iX8_mayBegin_X8 : ∀ w ∈ wsX80, w ∈ wsX8_mayBegin := fun _ h => List.mem_cons_of_mem _ (List.mem_append_right _ h)
theorem mX8_mayBegin_1 : (Cond.fieldLink RX8 19 "VoteFiles$Telling" "copies" "I") ∈ wsX8_mayBegin := List.mem_of_getElem? (i := 1) rfl
theorem mX8_mayBegin_2 : (Cond.fieldLink RX8 22 "VoteFiles$Telling" "read" "I") ∈ wsX8_mayBegin := List.mem_of_getElem? (i := 2) rfl
theorem mX8_mayBegin_3 : (Cond.fieldLink RX8 25 "VoteFiles$Telling" "write" "I") ∈ wsX8_mayBegin := List.mem_of_getElem? (i := 3) rfl
theorem hdX8_mayBegin : yX8_mayBegin.cls ≠ "java/lang/invoke/MethodHandle" ∧ yX8_mayBegin.cls ≠ "java/lang/invoke/VarHandle" ∧ (parseMethodDescriptor yX8_mayBegin.desc).map (fun d => d.parameters.length) = some 1 := by decide +kernel
set_option maxHeartbeats 4000000 in
set_option maxRecDepth 100000 in
theorem ctX8_mayBegin (l : Launch) (D : va_G) (cI cZ : ClassId) (a_t a_t_tokens a_t_votes : Nat) (jx1 : Int32) (v_t_copies : Int32) (v_t_read : Int32) (v_t_write : Int32) (v_t_witnesses : Int32) (v_t_items : Int32) (r : Int32) (hf : fX8_mayBegin jx1 v_t_copies v_t_read v_t_write = some r) : cR l yX8_mayBegin wsX8_mayBegin rmX8_mayBegin [.ref a_t, .int jx1] D [(a_t, .inr (8, [.ref a_t_tokens, .ref a_t_votes, .int v_t_witnesses, .int v_t_copies, .int v_t_read, .int v_t_write, .int v_t_items]))] (KX D cI cZ) r := by
  refine cR_of (cc := cX8_mayBegin) (maxL := 2) (ret := some .boolean) (by decide +kernel) rfl _ (Nat.le_of_ble_eq_true rfl) ?_
  intro p e s m below meth c ls S hr hlk hP hK hl
  obtain ⟨hx, hb, hml, hown, hts⟩ := id S
  have hl : lv_has ls 2 [(0, .ref a_t), (1, .int jx1)] := hl
  unfold fX8_mayBegin at hf
  refine lv_iload_n hx hb dX8_mayBegin_0 rfl (lv_at hl 1 rfl) ?_
  by_cases jc1 : jx1 = (1 : Int32)
  · have hf := ite_t jc1 hf
    refine lv_tableIn (off := 31) (tgt := 32) hx hb dX8_mayBegin_1 (by rw [jc1]; decide) (by rw [jc1]; decide) (by rw [jc1]; decide +kernel) (by decide) ?_
    refine lv_aload_n hx hb dX8_mayBegin_32 rfl (lv_at hl 0 rfl) ?_
    refine va_get (D := D) (ci := 8) (v := .int v_t_copies) (C := RX8) (T := TX8) (N := 7) hx hb hts iX8_mayBegin_X8 hown hK.1 hP 0 rfl rfl 3 (by decide) (hts _ mX8_mayBegin_1) (fun _ h9 => h9) rfl dX8_mayBegin_33 ?_
    refine lv_bipush (v := 6) hx hb dX8_mayBegin_36 (by decide) ?_
    refine lv_icmp_ge (tgt := 45) hx hb dX8_mayBegin_38 (by decide) (fun jc2 => ?_) (fun jc2 => ?_)
    · have hf := ite_t jc2 hf
      refine lv_iconst (v := 0) hx hb dX8_mayBegin_45 (by decide) ?_
      obtain rfl := Option.some.inj hf
      exact retRz hx hb hr hlk (by decide) dX8_mayBegin_46
    · have hf := ite_f jc2 hf
      refine lv_iconst (v := 1) hx hb dX8_mayBegin_41 (by decide) ?_
      refine lv_goto (tgt := 46) hx hb dX8_mayBegin_42 (by decide) ?_
      obtain rfl := Option.some.inj hf
      exact retRz hx hb hr hlk (by decide) dX8_mayBegin_46
  have hf := ite_f jc1 hf
  by_cases jc3 : jx1 = (2 : Int32)
  · have hf := ite_t jc3 hf
    refine lv_tableIn (off := 31) (tgt := 32) hx hb dX8_mayBegin_1 (by rw [jc3]; decide) (by rw [jc3]; decide) (by rw [jc3]; decide +kernel) (by decide) ?_
    refine lv_aload_n hx hb dX8_mayBegin_32 rfl (lv_at hl 0 rfl) ?_
    refine va_get (D := D) (ci := 8) (v := .int v_t_copies) (C := RX8) (T := TX8) (N := 7) hx hb hts iX8_mayBegin_X8 hown hK.1 hP 0 rfl rfl 3 (by decide) (hts _ mX8_mayBegin_1) (fun _ h9 => h9) rfl dX8_mayBegin_33 ?_
    refine lv_bipush (v := 6) hx hb dX8_mayBegin_36 (by decide) ?_
    refine lv_icmp_ge (tgt := 45) hx hb dX8_mayBegin_38 (by decide) (fun jc4 => ?_) (fun jc4 => ?_)
    · have hf := ite_t jc4 hf
      refine lv_iconst (v := 0) hx hb dX8_mayBegin_45 (by decide) ?_
      obtain rfl := Option.some.inj hf
      exact retRz hx hb hr hlk (by decide) dX8_mayBegin_46
    · have hf := ite_f jc4 hf
      refine lv_iconst (v := 1) hx hb dX8_mayBegin_41 (by decide) ?_
      refine lv_goto (tgt := 46) hx hb dX8_mayBegin_42 (by decide) ?_
      obtain rfl := Option.some.inj hf
      exact retRz hx hb hr hlk (by decide) dX8_mayBegin_46
  have hf := ite_f jc3 hf
  by_cases jc5 : jx1 = (3 : Int32)
  · have hf := ite_t jc5 hf
    refine lv_tableIn (off := 46) (tgt := 47) hx hb dX8_mayBegin_1 (by rw [jc5]; decide) (by rw [jc5]; decide) (by rw [jc5]; decide +kernel) (by decide) ?_
    refine lv_aload_n hx hb dX8_mayBegin_47 rfl (lv_at hl 0 rfl) ?_
    refine va_get (D := D) (ci := 8) (v := .int v_t_read) (C := RX8) (T := TX8) (N := 7) hx hb hts iX8_mayBegin_X8 hown hK.1 hP 0 rfl rfl 4 (by decide) (hts _ mX8_mayBegin_2) (fun _ h9 => h9) rfl dX8_mayBegin_48 ?_
    refine lv_if_ne (tgt := 58) hx hb dX8_mayBegin_51 (by decide) (fun jc6 => ?_) (fun jc6 => ?_)
    · have hf := ite_f jc6 hf
      refine lv_iconst (v := 0) hx hb dX8_mayBegin_58 (by decide) ?_
      obtain rfl := Option.some.inj hf
      exact retRz hx hb hr hlk (by decide) dX8_mayBegin_59
    · have hf := ite_t jc6 hf
      refine lv_iconst (v := 1) hx hb dX8_mayBegin_54 (by decide) ?_
      refine lv_goto (tgt := 59) hx hb dX8_mayBegin_55 (by decide) ?_
      obtain rfl := Option.some.inj hf
      exact retRz hx hb hr hlk (by decide) dX8_mayBegin_59
  have hf := ite_f jc5 hf
  by_cases jc7 : jx1 = (4 : Int32)
  · have hf := ite_t jc7 hf
    refine lv_tableIn (off := 59) (tgt := 60) hx hb dX8_mayBegin_1 (by rw [jc7]; decide) (by rw [jc7]; decide) (by rw [jc7]; decide +kernel) (by decide) ?_
    refine lv_aload_n hx hb dX8_mayBegin_60 rfl (lv_at hl 0 rfl) ?_
    refine va_get (D := D) (ci := 8) (v := .int v_t_write) (C := RX8) (T := TX8) (N := 7) hx hb hts iX8_mayBegin_X8 hown hK.1 hP 0 rfl rfl 5 (by decide) (hts _ mX8_mayBegin_3) (fun _ h9 => h9) rfl dX8_mayBegin_61 ?_
    refine lv_if_ne (tgt := 71) hx hb dX8_mayBegin_64 (by decide) (fun jc8 => ?_) (fun jc8 => ?_)
    · have hf := ite_f jc8 hf
      refine lv_iconst (v := 0) hx hb dX8_mayBegin_71 (by decide) ?_
      obtain rfl := Option.some.inj hf
      exact retRz hx hb hr hlk (by decide) dX8_mayBegin_72
    · have hf := ite_t jc8 hf
      refine lv_iconst (v := 1) hx hb dX8_mayBegin_67 (by decide) ?_
      refine lv_goto (tgt := 72) hx hb dX8_mayBegin_68 (by decide) ?_
      obtain rfl := Option.some.inj hf
      exact retRz hx hb hr hlk (by decide) dX8_mayBegin_72
  have hf := ite_f jc7 hf
  have jh9 : (jx1).toInt < 1 ∨ 4 < (jx1).toInt := by
    refine sw_out (fun v h1 h2 => ?_)
    rcases (show v = 1 ∨ v = 2 ∨ v = 3 ∨ v = 4 by omega) with rfl | rfl | rfl | rfl
    · exact jc1
    · exact jc3
    · exact jc5
    · exact jc7
  refine lv_tableOut (tgt := 73) hx hb dX8_mayBegin_1 jh9 (by decide) ?_
  refine lv_iconst (v := 0) hx hb dX8_mayBegin_73 (by decide) ?_
  obtain rfl := Option.some.inj hf
  exact retRz hx hb hr hlk (by decide) dX8_mayBegin_74
def fX8_mayFollow (jx0 : Int32) (jx1 : Int32) : Option (Int32) := if jx0 = (3 : Int32) then bd1 (fX10_isWithin jx1 (1 : Int32) (30 : Int32)) (fun jr2 => zcI jr2 (some jr2)) else if jx0 = (4 : Int32) then bd1 (fX10_isWithin jx1 (1 : Int32) (30 : Int32)) (fun jr9 => zcI jr9 (some jr9)) else bd1 (fX10_isWithin jx1 (0 : Int32) (5 : Int32)) (fun jr6 => zcI jr6 (some jr6))
abbrev rmX8_mayFollow : Room := { frames := 1, cells := 0, slots := 0, locals := 22 }
theorem mX8_mayFollow_2 : (Cond.initialized RX10) ∈ wsX8_mayFollow := List.mem_of_getElem? (i := 2) rfl
theorem mX8_mayFollow_1 : (Cond.static yX10_isWithin) ∈ wsX8_mayFollow := List.mem_of_getElem? (i := 1) rfl
theorem hdX8_mayFollow : yX8_mayFollow.cls ≠ "java/lang/invoke/MethodHandle" ∧ yX8_mayFollow.cls ≠ "java/lang/invoke/VarHandle" ∧ (parseMethodDescriptor yX8_mayFollow.desc).map (fun d => d.parameters.length) = some 2 := by decide +kernel
set_option maxHeartbeats 4000000 in
set_option maxRecDepth 100000 in
theorem ctX8_mayFollow (l : Launch) (D : va_G) (cI cZ : ClassId) (jx0 : Int32) (jx1 : Int32) (r : Int32) (hf : fX8_mayFollow jx0 jx1 = some r) : cR l yX8_mayFollow wsX8_mayFollow rmX8_mayFollow [.int jx0, .int jx1] D [] (KX D cI cZ) r := by
  refine cR_of (cc := cX8_mayFollow) (maxL := 2) (ret := some .boolean) (by decide +kernel) rfl _ (Nat.le_of_ble_eq_true rfl) ?_
  intro p e s m below meth c ls S hr hlk hP hK hl
  obtain ⟨hx, hb, hml, hown, hts⟩ := id S
  have hl : lv_has ls 2 [(0, .int jx0), (1, .int jx1)] := hl
  unfold fX8_mayFollow at hf
  refine lv_iload_n hx hb dX8_mayFollow_0 rfl (lv_at hl 0 rfl) ?_
  refine lv_iconst (v := 3) hx hb dX8_mayFollow_1 (by decide) ?_
  refine lv_icmp_eq (tgt := 10) hx hb dX8_mayFollow_2 (by decide) (fun jc1 => ?_) (fun jc1 => ?_)
  · have hf := ite_t jc1 hf
    refine lv_iload_n hx hb dX8_mayFollow_10 rfl (lv_at hl 1 rfl) ?_
    refine lv_iconst (v := 1) hx hb dX8_mayFollow_11 (by decide) ?_
    refine lv_bipush (v := 30) hx hb dX8_mayFollow_12 (by decide) ?_
    obtain ⟨jr2, je3, hf⟩ := bd1_inv hf
    refine callRSN (As := [.int jx1, .int (1 : Int32), .int (30 : Int32)]) (rest := []) S (ctX10_isWithin l D cI cZ jx1 (1 : Int32) (30 : Int32) jr2 je3) ⟨va_cnB 3 hts gX8_mayFollow_X10_isWithin_n74 rfl rfl rfl (hK.2 (RX8, 74, yX10_isWithin, RX10) (by simp [nwQ])) (hts _ mX8_mayFollow_2) hdX10_isWithin ⟨Nat.le_of_ble_eq_true rfl, Nat.le_of_ble_eq_true rfl⟩, hts _ mX8_mayFollow_1, trivial⟩ hP [] rfl KX.xs (fun U _ hW => hK.warm hW) rfl hl.1 rfl (Nat.le_of_ble_eq_true rfl) dX8_mayFollow_14 ⟨Nat.zero_le _, Nat.zero_le _⟩ ?_
    obtain ⟨jh4, hf⟩ := zcI_inv hf
    obtain rfl := Option.some.inj hf
    exact retRz hx hb hr hlk (nar_z jh4) dX8_mayFollow_17
  · have hf := ite_f jc1 hf
    refine lv_iload_n hx hb dX8_mayFollow_5 rfl (lv_at hl 0 rfl) ?_
    refine lv_iconst (v := 4) hx hb dX8_mayFollow_6 (by decide) ?_
    refine lv_icmp_ne (tgt := 18) hx hb dX8_mayFollow_7 (by decide) (fun jc5 => ?_) (fun jc5 => ?_)
    · have hf := ite_f jc5 hf
      refine lv_iload_n hx hb dX8_mayFollow_18 rfl (lv_at hl 1 rfl) ?_
      refine lv_iconst (v := 0) hx hb dX8_mayFollow_19 (by decide) ?_
      refine lv_iconst (v := 5) hx hb dX8_mayFollow_20 (by decide) ?_
      obtain ⟨jr6, je7, hf⟩ := bd1_inv hf
      refine callRSN (As := [.int jx1, .int (0 : Int32), .int (5 : Int32)]) (rest := []) S (ctX10_isWithin l D cI cZ jx1 (0 : Int32) (5 : Int32) jr6 je7) ⟨va_cnB 3 hts gX8_mayFollow_X10_isWithin_n74 rfl rfl rfl (hK.2 (RX8, 74, yX10_isWithin, RX10) (by simp [nwQ])) (hts _ mX8_mayFollow_2) hdX10_isWithin ⟨Nat.le_of_ble_eq_true rfl, Nat.le_of_ble_eq_true rfl⟩, hts _ mX8_mayFollow_1, trivial⟩ hP [] rfl KX.xs (fun U _ hW => hK.warm hW) rfl hl.1 rfl (Nat.le_of_ble_eq_true rfl) dX8_mayFollow_21 ⟨Nat.zero_le _, Nat.zero_le _⟩ ?_
      obtain ⟨jh8, hf⟩ := zcI_inv hf
      obtain rfl := Option.some.inj hf
      exact retRz hx hb hr hlk (nar_z jh8) dX8_mayFollow_24
    · have hf := ite_t jc5 hf
      refine lv_iload_n hx hb dX8_mayFollow_10 rfl (lv_at hl 1 rfl) ?_
      refine lv_iconst (v := 1) hx hb dX8_mayFollow_11 (by decide) ?_
      refine lv_bipush (v := 30) hx hb dX8_mayFollow_12 (by decide) ?_
      obtain ⟨jr9, je10, hf⟩ := bd1_inv hf
      refine callRSN (As := [.int jx1, .int (1 : Int32), .int (30 : Int32)]) (rest := []) S (ctX10_isWithin l D cI cZ jx1 (1 : Int32) (30 : Int32) jr9 je10) ⟨va_cnB 3 hts gX8_mayFollow_X10_isWithin_n74 rfl rfl rfl (hK.2 (RX8, 74, yX10_isWithin, RX10) (by simp [nwQ])) (hts _ mX8_mayFollow_2) hdX10_isWithin ⟨Nat.le_of_ble_eq_true rfl, Nat.le_of_ble_eq_true rfl⟩, hts _ mX8_mayFollow_1, trivial⟩ hP [] rfl KX.xs (fun U _ hW => hK.warm hW) rfl hl.1 rfl (Nat.le_of_ble_eq_true rfl) dX8_mayFollow_14 ⟨Nat.zero_le _, Nat.zero_le _⟩ ?_
      obtain ⟨jh11, hf⟩ := zcI_inv hf
      obtain rfl := Option.some.inj hf
      exact retRz hx hb hr hlk (nar_z jh11) dX8_mayFollow_17
def fX8_addItem (jx1 : Int32) (jx2 : Int32) (v_t_witnesses : Int32) (v_t_copies : Int32) (v_t_read : Int32) (v_t_write : Int32) (v_t_items : Int32) (v_t_votes : (Nat → Int32)) : Option (Int32 × Int32 × Int32 × Int32 × Int32 × (Nat → Int32)) := if jx1 = (3 : Int32) then some (v_t_witnesses, v_t_copies, jx2, v_t_write, (v_t_items + (1 : Int32)), v_t_votes) else if jx1 = (4 : Int32) then some (v_t_witnesses, v_t_copies, v_t_read, jx2, (v_t_items + (1 : Int32)), v_t_votes) else if (6 : Int32) ≤ v_t_copies then some (v_t_witnesses, v_t_copies, v_t_read, v_t_write, (v_t_items + (1 : Int32)), v_t_votes) else ckI 6 v_t_copies (if jx1 = (2 : Int32) then some ((v_t_witnesses ||| ((1 : Int32) <<< (v_t_copies &&& 31))), (v_t_copies + (1 : Int32)), v_t_read, v_t_write, (v_t_items + (1 : Int32)), (upd v_t_votes (Int32.toNatClampNeg v_t_copies) jx2)) else some (v_t_witnesses, (v_t_copies + (1 : Int32)), v_t_read, v_t_write, (v_t_items + (1 : Int32)), (upd v_t_votes (Int32.toNatClampNeg v_t_copies) jx2)))
abbrev rmX8_addItem : Room := { frames := 0, cells := 0, slots := 0, locals := 0 }
theorem iX8_addItem_X8 : ∀ w ∈ wsX80, w ∈ wsX8_addItem := fun _ h => List.mem_cons_of_mem _ (List.mem_append_right _ h)
theorem mX8_addItem_1 : (Cond.fieldLink RX8 28 "VoteFiles$Telling" "items" "I") ∈ wsX8_addItem := List.mem_of_getElem? (i := 1) rfl
theorem mX8_addItem_4 : (Cond.fieldLink RX8 19 "VoteFiles$Telling" "copies" "I") ∈ wsX8_addItem := List.mem_of_getElem? (i := 4) rfl
theorem mX8_addItem_5 : (Cond.fieldLink RX8 9 "VoteFiles$Telling" "votes" "[I") ∈ wsX8_addItem := List.mem_of_getElem? (i := 5) rfl
theorem mX8_addItem_6 : (Cond.fieldLink RX8 15 "VoteFiles$Telling" "witnesses" "I") ∈ wsX8_addItem := List.mem_of_getElem? (i := 6) rfl
theorem mX8_addItem_3 : (Cond.fieldLink RX8 25 "VoteFiles$Telling" "write" "I") ∈ wsX8_addItem := List.mem_of_getElem? (i := 3) rfl
theorem mX8_addItem_2 : (Cond.fieldLink RX8 22 "VoteFiles$Telling" "read" "I") ∈ wsX8_addItem := List.mem_of_getElem? (i := 2) rfl
theorem hdX8_addItem : yX8_addItem.cls ≠ "java/lang/invoke/MethodHandle" ∧ yX8_addItem.cls ≠ "java/lang/invoke/VarHandle" ∧ (parseMethodDescriptor yX8_addItem.desc).map (fun d => d.parameters.length) = some 2 := by decide +kernel
set_option maxHeartbeats 4000000 in
set_option maxRecDepth 100000 in
theorem ctX8_addItem (l : Launch) (D : va_G) (cI cZ : ClassId) (a_t a_t_tokens a_t_votes : Nat) (jx1 : Int32) (jx2 : Int32) (v_t_witnesses : Int32) (v_t_copies : Int32) (v_t_read : Int32) (v_t_write : Int32) (v_t_items : Int32) (v_t_votes : (Nat → Int32)) (o_t_witnesses : Int32) (o_t_copies : Int32) (o_t_read : Int32) (o_t_write : Int32) (o_t_items : Int32) (o_t_votes : (Nat → Int32)) (hf : fX8_addItem jx1 jx2 v_t_witnesses v_t_copies v_t_read v_t_write v_t_items v_t_votes = some (o_t_witnesses, o_t_copies, o_t_read, o_t_write, o_t_items, o_t_votes)) : cM l yX8_addItem wsX8_addItem rmX8_addItem [.ref a_t, .int jx1, .int jx2] D [(a_t, .inr (8, [.ref a_t_tokens, .ref a_t_votes, .int v_t_witnesses, .int v_t_copies, .int v_t_read, .int v_t_write, .int v_t_items])), (a_t_votes, .inl (cI, 6, .inl v_t_votes))] [(a_t, .inr (8, [.ref a_t_tokens, .ref a_t_votes, .int o_t_witnesses, .int o_t_copies, .int o_t_read, .int o_t_write, .int o_t_items])), (a_t_votes, .inl (cI, 6, .inl o_t_votes))] (KX D cI cZ) none := by
  refine cM_of (cc := cX8_addItem) (maxL := 3) (ret := none) (by decide +kernel) rfl _ (Nat.le_of_ble_eq_true rfl) ?_
  intro p e s m below meth c ls A S hr hlk hP hK hl hD hA hS
  obtain ⟨hx, hb, hml, hown, hts⟩ := id S
  have hl : lv_has ls 3 [(0, .ref a_t), (1, .int jx1), (2, .int jx2)] := hl
  unfold fX8_addItem at hf
  refine lv_aload_n hx hb dX8_addItem_0 rfl (lv_at hl 0 rfl) ?_
  refine lv_dup hx hb dX8_addItem_1 rfl ?_
  refine va_get (D := D) (ci := 8) (v := .int v_t_items) (C := RX8) (T := TX8) (N := 7) hx hb hts iX8_addItem_X8 hown hK.1 hP 0 rfl rfl 6 (by decide) (hts _ mX8_addItem_1) (fun _ h9 => h9) rfl dX8_addItem_2 ?_
  refine lv_iconst (v := 1) hx hb dX8_addItem_5 (by decide) ?_
  refine lv_iadd hx hb dX8_addItem_6 ?_
  refine va_put (D := D) (ci := 8) (v := .int (v_t_items + (1 : Int32))) (ty := .int) (C := RX8) (T := TX8) (N := 7) hx hb hts iX8_addItem_X8 tyX8 tyX8_ok nmX8 hown hK.1 hP hD hS 0 rfl rfl 6 (by decide) (hts _ mX8_addItem_1) (fun _ h9 => h9) rfl (tyX8_ok 6 (by decide)) rfl rfl (Nat.le_of_ble_eq_true rfl) dX8_addItem_7 (fun H locs hP hD hS => ?_)
  have hP : va_P D vwCl [(a_t, .inr (8, [.ref a_t_tokens, .ref a_t_votes, .int v_t_witnesses, .int v_t_copies, .int v_t_read, .int v_t_write, .int (v_t_items + (1 : Int32))])), (a_t_votes, .inl (cI, 6, .inl v_t_votes))] H := hP
  have hD : va_D A [(a_t, .inr (8, [.ref a_t_tokens, .ref a_t_votes, .int v_t_witnesses, .int v_t_copies, .int v_t_read, .int v_t_write, .int (v_t_items + (1 : Int32))])), (a_t_votes, .inl (cI, 6, .inl v_t_votes))] := hD
  refine lv_iload_n hx hb dX8_addItem_10 rfl (lv_at hl 1 rfl) ?_
  refine lv_iconst (v := 3) hx hb dX8_addItem_11 (by decide) ?_
  refine lv_icmp_ne (tgt := 23) hx hb dX8_addItem_12 (by decide) (fun jc1 => ?_) (fun jc1 => ?_)
  · have hf := ite_f jc1 hf
    refine lv_iload_n hx hb dX8_addItem_23 rfl (lv_at hl 1 rfl) ?_
    refine lv_iconst (v := 4) hx hb dX8_addItem_24 (by decide) ?_
    refine lv_icmp_ne (tgt := 36) hx hb dX8_addItem_25 (by decide) (fun jc2 => ?_) (fun jc2 => ?_)
    · have hf := ite_f jc2 hf
      refine lv_aload_n hx hb dX8_addItem_36 rfl (lv_at hl 0 rfl) ?_
      refine va_get (D := D) (ci := 8) (v := .int v_t_copies) (C := RX8) (T := TX8) (N := 7) hx hb hts iX8_addItem_X8 hown hK.1 hP 0 rfl rfl 3 (by decide) (hts _ mX8_addItem_4) (fun _ h9 => h9) rfl dX8_addItem_37 ?_
      refine lv_bipush (v := 6) hx hb dX8_addItem_40 (by decide) ?_
      refine lv_icmp_ge (tgt := 85) hx hb dX8_addItem_42 (by decide) (fun jc3 => ?_) (fun jc3 => ?_)
      · have hf := ite_t jc3 hf
        obtain ⟨rfl, rfl, rfl, rfl, rfl, rfl⟩ := pr6_inv hf
        exact retMv hx hb hr hlk hP hD hS dX8_addItem_85
      · have hf := ite_f jc3 hf
        refine lv_aload_n hx hb dX8_addItem_45 rfl (lv_at hl 0 rfl) ?_
        refine va_get (D := D) (ci := 8) (v := .ref a_t_votes) (C := RX8) (T := TX8) (N := 7) hx hb hts iX8_addItem_X8 hown hK.1 hP 0 rfl rfl 1 (by decide) (hts _ mX8_addItem_5) (fun _ h9 => h9) rfl dX8_addItem_46 ?_
        refine lv_aload_n hx hb dX8_addItem_49 rfl (lv_at hl 0 rfl) ?_
        refine va_get (D := D) (ci := 8) (v := .int v_t_copies) (C := RX8) (T := TX8) (N := 7) hx hb hts iX8_addItem_X8 hown hK.1 hP 0 rfl rfl 3 (by decide) (hts _ mX8_addItem_4) (fun _ h9 => h9) rfl dX8_addItem_50 ?_
        refine lv_iload_n hx hb dX8_addItem_53 rfl (lv_at hl 2 rfl) ?_
        obtain ⟨jh4, hf⟩ := ckI_inv hf
        refine va_iast hx hb hK.1 hP hD hS 1 0 rfl rfl jh4 dX8_addItem_54 (fun H locs hP hD hS => ?_)
        have hP : va_P D vwCl [(a_t, .inr (8, [.ref a_t_tokens, .ref a_t_votes, .int v_t_witnesses, .int v_t_copies, .int v_t_read, .int v_t_write, .int (v_t_items + (1 : Int32))])), (a_t_votes, .inl (cI, 6, .inl (upd v_t_votes (Int32.toNatClampNeg v_t_copies) jx2)))] H := hP
        have hD : va_D A [(a_t, .inr (8, [.ref a_t_tokens, .ref a_t_votes, .int v_t_witnesses, .int v_t_copies, .int v_t_read, .int v_t_write, .int (v_t_items + (1 : Int32))])), (a_t_votes, .inl (cI, 6, .inl (upd v_t_votes (Int32.toNatClampNeg v_t_copies) jx2)))] := hD
        refine lv_iload_n hx hb dX8_addItem_55 rfl (lv_at hl 1 rfl) ?_
        refine lv_iconst (v := 2) hx hb dX8_addItem_56 (by decide) ?_
        refine lv_icmp_ne (tgt := 75) hx hb dX8_addItem_57 (by decide) (fun jc5 => ?_) (fun jc5 => ?_)
        · have hf := ite_f jc5 hf
          refine lv_aload_n hx hb dX8_addItem_75 rfl (lv_at hl 0 rfl) ?_
          refine lv_dup hx hb dX8_addItem_76 rfl ?_
          refine va_get (D := D) (ci := 8) (v := .int v_t_copies) (C := RX8) (T := TX8) (N := 7) hx hb hts iX8_addItem_X8 hown hK.1 hP 0 rfl rfl 3 (by decide) (hts _ mX8_addItem_4) (fun _ h9 => h9) rfl dX8_addItem_77 ?_
          refine lv_iconst (v := 1) hx hb dX8_addItem_80 (by decide) ?_
          refine lv_iadd hx hb dX8_addItem_81 ?_
          refine va_put (D := D) (ci := 8) (v := .int (v_t_copies + (1 : Int32))) (ty := .int) (C := RX8) (T := TX8) (N := 7) hx hb hts iX8_addItem_X8 tyX8 tyX8_ok nmX8 hown hK.1 hP hD hS 0 rfl rfl 3 (by decide) (hts _ mX8_addItem_4) (fun _ h9 => h9) rfl (tyX8_ok 3 (by decide)) rfl rfl (Nat.le_of_ble_eq_true rfl) dX8_addItem_82 (fun H locs hP hD hS => ?_)
          have hP : va_P D vwCl [(a_t, .inr (8, [.ref a_t_tokens, .ref a_t_votes, .int v_t_witnesses, .int (v_t_copies + (1 : Int32)), .int v_t_read, .int v_t_write, .int (v_t_items + (1 : Int32))])), (a_t_votes, .inl (cI, 6, .inl (upd v_t_votes (Int32.toNatClampNeg v_t_copies) jx2)))] H := hP
          have hD : va_D A [(a_t, .inr (8, [.ref a_t_tokens, .ref a_t_votes, .int v_t_witnesses, .int (v_t_copies + (1 : Int32)), .int v_t_read, .int v_t_write, .int (v_t_items + (1 : Int32))])), (a_t_votes, .inl (cI, 6, .inl (upd v_t_votes (Int32.toNatClampNeg v_t_copies) jx2)))] := hD
          obtain ⟨rfl, rfl, rfl, rfl, rfl, rfl⟩ := pr6_inv hf
          exact retMv hx hb hr hlk hP hD hS dX8_addItem_85
        · have hf := ite_t jc5 hf
          refine lv_aload_n hx hb dX8_addItem_60 rfl (lv_at hl 0 rfl) ?_
          refine lv_dup hx hb dX8_addItem_61 rfl ?_
          refine va_get (D := D) (ci := 8) (v := .int v_t_witnesses) (C := RX8) (T := TX8) (N := 7) hx hb hts iX8_addItem_X8 hown hK.1 hP 0 rfl rfl 2 (by decide) (hts _ mX8_addItem_6) (fun _ h9 => h9) rfl dX8_addItem_62 ?_
          refine lv_iconst (v := 1) hx hb dX8_addItem_65 (by decide) ?_
          refine lv_aload_n hx hb dX8_addItem_66 rfl (lv_at hl 0 rfl) ?_
          refine va_get (D := D) (ci := 8) (v := .int v_t_copies) (C := RX8) (T := TX8) (N := 7) hx hb hts iX8_addItem_X8 hown hK.1 hP 0 rfl rfl 3 (by decide) (hts _ mX8_addItem_4) (fun _ h9 => h9) rfl dX8_addItem_67 ?_
          refine lv_ishl hx hb dX8_addItem_70 ?_
          refine lv_ior hx hb dX8_addItem_71 ?_
          refine va_put (D := D) (ci := 8) (v := .int (v_t_witnesses ||| ((1 : Int32) <<< (v_t_copies &&& 31)))) (ty := .int) (C := RX8) (T := TX8) (N := 7) hx hb hts iX8_addItem_X8 tyX8 tyX8_ok nmX8 hown hK.1 hP hD hS 0 rfl rfl 2 (by decide) (hts _ mX8_addItem_6) (fun _ h9 => h9) rfl (tyX8_ok 2 (by decide)) rfl rfl (Nat.le_of_ble_eq_true rfl) dX8_addItem_72 (fun H locs hP hD hS => ?_)
          have hP : va_P D vwCl [(a_t, .inr (8, [.ref a_t_tokens, .ref a_t_votes, .int (v_t_witnesses ||| ((1 : Int32) <<< (v_t_copies &&& 31))), .int v_t_copies, .int v_t_read, .int v_t_write, .int (v_t_items + (1 : Int32))])), (a_t_votes, .inl (cI, 6, .inl (upd v_t_votes (Int32.toNatClampNeg v_t_copies) jx2)))] H := hP
          have hD : va_D A [(a_t, .inr (8, [.ref a_t_tokens, .ref a_t_votes, .int (v_t_witnesses ||| ((1 : Int32) <<< (v_t_copies &&& 31))), .int v_t_copies, .int v_t_read, .int v_t_write, .int (v_t_items + (1 : Int32))])), (a_t_votes, .inl (cI, 6, .inl (upd v_t_votes (Int32.toNatClampNeg v_t_copies) jx2)))] := hD
          refine lv_aload_n hx hb dX8_addItem_75 rfl (lv_at hl 0 rfl) ?_
          refine lv_dup hx hb dX8_addItem_76 rfl ?_
          refine va_get (D := D) (ci := 8) (v := .int v_t_copies) (C := RX8) (T := TX8) (N := 7) hx hb hts iX8_addItem_X8 hown hK.1 hP 0 rfl rfl 3 (by decide) (hts _ mX8_addItem_4) (fun _ h9 => h9) rfl dX8_addItem_77 ?_
          refine lv_iconst (v := 1) hx hb dX8_addItem_80 (by decide) ?_
          refine lv_iadd hx hb dX8_addItem_81 ?_
          refine va_put (D := D) (ci := 8) (v := .int (v_t_copies + (1 : Int32))) (ty := .int) (C := RX8) (T := TX8) (N := 7) hx hb hts iX8_addItem_X8 tyX8 tyX8_ok nmX8 hown hK.1 hP hD hS 0 rfl rfl 3 (by decide) (hts _ mX8_addItem_4) (fun _ h9 => h9) rfl (tyX8_ok 3 (by decide)) rfl rfl (Nat.le_of_ble_eq_true rfl) dX8_addItem_82 (fun H locs hP hD hS => ?_)
          have hP : va_P D vwCl [(a_t, .inr (8, [.ref a_t_tokens, .ref a_t_votes, .int (v_t_witnesses ||| ((1 : Int32) <<< (v_t_copies &&& 31))), .int (v_t_copies + (1 : Int32)), .int v_t_read, .int v_t_write, .int (v_t_items + (1 : Int32))])), (a_t_votes, .inl (cI, 6, .inl (upd v_t_votes (Int32.toNatClampNeg v_t_copies) jx2)))] H := hP
          have hD : va_D A [(a_t, .inr (8, [.ref a_t_tokens, .ref a_t_votes, .int (v_t_witnesses ||| ((1 : Int32) <<< (v_t_copies &&& 31))), .int (v_t_copies + (1 : Int32)), .int v_t_read, .int v_t_write, .int (v_t_items + (1 : Int32))])), (a_t_votes, .inl (cI, 6, .inl (upd v_t_votes (Int32.toNatClampNeg v_t_copies) jx2)))] := hD
          obtain ⟨rfl, rfl, rfl, rfl, rfl, rfl⟩ := pr6_inv hf
          exact retMv hx hb hr hlk hP hD hS dX8_addItem_85
    · have hf := ite_t jc2 hf
      refine lv_aload_n hx hb dX8_addItem_28 rfl (lv_at hl 0 rfl) ?_
      refine lv_iload_n hx hb dX8_addItem_29 rfl (lv_at hl 2 rfl) ?_
      refine va_put (D := D) (ci := 8) (v := .int jx2) (ty := .int) (C := RX8) (T := TX8) (N := 7) hx hb hts iX8_addItem_X8 tyX8 tyX8_ok nmX8 hown hK.1 hP hD hS 0 rfl rfl 5 (by decide) (hts _ mX8_addItem_3) (fun _ h9 => h9) rfl (tyX8_ok 5 (by decide)) rfl rfl (Nat.le_of_ble_eq_true rfl) dX8_addItem_30 (fun H locs hP hD hS => ?_)
      have hP : va_P D vwCl [(a_t, .inr (8, [.ref a_t_tokens, .ref a_t_votes, .int v_t_witnesses, .int v_t_copies, .int v_t_read, .int jx2, .int (v_t_items + (1 : Int32))])), (a_t_votes, .inl (cI, 6, .inl v_t_votes))] H := hP
      have hD : va_D A [(a_t, .inr (8, [.ref a_t_tokens, .ref a_t_votes, .int v_t_witnesses, .int v_t_copies, .int v_t_read, .int jx2, .int (v_t_items + (1 : Int32))])), (a_t_votes, .inl (cI, 6, .inl v_t_votes))] := hD
      refine lv_goto (tgt := 85) hx hb dX8_addItem_33 (by decide) ?_
      obtain ⟨rfl, rfl, rfl, rfl, rfl, rfl⟩ := pr6_inv hf
      exact retMv hx hb hr hlk hP hD hS dX8_addItem_85
  · have hf := ite_t jc1 hf
    refine lv_aload_n hx hb dX8_addItem_15 rfl (lv_at hl 0 rfl) ?_
    refine lv_iload_n hx hb dX8_addItem_16 rfl (lv_at hl 2 rfl) ?_
    refine va_put (D := D) (ci := 8) (v := .int jx2) (ty := .int) (C := RX8) (T := TX8) (N := 7) hx hb hts iX8_addItem_X8 tyX8 tyX8_ok nmX8 hown hK.1 hP hD hS 0 rfl rfl 4 (by decide) (hts _ mX8_addItem_2) (fun _ h9 => h9) rfl (tyX8_ok 4 (by decide)) rfl rfl (Nat.le_of_ble_eq_true rfl) dX8_addItem_17 (fun H locs hP hD hS => ?_)
    have hP : va_P D vwCl [(a_t, .inr (8, [.ref a_t_tokens, .ref a_t_votes, .int v_t_witnesses, .int v_t_copies, .int jx2, .int v_t_write, .int (v_t_items + (1 : Int32))])), (a_t_votes, .inl (cI, 6, .inl v_t_votes))] H := hP
    have hD : va_D A [(a_t, .inr (8, [.ref a_t_tokens, .ref a_t_votes, .int v_t_witnesses, .int v_t_copies, .int jx2, .int v_t_write, .int (v_t_items + (1 : Int32))])), (a_t_votes, .inl (cI, 6, .inl v_t_votes))] := hD
    refine lv_goto (tgt := 85) hx hb dX8_addItem_20 (by decide) ?_
    obtain ⟨rfl, rfl, rfl, rfl, rfl, rfl⟩ := pr6_inv hf
    exact retMv hx hb hr hlk hP hD hS dX8_addItem_85
def fX8_takeItem (v_t_witnesses : Int32) (v_t_copies : Int32) (v_t_read : Int32) (v_t_write : Int32) (v_t_items : Int32) (v_t_tokens_kind : Int32) (v_t_tokens_start : Int32) (v_t_tokens_number : Int32) (v_t_tokens_behind : Int32) (v_t_tokens_text_length : Int32) (v_t_tokens_text_letters : (Nat → Int32)) (v_t_votes : (Nat → Int32)) : Option (Int32 × Int32 × Int32 × Int32 × Int32 × Int32 × Int32 × Int32 × Int32 × Int32 × (Nat → Int32)) := bd1 (fX8_mayBegin v_t_tokens_kind v_t_copies v_t_read v_t_write) (fun jr1 => if jr1 = 0 then some ((0 : Int32), v_t_witnesses, v_t_copies, v_t_read, v_t_write, v_t_items, v_t_tokens_kind, v_t_tokens_start, v_t_tokens_number, v_t_tokens_behind, v_t_votes) else bd4 (fX9_advance v_t_tokens_kind v_t_tokens_start v_t_tokens_number v_t_tokens_behind v_t_tokens_text_length v_t_tokens_text_letters) (fun jg4 jg5 jg6 jg7 => if jg4 = (5 : Int32) then bd1 (fX8_mayFollow v_t_tokens_kind jg6) (fun jr10 => if jr10 = 0 then some ((0 : Int32), v_t_witnesses, v_t_copies, v_t_read, v_t_write, v_t_items, jg4, jg5, jg6, jg7, v_t_votes) else bd4 (fX9_advance jg4 jg5 jg6 jg7 v_t_tokens_text_length v_t_tokens_text_letters) (fun jg13 jg14 jg15 jg16 => if jg13 = (6 : Int32) then bd6 (fX8_addItem v_t_tokens_kind jg6 v_t_witnesses v_t_copies v_t_read v_t_write v_t_items v_t_votes) (fun jg19 jg20 jg21 jg22 jg23 jg24 => some ((1 : Int32), jg19, jg20, jg21, jg22, jg23, jg13, jg14, jg15, jg16, jg24)) else some ((0 : Int32), v_t_witnesses, v_t_copies, v_t_read, v_t_write, v_t_items, jg13, jg14, jg15, jg16, v_t_votes))) else some ((0 : Int32), v_t_witnesses, v_t_copies, v_t_read, v_t_write, v_t_items, jg4, jg5, jg6, jg7, v_t_votes)))
abbrev rmX8_takeItem : Room := { frames := 7, cells := 0, slots := 0, locals := 147 }
theorem iX8_takeItem_X8 : ∀ w ∈ wsX80, w ∈ wsX8_takeItem := fun _ h => List.mem_cons_of_mem _ (List.mem_append_left _ (List.mem_append_left _ (List.mem_append_right _ h)))
theorem mX8_takeItem_1 : (Cond.fieldLink RX8 36 "VoteFiles$Telling" "tokens" "LVoteFiles$Tokens;") ∈ wsX8_takeItem := List.mem_of_getElem? (i := 1) rfl
theorem iX8_takeItem_X9 : ∀ w ∈ wsX90, w ∈ wsX8_takeItem := fun _ h => List.mem_cons_of_mem _ (List.mem_append_left _ (List.mem_append_right _ h))
theorem mX8_takeItem_2 : (Cond.fieldLink RX8 46 "VoteFiles$Tokens" "kind" "I") ∈ wsX8_takeItem := List.mem_of_getElem? (i := 2) rfl
theorem mX8_takeItem_3 : (Cond.fieldLink RX8 63 "VoteFiles$Tokens" "number" "I") ∈ wsX8_takeItem := List.mem_of_getElem? (i := 3) rfl
theorem hdX8_takeItem : yX8_takeItem.cls ≠ "java/lang/invoke/MethodHandle" ∧ yX8_takeItem.cls ≠ "java/lang/invoke/VarHandle" ∧ (parseMethodDescriptor yX8_takeItem.desc).map (fun d => d.parameters.length) = some 0 := by decide +kernel
set_option maxHeartbeats 4000000 in
set_option maxRecDepth 100000 in
theorem ctX8_takeItem (l : Launch) (D : va_G) (cI cZ : ClassId) (sz0 : Nat) (ad av : Nat → Nat) (a_t a_t_tokens a_t_votes a_t_tokens_text a_t_tokens_text_letters : Nat) (z_t : sz0 ≤ a_t) (z_t_tokens : sz0 ≤ a_t_tokens) (z_t_tokens_text : sz0 ≤ a_t_tokens_text) (z_t_tokens_text_letters : sz0 ≤ a_t_tokens_text_letters) (z_t_votes : sz0 ≤ a_t_votes) (v_t_witnesses : Int32) (v_t_copies : Int32) (v_t_read : Int32) (v_t_write : Int32) (v_t_items : Int32) (v_t_tokens_kind : Int32) (v_t_tokens_start : Int32) (v_t_tokens_number : Int32) (v_t_tokens_behind : Int32) (v_t_tokens_text_length : Int32) (v_t_tokens_text_letters : (Nat → Int32)) (v_t_votes : (Nat → Int32)) (r : Int32) (o_t_witnesses : Int32) (o_t_copies : Int32) (o_t_read : Int32) (o_t_write : Int32) (o_t_items : Int32) (o_t_tokens_kind : Int32) (o_t_tokens_start : Int32) (o_t_tokens_number : Int32) (o_t_tokens_behind : Int32) (o_t_votes : (Nat → Int32)) (hf : fX8_takeItem v_t_witnesses v_t_copies v_t_read v_t_write v_t_items v_t_tokens_kind v_t_tokens_start v_t_tokens_number v_t_tokens_behind v_t_tokens_text_length v_t_tokens_text_letters v_t_votes = some (r, o_t_witnesses, o_t_copies, o_t_read, o_t_write, o_t_items, o_t_tokens_kind, o_t_tokens_start, o_t_tokens_number, o_t_tokens_behind, o_t_votes)) : cM l yX8_takeItem wsX8_takeItem rmX8_takeItem [.ref a_t] D [(a_t, .inr (8, [.ref a_t_tokens, .ref a_t_votes, .int v_t_witnesses, .int v_t_copies, .int v_t_read, .int v_t_write, .int v_t_items])), (a_t_tokens, .inr (9, [.ref a_t_tokens_text, .int v_t_tokens_kind, .int v_t_tokens_start, .int v_t_tokens_number, .int v_t_tokens_behind])), (a_t_tokens_text, .inr (2, [.ref a_t_tokens_text_letters, .int v_t_tokens_text_length])), (a_t_tokens_text_letters, .inl (cI, 120, .inl v_t_tokens_text_letters)), (a_t_votes, .inl (cI, 6, .inl v_t_votes))] [(a_t, .inr (8, [.ref a_t_tokens, .ref a_t_votes, .int o_t_witnesses, .int o_t_copies, .int o_t_read, .int o_t_write, .int o_t_items])), (a_t_tokens, .inr (9, [.ref a_t_tokens_text, .int o_t_tokens_kind, .int o_t_tokens_start, .int o_t_tokens_number, .int o_t_tokens_behind])), (a_t_tokens_text, .inr (2, [.ref a_t_tokens_text_letters, .int v_t_tokens_text_length])), (a_t_tokens_text_letters, .inl (cI, 120, .inl v_t_tokens_text_letters)), (a_t_votes, .inl (cI, 6, .inl o_t_votes))] (XT D cI cZ sz0 ad av) (some (.int r)) := by
  refine cM_ofZ (cc := cX8_takeItem) (maxL := 3) (ret := some .boolean) (by decide +kernel) rfl _ (Nat.le_of_ble_eq_true rfl) (zc_cons z_t (zc_cons z_t_tokens (zc_cons z_t_tokens_text (zc_cons z_t_tokens_text_letters (zc_cons z_t_votes zc_nil))))) (fun U h => h.2.1) ?_
  intro p e s m below meth c ls A S hr hlk hP hT hl hD hA hZ hS
  have hK := hT.1
  obtain ⟨hx, hb, hml, hown, hts⟩ := id S
  have hl : lv_has ls 3 [(0, .ref a_t)] := hl
  unfold fX8_takeItem at hf
  refine lv_aload_n hx hb dX8_takeItem_0 rfl (lv_at hl 0 rfl) ?_
  refine va_get (D := D) (ci := 8) (v := .ref a_t_tokens) (C := RX8) (T := TX8) (N := 7) hx hb hts iX8_takeItem_X8 hown hK.1 hP 0 rfl rfl 0 (by decide) (hts _ mX8_takeItem_1) (fun _ h9 => h9) rfl dX8_takeItem_1 ?_
  refine va_get (D := D) (ci := 9) (v := .int v_t_tokens_kind) (C := RX9) (T := TX9) (N := 5) hx hb hts iX8_takeItem_X9 hown hK.1 hP 1 rfl rfl 1 (by decide) (hts _ mX8_takeItem_2) (fun _ h9 => h9) rfl dX8_takeItem_4 ?_
  refine lv_istore_n (lv' := [(1, .int v_t_tokens_kind), (0, .ref a_t)]) hx hb dX8_takeItem_7 rfl hl (by decide) rfl (fun ls hl => ?_)
  refine lv_aload_n hx hb dX8_takeItem_8 rfl (lv_at hl 1 rfl) ?_
  refine lv_iload_n hx hb dX8_takeItem_9 rfl (lv_at hl 0 rfl) ?_
  obtain ⟨jr1, je2, hf⟩ := bd1_inv hf
  refine callRV (As := [.int v_t_tokens_kind]) (rest := []) S (ctX8_mayBegin l D cI cZ a_t a_t_tokens a_t_votes v_t_tokens_kind v_t_copies v_t_read v_t_write v_t_witnesses v_t_items jr1 je2) (cwV 1 hts gX8_takeItem_X8_mayBegin rfl rfl rfl ⟨rfl, hdX8_mayBegin⟩ ⟨Nat.le_of_ble_eq_true rfl, Nat.le_of_ble_eq_true rfl⟩) hP [0] rfl KX.xs (fun U _ hW => hK.warm hW) (va_recv hK.1 hP (ci := 8) (q0 := 0) rfl rfl) rfl hl.1 rfl (Nat.le_of_ble_eq_true rfl) dX8_takeItem_10 ⟨Nat.zero_le _, Nat.zero_le _⟩ ?_
  refine lv_if_ne (tgt := 18) hx hb dX8_takeItem_13 (by decide) (fun jc3 => ?_) (fun jc3 => ?_)
  · have hf := ite_f jc3 hf
    refine lv_aload_n hx hb dX8_takeItem_18 rfl (lv_at hl 1 rfl) ?_
    refine va_get (D := D) (ci := 8) (v := .ref a_t_tokens) (C := RX8) (T := TX8) (N := 7) hx hb hts iX8_takeItem_X8 hown hK.1 hP 0 rfl rfl 0 (by decide) (hts _ mX8_takeItem_1) (fun _ h9 => h9) rfl dX8_takeItem_19 ?_
    obtain ⟨jg4, jg5, jg6, jg7, je8, hf⟩ := bd4_inv hf
    refine callMV (As := []) (rest := []) (wr := [(a_t, .inr (8, [.ref a_t_tokens, .ref a_t_votes, .int v_t_witnesses, .int v_t_copies, .int v_t_read, .int v_t_write, .int v_t_items])), (a_t_votes, .inl (cI, 6, .inl v_t_votes))]) (wn := [(a_t, .inr (8, [.ref a_t_tokens, .ref a_t_votes, .int v_t_witnesses, .int v_t_copies, .int v_t_read, .int v_t_write, .int v_t_items])), (a_t_tokens, .inr (9, [.ref a_t_tokens_text, .int jg4, .int jg5, .int jg6, .int jg7])), (a_t_tokens_text, .inr (2, [.ref a_t_tokens_text_letters, .int v_t_tokens_text_length])), (a_t_tokens_text_letters, .inl (cI, 120, .inl v_t_tokens_text_letters)), (a_t_votes, .inl (cI, 6, .inl v_t_votes))]) S (ctX9_advance l D cI cZ sz0 ad av a_t_tokens a_t_tokens_text a_t_tokens_text_letters z_t_tokens z_t_tokens_text z_t_tokens_text_letters v_t_tokens_kind v_t_tokens_start v_t_tokens_number v_t_tokens_behind v_t_tokens_text_length v_t_tokens_text_letters jg4 jg5 jg6 jg7 je8) (cwV 0 hts gX8_takeItem_X9_advance rfl rfl rfl ⟨rfl, hdX9_advance⟩ ⟨Nat.le_of_ble_eq_true rfl, Nat.le_of_ble_eq_true rfl⟩) hP hD hS hA [1, 2, 3] [0, 4] [0, 2, 3, 4, 1] rfl rfl (by decide) (by decide) (by decide) (by decide) rfl XT.xs (hT.at hS hZ) (va_recv hK.1 hP (ci := 9) (q0 := 1) rfl rfl) rfl hl.1 rfl (Nat.le_of_ble_eq_true rfl) dX8_takeItem_22 ⟨Nat.zero_le _, Nat.zero_le _⟩ (fun H locs hP hD hS => ?_)
    refine W.eq (g2 := F0 m 25 ls []) rfl ?_
    refine lv_aload_n hx hb dX8_takeItem_25 rfl (lv_at hl 1 rfl) ?_
    refine va_get (D := D) (ci := 8) (v := .ref a_t_tokens) (C := RX8) (T := TX8) (N := 7) hx hb hts iX8_takeItem_X8 hown hK.1 hP 0 rfl rfl 0 (by decide) (hts _ mX8_takeItem_1) (fun _ h9 => h9) rfl dX8_takeItem_26 ?_
    refine va_get (D := D) (ci := 9) (v := .int jg4) (C := RX9) (T := TX9) (N := 5) hx hb hts iX8_takeItem_X9 hown hK.1 hP 1 rfl rfl 1 (by decide) (hts _ mX8_takeItem_2) (fun _ h9 => h9) rfl dX8_takeItem_29 ?_
    refine lv_iconst (v := 5) hx hb dX8_takeItem_32 (by decide) ?_
    refine lv_icmp_ne (tgt := 50) hx hb dX8_takeItem_33 (by decide) (fun jc9 => ?_) (fun jc9 => ?_)
    · have hf := ite_f jc9 hf
      refine lv_iconst (v := 0) hx hb dX8_takeItem_50 (by decide) ?_
      obtain ⟨rfl, rfl, rfl, rfl, rfl, rfl, rfl, rfl, rfl, rfl, rfl⟩ := pr11_inv hf
      exact retMz hx hb hr hlk (by decide) hP hD hS dX8_takeItem_51
    · have hf := ite_t jc9 hf
      refine lv_iload_n hx hb dX8_takeItem_36 rfl (lv_at hl 0 rfl) ?_
      refine lv_aload_n hx hb dX8_takeItem_37 rfl (lv_at hl 1 rfl) ?_
      refine va_get (D := D) (ci := 8) (v := .ref a_t_tokens) (C := RX8) (T := TX8) (N := 7) hx hb hts iX8_takeItem_X8 hown hK.1 hP 0 rfl rfl 0 (by decide) (hts _ mX8_takeItem_1) (fun _ h9 => h9) rfl dX8_takeItem_38 ?_
      refine va_get (D := D) (ci := 9) (v := .int jg6) (C := RX9) (T := TX9) (N := 5) hx hb hts iX8_takeItem_X9 hown hK.1 hP 1 rfl rfl 3 (by decide) (hts _ mX8_takeItem_3) (fun _ h9 => h9) rfl dX8_takeItem_41 ?_
      obtain ⟨jr10, je11, hf⟩ := bd1_inv hf
      refine callRS (As := [.int v_t_tokens_kind, .int jg6]) (rest := []) S (ctX8_mayFollow l D cI cZ v_t_tokens_kind jg6 jr10 je11) (va_cwS 2 hts gX8_takeItem_X8_mayFollow rfl rfl rfl hdX8_mayFollow ⟨Nat.le_of_ble_eq_true rfl, Nat.le_of_ble_eq_true rfl⟩) hP [] rfl KX.xs (fun U _ hW => hK.warm hW) rfl hl.1 rfl (Nat.le_of_ble_eq_true rfl) dX8_takeItem_44 ⟨Nat.zero_le _, Nat.zero_le _⟩ ?_
      refine lv_if_ne (tgt := 52) hx hb dX8_takeItem_47 (by decide) (fun jc12 => ?_) (fun jc12 => ?_)
      · have hf := ite_f jc12 hf
        refine lv_aload_n hx hb dX8_takeItem_52 rfl (lv_at hl 1 rfl) ?_
        refine va_get (D := D) (ci := 8) (v := .ref a_t_tokens) (C := RX8) (T := TX8) (N := 7) hx hb hts iX8_takeItem_X8 hown hK.1 hP 0 rfl rfl 0 (by decide) (hts _ mX8_takeItem_1) (fun _ h9 => h9) rfl dX8_takeItem_53 ?_
        refine va_get (D := D) (ci := 9) (v := .int jg6) (C := RX9) (T := TX9) (N := 5) hx hb hts iX8_takeItem_X9 hown hK.1 hP 1 rfl rfl 3 (by decide) (hts _ mX8_takeItem_3) (fun _ h9 => h9) rfl dX8_takeItem_56 ?_
        refine lv_istore_n (lv' := [(2, .int jg6), (1, .int v_t_tokens_kind), (0, .ref a_t)]) hx hb dX8_takeItem_59 rfl hl (by decide) rfl (fun ls hl => ?_)
        refine lv_aload_n hx hb dX8_takeItem_60 rfl (lv_at hl 2 rfl) ?_
        refine va_get (D := D) (ci := 8) (v := .ref a_t_tokens) (C := RX8) (T := TX8) (N := 7) hx hb hts iX8_takeItem_X8 hown hK.1 hP 0 rfl rfl 0 (by decide) (hts _ mX8_takeItem_1) (fun _ h9 => h9) rfl dX8_takeItem_61 ?_
        obtain ⟨jg13, jg14, jg15, jg16, je17, hf⟩ := bd4_inv hf
        refine callMV (As := []) (rest := []) (wr := [(a_t, .inr (8, [.ref a_t_tokens, .ref a_t_votes, .int v_t_witnesses, .int v_t_copies, .int v_t_read, .int v_t_write, .int v_t_items])), (a_t_votes, .inl (cI, 6, .inl v_t_votes))]) (wn := [(a_t, .inr (8, [.ref a_t_tokens, .ref a_t_votes, .int v_t_witnesses, .int v_t_copies, .int v_t_read, .int v_t_write, .int v_t_items])), (a_t_tokens, .inr (9, [.ref a_t_tokens_text, .int jg13, .int jg14, .int jg15, .int jg16])), (a_t_tokens_text, .inr (2, [.ref a_t_tokens_text_letters, .int v_t_tokens_text_length])), (a_t_tokens_text_letters, .inl (cI, 120, .inl v_t_tokens_text_letters)), (a_t_votes, .inl (cI, 6, .inl v_t_votes))]) S (ctX9_advance l D cI cZ sz0 ad av a_t_tokens a_t_tokens_text a_t_tokens_text_letters z_t_tokens z_t_tokens_text z_t_tokens_text_letters jg4 jg5 jg6 jg7 v_t_tokens_text_length v_t_tokens_text_letters jg13 jg14 jg15 jg16 je17) (cwV 0 hts gX8_takeItem_X9_advance rfl rfl rfl ⟨rfl, hdX9_advance⟩ ⟨Nat.le_of_ble_eq_true rfl, Nat.le_of_ble_eq_true rfl⟩) hP hD hS hA [1, 2, 3] [0, 4] [0, 2, 3, 4, 1] rfl rfl (by decide) (by decide) (by decide) (by decide) rfl XT.xs (hT.at hS hZ) (va_recv hK.1 hP (ci := 9) (q0 := 1) rfl rfl) rfl hl.1 rfl (Nat.le_of_ble_eq_true rfl) dX8_takeItem_64 ⟨Nat.zero_le _, Nat.zero_le _⟩ (fun H locs hP hD hS => ?_)
        refine W.eq (g2 := F0 m 67 ls []) rfl ?_
        refine lv_aload_n hx hb dX8_takeItem_67 rfl (lv_at hl 2 rfl) ?_
        refine va_get (D := D) (ci := 8) (v := .ref a_t_tokens) (C := RX8) (T := TX8) (N := 7) hx hb hts iX8_takeItem_X8 hown hK.1 hP 0 rfl rfl 0 (by decide) (hts _ mX8_takeItem_1) (fun _ h9 => h9) rfl dX8_takeItem_68 ?_
        refine va_get (D := D) (ci := 9) (v := .int jg13) (C := RX9) (T := TX9) (N := 5) hx hb hts iX8_takeItem_X9 hown hK.1 hP 1 rfl rfl 1 (by decide) (hts _ mX8_takeItem_2) (fun _ h9 => h9) rfl dX8_takeItem_71 ?_
        refine lv_bipush (v := 6) hx hb dX8_takeItem_74 (by decide) ?_
        refine lv_icmp_eq (tgt := 81) hx hb dX8_takeItem_76 (by decide) (fun jc18 => ?_) (fun jc18 => ?_)
        · have hf := ite_t jc18 hf
          refine lv_aload_n hx hb dX8_takeItem_81 rfl (lv_at hl 2 rfl) ?_
          refine lv_iload_n hx hb dX8_takeItem_82 rfl (lv_at hl 1 rfl) ?_
          refine lv_iload_n hx hb dX8_takeItem_83 rfl (lv_at hl 0 rfl) ?_
          obtain ⟨jg19, jg20, jg21, jg22, jg23, jg24, je25, hf⟩ := bd6_inv hf
          refine callMV (As := [.int v_t_tokens_kind, .int jg6]) (rest := []) (wr := [(a_t_tokens, .inr (9, [.ref a_t_tokens_text, .int jg13, .int jg14, .int jg15, .int jg16])), (a_t_tokens_text, .inr (2, [.ref a_t_tokens_text_letters, .int v_t_tokens_text_length])), (a_t_tokens_text_letters, .inl (cI, 120, .inl v_t_tokens_text_letters))]) (wn := [(a_t, .inr (8, [.ref a_t_tokens, .ref a_t_votes, .int jg19, .int jg20, .int jg21, .int jg22, .int jg23])), (a_t_tokens, .inr (9, [.ref a_t_tokens_text, .int jg13, .int jg14, .int jg15, .int jg16])), (a_t_tokens_text, .inr (2, [.ref a_t_tokens_text_letters, .int v_t_tokens_text_length])), (a_t_tokens_text_letters, .inl (cI, 120, .inl v_t_tokens_text_letters)), (a_t_votes, .inl (cI, 6, .inl jg24))]) S (ctX8_addItem l D cI cZ a_t a_t_tokens a_t_votes v_t_tokens_kind jg6 v_t_witnesses v_t_copies v_t_read v_t_write v_t_items v_t_votes jg19 jg20 jg21 jg22 jg23 jg24 je25) (cwV 2 hts gX8_takeItem_X8_addItem rfl rfl rfl ⟨rfl, hdX8_addItem⟩ ⟨Nat.le_of_ble_eq_true rfl, Nat.le_of_ble_eq_true rfl⟩) hP hD hS hA [0, 4] [1, 2, 3] [3, 0, 1, 2, 4] rfl rfl (by decide) (by decide) (by decide) (by decide) rfl KX.xs (fun U _ hW => hK.warm hW) (va_recv hK.1 hP (ci := 8) (q0 := 0) rfl rfl) rfl hl.1 rfl (Nat.le_of_ble_eq_true rfl) dX8_takeItem_84 ⟨Nat.zero_le _, Nat.zero_le _⟩ (fun H locs hP hD hS => ?_)
          refine W.eq (g2 := F0 m 87 ls []) rfl ?_
          refine lv_iconst (v := 1) hx hb dX8_takeItem_87 (by decide) ?_
          obtain ⟨rfl, rfl, rfl, rfl, rfl, rfl, rfl, rfl, rfl, rfl, rfl⟩ := pr11_inv hf
          exact retMz hx hb hr hlk (by decide) hP hD hS dX8_takeItem_88
        · have hf := ite_f jc18 hf
          refine lv_iconst (v := 0) hx hb dX8_takeItem_79 (by decide) ?_
          obtain ⟨rfl, rfl, rfl, rfl, rfl, rfl, rfl, rfl, rfl, rfl, rfl⟩ := pr11_inv hf
          exact retMz hx hb hr hlk (by decide) hP hD hS dX8_takeItem_80
      · have hf := ite_t jc12 hf
        refine lv_iconst (v := 0) hx hb dX8_takeItem_50 (by decide) ?_
        obtain ⟨rfl, rfl, rfl, rfl, rfl, rfl, rfl, rfl, rfl, rfl, rfl⟩ := pr11_inv hf
        exact retMz hx hb hr hlk (by decide) hP hD hS dX8_takeItem_51
  · have hf := ite_t jc3 hf
    refine lv_iconst (v := 0) hx hb dX8_takeItem_16 (by decide) ?_
    obtain ⟨rfl, rfl, rfl, rfl, rfl, rfl, rfl, rfl, rfl, rfl, rfl⟩ := pr11_inv hf
    exact retMz hx hb hr hlk (by decide) hP hD hS dX8_takeItem_17
def fX10_isLawful (jx0 : Int32) (jx1 : Int32) (jx2 : Int32) : Option (Int32) := if (jx1 + jx2) ≤ jx0 then some (0 : Int32) else if ((2 : Int32) * jx2) ≤ jx0 then some (0 : Int32) else if jx0 < jx1 then some (0 : Int32) else if jx0 < jx2 then some (0 : Int32) else some (1 : Int32)
abbrev rmX10_isLawful : Room := { frames := 0, cells := 0, slots := 0, locals := 0 }
theorem hdX10_isLawful : yX10_isLawful.cls ≠ "java/lang/invoke/MethodHandle" ∧ yX10_isLawful.cls ≠ "java/lang/invoke/VarHandle" ∧ (parseMethodDescriptor yX10_isLawful.desc).map (fun d => d.parameters.length) = some 3 := by decide +kernel
set_option maxHeartbeats 4000000 in
set_option maxRecDepth 100000 in
theorem ctX10_isLawful (l : Launch) (D : va_G) (cI cZ : ClassId) (jx0 : Int32) (jx1 : Int32) (jx2 : Int32) (r : Int32) (hf : fX10_isLawful jx0 jx1 jx2 = some r) : cR l yX10_isLawful wsX10_isLawful rmX10_isLawful [.int jx0, .int jx1, .int jx2] D [] (KX D cI cZ) r := by
  refine cR_of (cc := cX10_isLawful) (maxL := 3) (ret := some .boolean) (by decide +kernel) rfl _ (Nat.le_of_ble_eq_true rfl) ?_
  intro p e s m below meth c ls S hr hlk hP hK hl
  obtain ⟨hx, hb, hml, hown, hts⟩ := id S
  have hl : lv_has ls 3 [(0, .int jx0), (1, .int jx1), (2, .int jx2)] := hl
  unfold fX10_isLawful at hf
  refine lv_iload_n hx hb dX10_isLawful_0 rfl (lv_at hl 1 rfl) ?_
  refine lv_iload_n hx hb dX10_isLawful_1 rfl (lv_at hl 2 rfl) ?_
  refine lv_iadd hx hb dX10_isLawful_2 ?_
  refine lv_iload_n hx hb dX10_isLawful_3 rfl (lv_at hl 0 rfl) ?_
  refine lv_icmp_le (tgt := 28) hx hb dX10_isLawful_4 (by decide) (fun jc1 => ?_) (fun jc1 => ?_)
  · have hf := ite_t jc1 hf
    refine lv_iconst (v := 0) hx hb dX10_isLawful_28 (by decide) ?_
    obtain rfl := Option.some.inj hf
    exact retRz hx hb hr hlk (by decide) dX10_isLawful_29
  · have hf := ite_f jc1 hf
    refine lv_iconst (v := 2) hx hb dX10_isLawful_7 (by decide) ?_
    refine lv_iload_n hx hb dX10_isLawful_8 rfl (lv_at hl 2 rfl) ?_
    refine lv_imul hx hb dX10_isLawful_9 ?_
    refine lv_iload_n hx hb dX10_isLawful_10 rfl (lv_at hl 0 rfl) ?_
    refine lv_icmp_le (tgt := 28) hx hb dX10_isLawful_11 (by decide) (fun jc2 => ?_) (fun jc2 => ?_)
    · have hf := ite_t jc2 hf
      refine lv_iconst (v := 0) hx hb dX10_isLawful_28 (by decide) ?_
      obtain rfl := Option.some.inj hf
      exact retRz hx hb hr hlk (by decide) dX10_isLawful_29
    · have hf := ite_f jc2 hf
      refine lv_iload_n hx hb dX10_isLawful_14 rfl (lv_at hl 1 rfl) ?_
      refine lv_iload_n hx hb dX10_isLawful_15 rfl (lv_at hl 0 rfl) ?_
      refine lv_icmp_gt (tgt := 28) hx hb dX10_isLawful_16 (by decide) (fun jc3 => ?_) (fun jc3 => ?_)
      · have hf := ite_t jc3 hf
        refine lv_iconst (v := 0) hx hb dX10_isLawful_28 (by decide) ?_
        obtain rfl := Option.some.inj hf
        exact retRz hx hb hr hlk (by decide) dX10_isLawful_29
      · have hf := ite_f jc3 hf
        refine lv_iload_n hx hb dX10_isLawful_19 rfl (lv_at hl 2 rfl) ?_
        refine lv_iload_n hx hb dX10_isLawful_20 rfl (lv_at hl 0 rfl) ?_
        refine lv_icmp_gt (tgt := 28) hx hb dX10_isLawful_21 (by decide) (fun jc4 => ?_) (fun jc4 => ?_)
        · have hf := ite_t jc4 hf
          refine lv_iconst (v := 0) hx hb dX10_isLawful_28 (by decide) ?_
          obtain rfl := Option.some.inj hf
          exact retRz hx hb hr hlk (by decide) dX10_isLawful_29
        · have hf := ite_f jc4 hf
          refine lv_iconst (v := 1) hx hb dX10_isLawful_24 (by decide) ?_
          refine lv_goto (tgt := 29) hx hb dX10_isLawful_25 (by decide) ?_
          obtain rfl := Option.some.inj hf
          exact retRz hx hb hr hlk (by decide) dX10_isLawful_29
def fX8_isRight_23 (v_t_copies : Int32) (v_t_items : Int32) (v_t_votes : (Nat → Int32)) : Nat → Int32 → Int32 → Int32 → Int32 → Option (Int32 × Int32 × Int32)
  | 0, _, _, _, _ => none
  | n + 1, jx1, jx2, v_t_read, v_t_write => if v_t_copies ≤ jx2 then if v_t_read = 0 then some ((0 : Int32), v_t_read, v_t_write) else if v_t_write = 0 then some ((0 : Int32), v_t_read, v_t_write) else bd1 (fX10_isLawful jx1 v_t_read v_t_write) (fun jr4 => if jr4 = 0 then some ((0 : Int32), v_t_read, v_t_write) else some ((1 : Int32), v_t_read, v_t_write)) else ckI 6 jx2 ((fX8_isRight_23 v_t_copies v_t_items v_t_votes n) (jx1 + (v_t_votes (Int32.toNatClampNeg jx2))) (jx2 + (1 : Int32)) v_t_read v_t_write)
theorem fX8_isRight_23_s (v_t_copies : Int32) (v_t_items : Int32) (v_t_votes : (Nat → Int32)) (n : Nat) (jx1 : Int32) (jx2 : Int32) (v_t_read : Int32) (v_t_write : Int32) : fX8_isRight_23 v_t_copies v_t_items v_t_votes (n + 1) jx1 jx2 v_t_read v_t_write = if v_t_copies ≤ jx2 then if v_t_read = 0 then some ((0 : Int32), v_t_read, v_t_write) else if v_t_write = 0 then some ((0 : Int32), v_t_read, v_t_write) else bd1 (fX10_isLawful jx1 v_t_read v_t_write) (fun jr4 => if jr4 = 0 then some ((0 : Int32), v_t_read, v_t_write) else some ((1 : Int32), v_t_read, v_t_write)) else ckI 6 jx2 ((fX8_isRight_23 v_t_copies v_t_items v_t_votes n) (jx1 + (v_t_votes (Int32.toNatClampNeg jx2))) (jx2 + (1 : Int32)) v_t_read v_t_write) := rfl
def fX8_isRight (v_t_copies : Int32) (v_t_read : Int32) (v_t_write : Int32) (v_t_items : Int32) (v_t_votes : (Nat → Int32)) : Option (Int32 × Int32 × Int32) := if v_t_items = 0 then some ((1 : Int32), (1 : Int32), (1 : Int32)) else fX8_isRight_23 v_t_copies v_t_items v_t_votes fuel (0 : Int32) (0 : Int32) v_t_read v_t_write
abbrev rmX8_isRight : Room := { frames := 1, cells := 0, slots := 0, locals := 22 }
theorem iX8_isRight_X8 : ∀ w ∈ wsX80, w ∈ wsX8_isRight := fun _ h => List.mem_cons_of_mem _ (List.mem_append_right _ h)
theorem mX8_isRight_4 : (Cond.fieldLink RX8 19 "VoteFiles$Telling" "copies" "I") ∈ wsX8_isRight := List.mem_of_getElem? (i := 4) rfl
theorem mX8_isRight_2 : (Cond.fieldLink RX8 22 "VoteFiles$Telling" "read" "I") ∈ wsX8_isRight := List.mem_of_getElem? (i := 2) rfl
theorem mX8_isRight_3 : (Cond.fieldLink RX8 25 "VoteFiles$Telling" "write" "I") ∈ wsX8_isRight := List.mem_of_getElem? (i := 3) rfl
theorem mX8_isRight_7 : (Cond.initialized RX10) ∈ wsX8_isRight := List.mem_of_getElem? (i := 7) rfl
theorem mX8_isRight_6 : (Cond.static yX10_isLawful) ∈ wsX8_isRight := List.mem_of_getElem? (i := 6) rfl
theorem mX8_isRight_5 : (Cond.fieldLink RX8 9 "VoteFiles$Telling" "votes" "[I") ∈ wsX8_isRight := List.mem_of_getElem? (i := 5) rfl
theorem mX8_isRight_1 : (Cond.fieldLink RX8 28 "VoteFiles$Telling" "items" "I") ∈ wsX8_isRight := List.mem_of_getElem? (i := 1) rfl
set_option maxHeartbeats 4000000 in
set_option maxRecDepth 100000 in
theorem wX8_isRight_23 {p : Program} {l : Launch} {e : Env} {s : State} {m : MethodId} {args : Array Value} {below : List Frame} {meth : Method} {c : Code} {D : va_G} {cI cZ : ClassId} (S : CallFix p m c cX8_isRight 3 s args wsX8_isRight RX8) (hr : meth.sig.returnType = some .boolean) (hlk : meth.locks = false) (hK : KX D cI cZ s) {a_t a_t_tokens a_t_votes : Nat} {v_t_copies : Int32} {v_t_items : Int32} {v_t_votes : (Nat → Int32)} {v_t_witnesses : Int32} {r : Int32} {o_t_read : Int32} {o_t_write : Int32} {A : Nat → Prop} (hA : ∀ q : Nat, s.heap.size ≤ q → A q) : ∀ (n : Nat), ∀ (jx1 : Int32) (jx2 : Int32) (v_t_read : Int32) (v_t_write : Int32) (ls : Array Slot) (H : Heap) (locs : List Loc), fX8_isRight_23 v_t_copies v_t_items v_t_votes n jx1 jx2 v_t_read v_t_write = some (r, o_t_read, o_t_write) → lv_has ls 3 [(0, .ref a_t), (1, .int jx1), (2, .int jx2)] → va_P D vwCl [(a_t, .inr (8, [.ref a_t_tokens, .ref a_t_votes, .int v_t_witnesses, .int v_t_copies, .int v_t_read, .int v_t_write, .int v_t_items])), (a_t_votes, .inl (cI, 6, .inl v_t_votes))] H → va_D A [(a_t, .inr (8, [.ref a_t_tokens, .ref a_t_votes, .int v_t_witnesses, .int v_t_copies, .int v_t_read, .int v_t_write, .int v_t_items])), (a_t_votes, .inl (cI, 6, .inl v_t_votes))] → va_S A s.heap H locs → W p l e rmX8_isRight s m args below meth c H locs 0 0 (MQ below (qM D (some (.int r)) [(a_t, .inr (8, [.ref a_t_tokens, .ref a_t_votes, .int v_t_witnesses, .int v_t_copies, .int o_t_read, .int o_t_write, .int v_t_items])), (a_t_votes, .inl (cI, 6, .inl v_t_votes))] A) args s 0 0 A) (F0 m 23 ls []) := by
  obtain ⟨hx, hb, hml, hown, hts⟩ := id S
  intro n
  induction n with
  | zero =>
    intro jx1 jx2 v_t_read v_t_write ls H locs hf hl hP hD hS
    cases (show (none : Option _) = some _ from hf)
  | succ n ih =>
    intro jx1 jx2 v_t_read v_t_write ls H locs hf hl hP hD hS
    have hf := (fX8_isRight_23_s _ _ _ n _ _ _ _).symm.trans hf
    refine lv_iload_n hx hb dX8_isRight_23 rfl (lv_at hl 2 rfl) ?_
    refine lv_aload_n hx hb dX8_isRight_24 rfl (lv_at hl 0 rfl) ?_
    refine va_get (D := D) (ci := 8) (v := .int v_t_copies) (C := RX8) (T := TX8) (N := 7) hx hb hts iX8_isRight_X8 hown hK.1 hP 0 rfl rfl 3 (by decide) (hts _ mX8_isRight_4) (fun _ h9 => h9) rfl dX8_isRight_25 ?_
    refine lv_icmp_ge (tgt := 46) hx hb dX8_isRight_28 (by decide) (fun jc1 => ?_) (fun jc1 => ?_)
    · have hf := ite_t jc1 hf
      refine lv_aload_n hx hb dX8_isRight_46 rfl (lv_at hl 0 rfl) ?_
      refine va_get (D := D) (ci := 8) (v := .int v_t_read) (C := RX8) (T := TX8) (N := 7) hx hb hts iX8_isRight_X8 hown hK.1 hP 0 rfl rfl 4 (by decide) (hts _ mX8_isRight_2) (fun _ h9 => h9) rfl dX8_isRight_47 ?_
      refine lv_if_eq (tgt := 79) hx hb dX8_isRight_50 (by decide) (fun jc2 => ?_) (fun jc2 => ?_)
      · have hf := ite_t jc2 hf
        refine lv_iconst (v := 0) hx hb dX8_isRight_79 (by decide) ?_
        obtain ⟨rfl, rfl, rfl⟩ := pr3_inv hf
        exact retMz hx hb hr hlk (by decide) hP hD hS dX8_isRight_80
      · have hf := ite_f jc2 hf
        refine lv_aload_n hx hb dX8_isRight_53 rfl (lv_at hl 0 rfl) ?_
        refine va_get (D := D) (ci := 8) (v := .int v_t_write) (C := RX8) (T := TX8) (N := 7) hx hb hts iX8_isRight_X8 hown hK.1 hP 0 rfl rfl 5 (by decide) (hts _ mX8_isRight_3) (fun _ h9 => h9) rfl dX8_isRight_54 ?_
        refine lv_if_eq (tgt := 79) hx hb dX8_isRight_57 (by decide) (fun jc3 => ?_) (fun jc3 => ?_)
        · have hf := ite_t jc3 hf
          refine lv_iconst (v := 0) hx hb dX8_isRight_79 (by decide) ?_
          obtain ⟨rfl, rfl, rfl⟩ := pr3_inv hf
          exact retMz hx hb hr hlk (by decide) hP hD hS dX8_isRight_80
        · have hf := ite_f jc3 hf
          refine lv_iload_n hx hb dX8_isRight_60 rfl (lv_at hl 1 rfl) ?_
          refine lv_aload_n hx hb dX8_isRight_61 rfl (lv_at hl 0 rfl) ?_
          refine va_get (D := D) (ci := 8) (v := .int v_t_read) (C := RX8) (T := TX8) (N := 7) hx hb hts iX8_isRight_X8 hown hK.1 hP 0 rfl rfl 4 (by decide) (hts _ mX8_isRight_2) (fun _ h9 => h9) rfl dX8_isRight_62 ?_
          refine lv_aload_n hx hb dX8_isRight_65 rfl (lv_at hl 0 rfl) ?_
          refine va_get (D := D) (ci := 8) (v := .int v_t_write) (C := RX8) (T := TX8) (N := 7) hx hb hts iX8_isRight_X8 hown hK.1 hP 0 rfl rfl 5 (by decide) (hts _ mX8_isRight_3) (fun _ h9 => h9) rfl dX8_isRight_66 ?_
          obtain ⟨jr4, je5, hf⟩ := bd1_inv hf
          refine callRSN (As := [.int jx1, .int v_t_read, .int v_t_write]) (rest := []) S (ctX10_isLawful l D cI cZ jx1 v_t_read v_t_write jr4 je5) ⟨va_cnB 3 hts gX8_isRight_X10_isLawful_n78 rfl rfl rfl (hK.2 (RX8, 78, yX10_isLawful, RX10) (by simp [nwQ])) (hts _ mX8_isRight_7) hdX10_isLawful ⟨Nat.le_of_ble_eq_true rfl, Nat.le_of_ble_eq_true rfl⟩, hts _ mX8_isRight_6, trivial⟩ hP [] rfl KX.xs (fun U _ hW => hK.warm hW) rfl hl.1 rfl (Nat.le_of_ble_eq_true rfl) dX8_isRight_69 ⟨Nat.zero_le _, Nat.zero_le _⟩ ?_
          refine lv_if_eq (tgt := 79) hx hb dX8_isRight_72 (by decide) (fun jc6 => ?_) (fun jc6 => ?_)
          · have hf := ite_t jc6 hf
            refine lv_iconst (v := 0) hx hb dX8_isRight_79 (by decide) ?_
            obtain ⟨rfl, rfl, rfl⟩ := pr3_inv hf
            exact retMz hx hb hr hlk (by decide) hP hD hS dX8_isRight_80
          · have hf := ite_f jc6 hf
            refine lv_iconst (v := 1) hx hb dX8_isRight_75 (by decide) ?_
            refine lv_goto (tgt := 80) hx hb dX8_isRight_76 (by decide) ?_
            obtain ⟨rfl, rfl, rfl⟩ := pr3_inv hf
            exact retMz hx hb hr hlk (by decide) hP hD hS dX8_isRight_80
    · have hf := ite_f jc1 hf
      refine lv_iload_n hx hb dX8_isRight_31 rfl (lv_at hl 1 rfl) ?_
      refine lv_aload_n hx hb dX8_isRight_32 rfl (lv_at hl 0 rfl) ?_
      refine va_get (D := D) (ci := 8) (v := .ref a_t_votes) (C := RX8) (T := TX8) (N := 7) hx hb hts iX8_isRight_X8 hown hK.1 hP 0 rfl rfl 1 (by decide) (hts _ mX8_isRight_5) (fun _ h9 => h9) rfl dX8_isRight_33 ?_
      refine lv_iload_n hx hb dX8_isRight_36 rfl (lv_at hl 2 rfl) ?_
      obtain ⟨jh7, hf⟩ := ckI_inv hf
      refine va_iald hx hb hK.1 hP 1 0 rfl rfl jh7 dX8_isRight_37 ?_
      refine lv_iadd hx hb dX8_isRight_38 ?_
      refine lv_istore_n (lv' := [(1, .int (jx1 + (v_t_votes (Int32.toNatClampNeg jx2)))), (0, .ref a_t), (2, .int jx2)]) hx hb dX8_isRight_39 rfl hl (by decide) rfl (fun ls hl => ?_)
      refine lv_iinc (v := (jx2 + (1 : Int32))) (lv' := [(2, .int (jx2 + (1 : Int32))), (1, .int (jx1 + (v_t_votes (Int32.toNatClampNeg jx2)))), (0, .ref a_t)]) hx hb dX8_isRight_40 hl (k := 2) rfl rfl (by decide) rfl (fun ls hl => ?_)
      refine lv_goto (tgt := 23) hx hb dX8_isRight_43 (by decide) ?_
      exact ih (jx1 + (v_t_votes (Int32.toNatClampNeg jx2))) (jx2 + (1 : Int32)) v_t_read v_t_write ls _ _ hf (lv_sub hl [2, 1, 0] rfl) hP hD hS
theorem hdX8_isRight : yX8_isRight.cls ≠ "java/lang/invoke/MethodHandle" ∧ yX8_isRight.cls ≠ "java/lang/invoke/VarHandle" ∧ (parseMethodDescriptor yX8_isRight.desc).map (fun d => d.parameters.length) = some 0 := by decide +kernel
set_option maxHeartbeats 4000000 in
set_option maxRecDepth 100000 in
theorem ctX8_isRight (l : Launch) (D : va_G) (cI cZ : ClassId) (a_t a_t_tokens a_t_votes : Nat) (v_t_copies : Int32) (v_t_read : Int32) (v_t_write : Int32) (v_t_items : Int32) (v_t_votes : (Nat → Int32)) (v_t_witnesses : Int32) (r : Int32) (o_t_read : Int32) (o_t_write : Int32) (hf : fX8_isRight v_t_copies v_t_read v_t_write v_t_items v_t_votes = some (r, o_t_read, o_t_write)) : cM l yX8_isRight wsX8_isRight rmX8_isRight [.ref a_t] D [(a_t, .inr (8, [.ref a_t_tokens, .ref a_t_votes, .int v_t_witnesses, .int v_t_copies, .int v_t_read, .int v_t_write, .int v_t_items])), (a_t_votes, .inl (cI, 6, .inl v_t_votes))] [(a_t, .inr (8, [.ref a_t_tokens, .ref a_t_votes, .int v_t_witnesses, .int v_t_copies, .int o_t_read, .int o_t_write, .int v_t_items])), (a_t_votes, .inl (cI, 6, .inl v_t_votes))] (KX D cI cZ) (some (.int r)) := by
  refine cM_of (cc := cX8_isRight) (maxL := 3) (ret := some .boolean) (by decide +kernel) rfl _ (Nat.le_of_ble_eq_true rfl) ?_
  intro p e s m below meth c ls A S hr hlk hP hK hl hD hA hS
  obtain ⟨hx, hb, hml, hown, hts⟩ := id S
  have hl : lv_has ls 3 [(0, .ref a_t)] := hl
  unfold fX8_isRight at hf
  refine lv_aload_n hx hb dX8_isRight_0 rfl (lv_at hl 0 rfl) ?_
  refine va_get (D := D) (ci := 8) (v := .int v_t_items) (C := RX8) (T := TX8) (N := 7) hx hb hts iX8_isRight_X8 hown hK.1 hP 0 rfl rfl 6 (by decide) (hts _ mX8_isRight_1) (fun _ h9 => h9) rfl dX8_isRight_1 ?_
  refine lv_if_ne (tgt := 19) hx hb dX8_isRight_4 (by decide) (fun jc1 => ?_) (fun jc1 => ?_)
  · have hf := ite_f jc1 hf
    refine lv_iconst (v := 0) hx hb dX8_isRight_19 (by decide) ?_
    refine lv_istore_n (lv' := [(1, .int (0 : Int32)), (0, .ref a_t)]) hx hb dX8_isRight_20 rfl hl (by decide) rfl (fun ls hl => ?_)
    refine lv_iconst (v := 0) hx hb dX8_isRight_21 (by decide) ?_
    refine lv_istore_n (lv' := [(2, .int (0 : Int32)), (1, .int (0 : Int32)), (0, .ref a_t)]) hx hb dX8_isRight_22 rfl hl (by decide) rfl (fun ls hl => ?_)
    exact wX8_isRight_23 S hr hlk hK hA fuel (0 : Int32) (0 : Int32) v_t_read v_t_write ls _ _ hf (lv_sub hl [2, 1, 0] rfl) hP hD hS
  · have hf := ite_t jc1 hf
    refine lv_aload_n hx hb dX8_isRight_7 rfl (lv_at hl 0 rfl) ?_
    refine lv_iconst (v := 1) hx hb dX8_isRight_8 (by decide) ?_
    refine va_put (D := D) (ci := 8) (v := .int (1 : Int32)) (ty := .int) (C := RX8) (T := TX8) (N := 7) hx hb hts iX8_isRight_X8 tyX8 tyX8_ok nmX8 hown hK.1 hP hD hS 0 rfl rfl 4 (by decide) (hts _ mX8_isRight_2) (fun _ h9 => h9) rfl (tyX8_ok 4 (by decide)) rfl rfl (Nat.le_of_ble_eq_true rfl) dX8_isRight_9 (fun H locs hP hD hS => ?_)
    have hP : va_P D vwCl [(a_t, .inr (8, [.ref a_t_tokens, .ref a_t_votes, .int v_t_witnesses, .int v_t_copies, .int (1 : Int32), .int v_t_write, .int v_t_items])), (a_t_votes, .inl (cI, 6, .inl v_t_votes))] H := hP
    have hD : va_D A [(a_t, .inr (8, [.ref a_t_tokens, .ref a_t_votes, .int v_t_witnesses, .int v_t_copies, .int (1 : Int32), .int v_t_write, .int v_t_items])), (a_t_votes, .inl (cI, 6, .inl v_t_votes))] := hD
    refine lv_aload_n hx hb dX8_isRight_12 rfl (lv_at hl 0 rfl) ?_
    refine lv_iconst (v := 1) hx hb dX8_isRight_13 (by decide) ?_
    refine va_put (D := D) (ci := 8) (v := .int (1 : Int32)) (ty := .int) (C := RX8) (T := TX8) (N := 7) hx hb hts iX8_isRight_X8 tyX8 tyX8_ok nmX8 hown hK.1 hP hD hS 0 rfl rfl 5 (by decide) (hts _ mX8_isRight_3) (fun _ h9 => h9) rfl (tyX8_ok 5 (by decide)) rfl rfl (Nat.le_of_ble_eq_true rfl) dX8_isRight_14 (fun H locs hP hD hS => ?_)
    have hP : va_P D vwCl [(a_t, .inr (8, [.ref a_t_tokens, .ref a_t_votes, .int v_t_witnesses, .int v_t_copies, .int (1 : Int32), .int (1 : Int32), .int v_t_items])), (a_t_votes, .inl (cI, 6, .inl v_t_votes))] H := hP
    have hD : va_D A [(a_t, .inr (8, [.ref a_t_tokens, .ref a_t_votes, .int v_t_witnesses, .int v_t_copies, .int (1 : Int32), .int (1 : Int32), .int v_t_items])), (a_t_votes, .inl (cI, 6, .inl v_t_votes))] := hD
    refine lv_iconst (v := 1) hx hb dX8_isRight_17 (by decide) ?_
    obtain ⟨rfl, rfl, rfl⟩ := pr3_inv hf
    exact retMz hx hb hr hlk (by decide) hP hD hS dX8_isRight_18
def fX8_faultOf_85 (v_t_tokens_text_length : Int32) (v_t_tokens_text_letters : (Nat → Int32)) (v_t_witnesses : Int32) (v_t_copies : Int32) (v_t_read : Int32) (v_t_write : Int32) (v_t_items : Int32) (v_t_tokens_kind : Int32) (v_t_tokens_start : Int32) (v_t_tokens_number : Int32) (v_t_tokens_behind : Int32) (v_t_votes : (Nat → Int32)) : Option (Int32 × Int32 × Int32 × Int32 × Int32 × Int32 × Int32 × Int32 × Int32 × Int32 × (Nat → Int32)) := bd3 (fX8_isRight v_t_copies v_t_read v_t_write v_t_items v_t_votes) (fun jr1 jg2 jg3 => if jr1 = 0 then some (v_t_tokens_start, v_t_witnesses, v_t_copies, jg2, jg3, v_t_items, v_t_tokens_kind, v_t_tokens_start, v_t_tokens_number, v_t_tokens_behind, v_t_votes) else some ((-9 : Int32), v_t_witnesses, v_t_copies, jg2, jg3, v_t_items, v_t_tokens_kind, v_t_tokens_start, v_t_tokens_number, v_t_tokens_behind, v_t_votes))
def fX8_faultOf_41 (v_t_tokens_text_length : Int32) (v_t_tokens_text_letters : (Nat → Int32)) : Nat → Int32 → Int32 → Int32 → Int32 → Int32 → Int32 → Int32 → Int32 → Int32 → Int32 → (Nat → Int32) → Option (Int32 × Int32 × Int32 × Int32 × Int32 × Int32 × Int32 × Int32 × Int32 × Int32 × (Nat → Int32))
  | 0, _, _, _, _, _, _, _, _, _, _, _ => none
  | n + 1, jx1, v_t_witnesses, v_t_copies, v_t_read, v_t_write, v_t_items, v_t_tokens_kind, v_t_tokens_start, v_t_tokens_number, v_t_tokens_behind, v_t_votes => if (120 : Int32) ≤ jx1 then fX8_faultOf_85 v_t_tokens_text_length v_t_tokens_text_letters v_t_witnesses v_t_copies v_t_read v_t_write v_t_items v_t_tokens_kind v_t_tokens_start v_t_tokens_number v_t_tokens_behind v_t_votes else if v_t_tokens_kind = 0 then fX8_faultOf_85 v_t_tokens_text_length v_t_tokens_text_letters v_t_witnesses v_t_copies v_t_read v_t_write v_t_items v_t_tokens_kind v_t_tokens_start v_t_tokens_number v_t_tokens_behind v_t_votes else bd11 (fX8_takeItem v_t_witnesses v_t_copies v_t_read v_t_write v_t_items v_t_tokens_kind v_t_tokens_start v_t_tokens_number v_t_tokens_behind v_t_tokens_text_length v_t_tokens_text_letters v_t_votes) (fun jr3 jg4 jg5 jg6 jg7 jg8 jg9 jg10 jg11 jg12 jg13 => if jr3 = 0 then some (jg10, jg4, jg5, jg6, jg7, jg8, jg9, jg10, jg11, jg12, jg13) else bd4 (fX9_advance jg9 jg10 jg11 jg12 v_t_tokens_text_length v_t_tokens_text_letters) (fun jg16 jg17 jg18 jg19 => (fX8_faultOf_41 v_t_tokens_text_length v_t_tokens_text_letters n) (jx1 + (1 : Int32)) jg4 jg5 jg6 jg7 jg8 jg16 jg17 jg18 jg19 jg13))
theorem fX8_faultOf_41_s (v_t_tokens_text_length : Int32) (v_t_tokens_text_letters : (Nat → Int32)) (n : Nat) (jx1 : Int32) (v_t_witnesses : Int32) (v_t_copies : Int32) (v_t_read : Int32) (v_t_write : Int32) (v_t_items : Int32) (v_t_tokens_kind : Int32) (v_t_tokens_start : Int32) (v_t_tokens_number : Int32) (v_t_tokens_behind : Int32) (v_t_votes : (Nat → Int32)) : fX8_faultOf_41 v_t_tokens_text_length v_t_tokens_text_letters (n + 1) jx1 v_t_witnesses v_t_copies v_t_read v_t_write v_t_items v_t_tokens_kind v_t_tokens_start v_t_tokens_number v_t_tokens_behind v_t_votes = if (120 : Int32) ≤ jx1 then fX8_faultOf_85 v_t_tokens_text_length v_t_tokens_text_letters v_t_witnesses v_t_copies v_t_read v_t_write v_t_items v_t_tokens_kind v_t_tokens_start v_t_tokens_number v_t_tokens_behind v_t_votes else if v_t_tokens_kind = 0 then fX8_faultOf_85 v_t_tokens_text_length v_t_tokens_text_letters v_t_witnesses v_t_copies v_t_read v_t_write v_t_items v_t_tokens_kind v_t_tokens_start v_t_tokens_number v_t_tokens_behind v_t_votes else bd11 (fX8_takeItem v_t_witnesses v_t_copies v_t_read v_t_write v_t_items v_t_tokens_kind v_t_tokens_start v_t_tokens_number v_t_tokens_behind v_t_tokens_text_length v_t_tokens_text_letters v_t_votes) (fun jr3 jg4 jg5 jg6 jg7 jg8 jg9 jg10 jg11 jg12 jg13 => if jr3 = 0 then some (jg10, jg4, jg5, jg6, jg7, jg8, jg9, jg10, jg11, jg12, jg13) else bd4 (fX9_advance jg9 jg10 jg11 jg12 v_t_tokens_text_length v_t_tokens_text_letters) (fun jg16 jg17 jg18 jg19 => (fX8_faultOf_41 v_t_tokens_text_length v_t_tokens_text_letters n) (jx1 + (1 : Int32)) jg4 jg5 jg6 jg7 jg8 jg16 jg17 jg18 jg19 jg13)) := rfl
def fX8_faultOf (v_t_witnesses : Int32) (v_t_copies : Int32) (v_t_read : Int32) (v_t_write : Int32) (v_t_items : Int32) (v_t_tokens_kind : Int32) (v_t_tokens_start : Int32) (v_t_tokens_number : Int32) (v_t_tokens_behind : Int32) (v_t_tokens_text_length : Int32) (v_t_tokens_text_letters : (Nat → Int32)) (v_t_votes : (Nat → Int32)) : Option (Int32 × Int32 × Int32 × Int32 × Int32 × Int32 × Int32 × Int32 × Int32 × Int32 × (Nat → Int32)) := bd1 (fX9_rewind v_t_tokens_behind) (fun jg1 => bd4 (fX9_advance v_t_tokens_kind v_t_tokens_start v_t_tokens_number jg1 v_t_tokens_text_length v_t_tokens_text_letters) (fun jg3 jg4 jg5 jg6 => fX8_faultOf_41 v_t_tokens_text_length v_t_tokens_text_letters fuel (0 : Int32) (0 : Int32) (0 : Int32) (0 : Int32) (0 : Int32) (0 : Int32) jg3 jg4 jg5 jg6 v_t_votes))
abbrev rmX8_faultOf : Room := { frames := 8, cells := 0, slots := 0, locals := 169 }
theorem iX8_faultOf_X8 : ∀ w ∈ wsX80, w ∈ wsX8_faultOf := fun _ h => List.mem_cons_of_mem _ (List.mem_append_left _ (List.mem_append_left _ (List.mem_append_right _ h)))
theorem mX8_faultOf_1 : (Cond.fieldLink RX8 36 "VoteFiles$Telling" "tokens" "LVoteFiles$Tokens;") ∈ wsX8_faultOf := List.mem_of_getElem? (i := 1) rfl
theorem iX8_faultOf_X9 : ∀ w ∈ wsX90, w ∈ wsX8_faultOf := fun _ h => List.mem_cons_of_mem _ (List.mem_append_left _ (List.mem_append_right _ h))
theorem mX8_faultOf_8 : (Cond.fieldLink RX8 53 "VoteFiles$Tokens" "start" "I") ∈ wsX8_faultOf := List.mem_of_getElem? (i := 8) rfl
theorem mX8_faultOf_7 : (Cond.fieldLink RX8 46 "VoteFiles$Tokens" "kind" "I") ∈ wsX8_faultOf := List.mem_of_getElem? (i := 7) rfl
theorem mX8_faultOf_2 : (Cond.fieldLink RX8 15 "VoteFiles$Telling" "witnesses" "I") ∈ wsX8_faultOf := List.mem_of_getElem? (i := 2) rfl
theorem mX8_faultOf_3 : (Cond.fieldLink RX8 19 "VoteFiles$Telling" "copies" "I") ∈ wsX8_faultOf := List.mem_of_getElem? (i := 3) rfl
theorem mX8_faultOf_4 : (Cond.fieldLink RX8 22 "VoteFiles$Telling" "read" "I") ∈ wsX8_faultOf := List.mem_of_getElem? (i := 4) rfl
theorem mX8_faultOf_5 : (Cond.fieldLink RX8 25 "VoteFiles$Telling" "write" "I") ∈ wsX8_faultOf := List.mem_of_getElem? (i := 5) rfl
theorem mX8_faultOf_6 : (Cond.fieldLink RX8 28 "VoteFiles$Telling" "items" "I") ∈ wsX8_faultOf := List.mem_of_getElem? (i := 6) rfl
set_option maxHeartbeats 4000000 in
set_option maxRecDepth 100000 in
theorem wX8_faultOf_85 {p : Program} {l : Launch} {e : Env} {s : State} {m : MethodId} {args : Array Value} {below : List Frame} {meth : Method} {c : Code} {D : va_G} {cI cZ : ClassId} {sz0 : Nat} {ad av : Nat → Nat} (S : CallFix p m c cX8_faultOf 2 s args wsX8_faultOf RX8) (hr : meth.sig.returnType = some .int) (hlk : meth.locks = false) (hT : XT D cI cZ sz0 ad av s) {a_t a_t_tokens a_t_votes a_t_tokens_text a_t_tokens_text_letters : Nat} (z_t : sz0 ≤ a_t) (z_t_tokens : sz0 ≤ a_t_tokens) (z_t_tokens_text : sz0 ≤ a_t_tokens_text) (z_t_tokens_text_letters : sz0 ≤ a_t_tokens_text_letters) (z_t_votes : sz0 ≤ a_t_votes) {v_t_tokens_text_length : Int32} {v_t_tokens_text_letters : (Nat → Int32)} {r : Int32} {o_t_witnesses : Int32} {o_t_copies : Int32} {o_t_read : Int32} {o_t_write : Int32} {o_t_items : Int32} {o_t_tokens_kind : Int32} {o_t_tokens_start : Int32} {o_t_tokens_number : Int32} {o_t_tokens_behind : Int32} {o_t_votes : (Nat → Int32)} {A : Nat → Prop} (hA : ∀ q : Nat, s.heap.size ≤ q → A q) (hZ : ∀ q : Nat, A q → sz0 ≤ q) : ∀ (v_t_witnesses : Int32) (v_t_copies : Int32) (v_t_read : Int32) (v_t_write : Int32) (v_t_items : Int32) (v_t_tokens_kind : Int32) (v_t_tokens_start : Int32) (v_t_tokens_number : Int32) (v_t_tokens_behind : Int32) (v_t_votes : (Nat → Int32)) (ls : Array Slot) (H : Heap) (locs : List Loc), fX8_faultOf_85 v_t_tokens_text_length v_t_tokens_text_letters v_t_witnesses v_t_copies v_t_read v_t_write v_t_items v_t_tokens_kind v_t_tokens_start v_t_tokens_number v_t_tokens_behind v_t_votes = some (r, o_t_witnesses, o_t_copies, o_t_read, o_t_write, o_t_items, o_t_tokens_kind, o_t_tokens_start, o_t_tokens_number, o_t_tokens_behind, o_t_votes) → lv_has ls 2 [(0, .ref a_t)] → va_P D vwCl [(a_t, .inr (8, [.ref a_t_tokens, .ref a_t_votes, .int v_t_witnesses, .int v_t_copies, .int v_t_read, .int v_t_write, .int v_t_items])), (a_t_tokens, .inr (9, [.ref a_t_tokens_text, .int v_t_tokens_kind, .int v_t_tokens_start, .int v_t_tokens_number, .int v_t_tokens_behind])), (a_t_tokens_text, .inr (2, [.ref a_t_tokens_text_letters, .int v_t_tokens_text_length])), (a_t_tokens_text_letters, .inl (cI, 120, .inl v_t_tokens_text_letters)), (a_t_votes, .inl (cI, 6, .inl v_t_votes))] H → va_D A [(a_t, .inr (8, [.ref a_t_tokens, .ref a_t_votes, .int v_t_witnesses, .int v_t_copies, .int v_t_read, .int v_t_write, .int v_t_items])), (a_t_tokens, .inr (9, [.ref a_t_tokens_text, .int v_t_tokens_kind, .int v_t_tokens_start, .int v_t_tokens_number, .int v_t_tokens_behind])), (a_t_tokens_text, .inr (2, [.ref a_t_tokens_text_letters, .int v_t_tokens_text_length])), (a_t_tokens_text_letters, .inl (cI, 120, .inl v_t_tokens_text_letters)), (a_t_votes, .inl (cI, 6, .inl v_t_votes))] → va_S A s.heap H locs → W p l e rmX8_faultOf s m args below meth c H locs 0 0 (MQ below (qM D (some (.int r)) [(a_t, .inr (8, [.ref a_t_tokens, .ref a_t_votes, .int o_t_witnesses, .int o_t_copies, .int o_t_read, .int o_t_write, .int o_t_items])), (a_t_tokens, .inr (9, [.ref a_t_tokens_text, .int o_t_tokens_kind, .int o_t_tokens_start, .int o_t_tokens_number, .int o_t_tokens_behind])), (a_t_tokens_text, .inr (2, [.ref a_t_tokens_text_letters, .int v_t_tokens_text_length])), (a_t_tokens_text_letters, .inl (cI, 120, .inl v_t_tokens_text_letters)), (a_t_votes, .inl (cI, 6, .inl o_t_votes))] A) args s 0 0 A) (F0 m 85 ls []) := by
  obtain ⟨hx, hb, hml, hown, hts⟩ := id S
  have hK := hT.1
  intro v_t_witnesses v_t_copies v_t_read v_t_write v_t_items v_t_tokens_kind v_t_tokens_start v_t_tokens_number v_t_tokens_behind v_t_votes ls H locs hf hl hP hD hS
  unfold fX8_faultOf_85 at hf
  refine lv_aload_n hx hb dX8_faultOf_85 rfl (lv_at hl 0 rfl) ?_
  obtain ⟨jr1, jg2, jg3, je4, hf⟩ := bd3_inv hf
  refine callMV (As := []) (rest := []) (wr := [(a_t_tokens, .inr (9, [.ref a_t_tokens_text, .int v_t_tokens_kind, .int v_t_tokens_start, .int v_t_tokens_number, .int v_t_tokens_behind])), (a_t_tokens_text, .inr (2, [.ref a_t_tokens_text_letters, .int v_t_tokens_text_length])), (a_t_tokens_text_letters, .inl (cI, 120, .inl v_t_tokens_text_letters))]) (wn := [(a_t, .inr (8, [.ref a_t_tokens, .ref a_t_votes, .int v_t_witnesses, .int v_t_copies, .int jg2, .int jg3, .int v_t_items])), (a_t_tokens, .inr (9, [.ref a_t_tokens_text, .int v_t_tokens_kind, .int v_t_tokens_start, .int v_t_tokens_number, .int v_t_tokens_behind])), (a_t_tokens_text, .inr (2, [.ref a_t_tokens_text_letters, .int v_t_tokens_text_length])), (a_t_tokens_text_letters, .inl (cI, 120, .inl v_t_tokens_text_letters)), (a_t_votes, .inl (cI, 6, .inl v_t_votes))]) S (ctX8_isRight l D cI cZ a_t a_t_tokens a_t_votes v_t_copies v_t_read v_t_write v_t_items v_t_votes v_t_witnesses jr1 jg2 jg3 je4) (cwV 0 hts gX8_faultOf_X8_isRight rfl rfl rfl ⟨rfl, hdX8_isRight⟩ ⟨Nat.le_of_ble_eq_true rfl, Nat.le_of_ble_eq_true rfl⟩) hP hD hS hA [0, 4] [1, 2, 3] [3, 0, 1, 2, 4] rfl rfl (by decide) (by decide) (by decide) (by decide) rfl KX.xs (fun U _ hW => hK.warm hW) (va_recv hK.1 hP (ci := 8) (q0 := 0) rfl rfl) rfl hl.1 rfl (Nat.le_of_ble_eq_true rfl) dX8_faultOf_86 ⟨Nat.zero_le _, Nat.zero_le _⟩ (fun H locs hP hD hS => ?_)
  refine W.eq (g2 := F0 m 89 ls [.int jr1]) rfl ?_
  refine lv_if_eq (tgt := 97) hx hb dX8_faultOf_89 (by decide) (fun jc5 => ?_) (fun jc5 => ?_)
  · have hf := ite_t jc5 hf
    refine lv_aload_n hx hb dX8_faultOf_97 rfl (lv_at hl 0 rfl) ?_
    refine va_get (D := D) (ci := 8) (v := .ref a_t_tokens) (C := RX8) (T := TX8) (N := 7) hx hb hts iX8_faultOf_X8 hown hK.1 hP 0 rfl rfl 0 (by decide) (hts _ mX8_faultOf_1) (fun _ h9 => h9) rfl dX8_faultOf_98 ?_
    refine va_get (D := D) (ci := 9) (v := .int v_t_tokens_start) (C := RX9) (T := TX9) (N := 5) hx hb hts iX8_faultOf_X9 hown hK.1 hP 1 rfl rfl 2 (by decide) (hts _ mX8_faultOf_8) (fun _ h9 => h9) rfl dX8_faultOf_101 ?_
    obtain ⟨rfl, rfl, rfl, rfl, rfl, rfl, rfl, rfl, rfl, rfl, rfl⟩ := pr11_inv hf
    exact retM hx hb hr hlk hP hD hS dX8_faultOf_104
  · have hf := ite_f jc5 hf
    refine lv_bipush (v := -9) hx hb dX8_faultOf_92 (by decide) ?_
    refine lv_goto (tgt := 104) hx hb dX8_faultOf_94 (by decide) ?_
    obtain ⟨rfl, rfl, rfl, rfl, rfl, rfl, rfl, rfl, rfl, rfl, rfl⟩ := pr11_inv hf
    exact retM hx hb hr hlk hP hD hS dX8_faultOf_104
set_option maxHeartbeats 4000000 in
set_option maxRecDepth 100000 in
theorem wX8_faultOf_41 {p : Program} {l : Launch} {e : Env} {s : State} {m : MethodId} {args : Array Value} {below : List Frame} {meth : Method} {c : Code} {D : va_G} {cI cZ : ClassId} {sz0 : Nat} {ad av : Nat → Nat} (S : CallFix p m c cX8_faultOf 2 s args wsX8_faultOf RX8) (hr : meth.sig.returnType = some .int) (hlk : meth.locks = false) (hT : XT D cI cZ sz0 ad av s) {a_t a_t_tokens a_t_votes a_t_tokens_text a_t_tokens_text_letters : Nat} (z_t : sz0 ≤ a_t) (z_t_tokens : sz0 ≤ a_t_tokens) (z_t_tokens_text : sz0 ≤ a_t_tokens_text) (z_t_tokens_text_letters : sz0 ≤ a_t_tokens_text_letters) (z_t_votes : sz0 ≤ a_t_votes) {v_t_tokens_text_length : Int32} {v_t_tokens_text_letters : (Nat → Int32)} {r : Int32} {o_t_witnesses : Int32} {o_t_copies : Int32} {o_t_read : Int32} {o_t_write : Int32} {o_t_items : Int32} {o_t_tokens_kind : Int32} {o_t_tokens_start : Int32} {o_t_tokens_number : Int32} {o_t_tokens_behind : Int32} {o_t_votes : (Nat → Int32)} {A : Nat → Prop} (hA : ∀ q : Nat, s.heap.size ≤ q → A q) (hZ : ∀ q : Nat, A q → sz0 ≤ q) : ∀ (n : Nat), ∀ (jx1 : Int32) (v_t_witnesses : Int32) (v_t_copies : Int32) (v_t_read : Int32) (v_t_write : Int32) (v_t_items : Int32) (v_t_tokens_kind : Int32) (v_t_tokens_start : Int32) (v_t_tokens_number : Int32) (v_t_tokens_behind : Int32) (v_t_votes : (Nat → Int32)) (ls : Array Slot) (H : Heap) (locs : List Loc), fX8_faultOf_41 v_t_tokens_text_length v_t_tokens_text_letters n jx1 v_t_witnesses v_t_copies v_t_read v_t_write v_t_items v_t_tokens_kind v_t_tokens_start v_t_tokens_number v_t_tokens_behind v_t_votes = some (r, o_t_witnesses, o_t_copies, o_t_read, o_t_write, o_t_items, o_t_tokens_kind, o_t_tokens_start, o_t_tokens_number, o_t_tokens_behind, o_t_votes) → lv_has ls 2 [(0, .ref a_t), (1, .int jx1)] → va_P D vwCl [(a_t, .inr (8, [.ref a_t_tokens, .ref a_t_votes, .int v_t_witnesses, .int v_t_copies, .int v_t_read, .int v_t_write, .int v_t_items])), (a_t_tokens, .inr (9, [.ref a_t_tokens_text, .int v_t_tokens_kind, .int v_t_tokens_start, .int v_t_tokens_number, .int v_t_tokens_behind])), (a_t_tokens_text, .inr (2, [.ref a_t_tokens_text_letters, .int v_t_tokens_text_length])), (a_t_tokens_text_letters, .inl (cI, 120, .inl v_t_tokens_text_letters)), (a_t_votes, .inl (cI, 6, .inl v_t_votes))] H → va_D A [(a_t, .inr (8, [.ref a_t_tokens, .ref a_t_votes, .int v_t_witnesses, .int v_t_copies, .int v_t_read, .int v_t_write, .int v_t_items])), (a_t_tokens, .inr (9, [.ref a_t_tokens_text, .int v_t_tokens_kind, .int v_t_tokens_start, .int v_t_tokens_number, .int v_t_tokens_behind])), (a_t_tokens_text, .inr (2, [.ref a_t_tokens_text_letters, .int v_t_tokens_text_length])), (a_t_tokens_text_letters, .inl (cI, 120, .inl v_t_tokens_text_letters)), (a_t_votes, .inl (cI, 6, .inl v_t_votes))] → va_S A s.heap H locs → W p l e rmX8_faultOf s m args below meth c H locs 0 0 (MQ below (qM D (some (.int r)) [(a_t, .inr (8, [.ref a_t_tokens, .ref a_t_votes, .int o_t_witnesses, .int o_t_copies, .int o_t_read, .int o_t_write, .int o_t_items])), (a_t_tokens, .inr (9, [.ref a_t_tokens_text, .int o_t_tokens_kind, .int o_t_tokens_start, .int o_t_tokens_number, .int o_t_tokens_behind])), (a_t_tokens_text, .inr (2, [.ref a_t_tokens_text_letters, .int v_t_tokens_text_length])), (a_t_tokens_text_letters, .inl (cI, 120, .inl v_t_tokens_text_letters)), (a_t_votes, .inl (cI, 6, .inl o_t_votes))] A) args s 0 0 A) (F0 m 41 ls []) := by
  obtain ⟨hx, hb, hml, hown, hts⟩ := id S
  have hK := hT.1
  intro n
  induction n with
  | zero =>
    intro jx1 v_t_witnesses v_t_copies v_t_read v_t_write v_t_items v_t_tokens_kind v_t_tokens_start v_t_tokens_number v_t_tokens_behind v_t_votes ls H locs hf hl hP hD hS
    cases (show (none : Option _) = some _ from hf)
  | succ n ih =>
    intro jx1 v_t_witnesses v_t_copies v_t_read v_t_write v_t_items v_t_tokens_kind v_t_tokens_start v_t_tokens_number v_t_tokens_behind v_t_votes ls H locs hf hl hP hD hS
    have hf := (fX8_faultOf_41_s _ _ n _ _ _ _ _ _ _ _ _ _ _).symm.trans hf
    refine lv_iload_n hx hb dX8_faultOf_41 rfl (lv_at hl 1 rfl) ?_
    refine lv_bipush (v := 120) hx hb dX8_faultOf_42 (by decide) ?_
    refine lv_icmp_ge (tgt := 85) hx hb dX8_faultOf_44 (by decide) (fun jc1 => ?_) (fun jc1 => ?_)
    · have hf := ite_t jc1 hf
      exact wX8_faultOf_85 S hr hlk hT z_t z_t_tokens z_t_tokens_text z_t_tokens_text_letters z_t_votes hA hZ v_t_witnesses v_t_copies v_t_read v_t_write v_t_items v_t_tokens_kind v_t_tokens_start v_t_tokens_number v_t_tokens_behind v_t_votes ls _ _ hf (lv_sub hl [0] rfl) hP hD hS
    · have hf := ite_f jc1 hf
      refine lv_aload_n hx hb dX8_faultOf_47 rfl (lv_at hl 0 rfl) ?_
      refine va_get (D := D) (ci := 8) (v := .ref a_t_tokens) (C := RX8) (T := TX8) (N := 7) hx hb hts iX8_faultOf_X8 hown hK.1 hP 0 rfl rfl 0 (by decide) (hts _ mX8_faultOf_1) (fun _ h9 => h9) rfl dX8_faultOf_48 ?_
      refine va_get (D := D) (ci := 9) (v := .int v_t_tokens_kind) (C := RX9) (T := TX9) (N := 5) hx hb hts iX8_faultOf_X9 hown hK.1 hP 1 rfl rfl 1 (by decide) (hts _ mX8_faultOf_7) (fun _ h9 => h9) rfl dX8_faultOf_51 ?_
      refine lv_if_eq (tgt := 85) hx hb dX8_faultOf_54 (by decide) (fun jc2 => ?_) (fun jc2 => ?_)
      · have hf := ite_t jc2 hf
        exact wX8_faultOf_85 S hr hlk hT z_t z_t_tokens z_t_tokens_text z_t_tokens_text_letters z_t_votes hA hZ v_t_witnesses v_t_copies v_t_read v_t_write v_t_items v_t_tokens_kind v_t_tokens_start v_t_tokens_number v_t_tokens_behind v_t_votes ls _ _ hf (lv_sub hl [0] rfl) hP hD hS
      · have hf := ite_f jc2 hf
        refine lv_aload_n hx hb dX8_faultOf_57 rfl (lv_at hl 0 rfl) ?_
        obtain ⟨jr3, jg4, jg5, jg6, jg7, jg8, jg9, jg10, jg11, jg12, jg13, je14, hf⟩ := bd11_inv hf
        refine callMV (As := []) (rest := []) (wr := []) (wn := [(a_t, .inr (8, [.ref a_t_tokens, .ref a_t_votes, .int jg4, .int jg5, .int jg6, .int jg7, .int jg8])), (a_t_tokens, .inr (9, [.ref a_t_tokens_text, .int jg9, .int jg10, .int jg11, .int jg12])), (a_t_tokens_text, .inr (2, [.ref a_t_tokens_text_letters, .int v_t_tokens_text_length])), (a_t_tokens_text_letters, .inl (cI, 120, .inl v_t_tokens_text_letters)), (a_t_votes, .inl (cI, 6, .inl jg13))]) S (ctX8_takeItem l D cI cZ sz0 ad av a_t a_t_tokens a_t_votes a_t_tokens_text a_t_tokens_text_letters z_t z_t_tokens z_t_tokens_text z_t_tokens_text_letters z_t_votes v_t_witnesses v_t_copies v_t_read v_t_write v_t_items v_t_tokens_kind v_t_tokens_start v_t_tokens_number v_t_tokens_behind v_t_tokens_text_length v_t_tokens_text_letters v_t_votes jr3 jg4 jg5 jg6 jg7 jg8 jg9 jg10 jg11 jg12 jg13 je14) (cwV 0 hts gX8_faultOf_X8_takeItem rfl rfl rfl ⟨rfl, hdX8_takeItem⟩ ⟨Nat.le_of_ble_eq_true rfl, Nat.le_of_ble_eq_true rfl⟩) hP hD hS hA [0, 1, 2, 3, 4] [] [0, 1, 2, 3, 4] rfl rfl (by decide) (by decide) (by decide) (by decide) rfl XT.xs (hT.at hS hZ) (va_recv hK.1 hP (ci := 8) (q0 := 0) rfl rfl) rfl hl.1 rfl (Nat.le_of_ble_eq_true rfl) dX8_faultOf_58 ⟨Nat.zero_le _, Nat.zero_le _⟩ (fun H locs hP hD hS => ?_)
        refine W.eq (g2 := F0 m 61 ls [.int jr3]) rfl ?_
        refine lv_if_ne (tgt := 72) hx hb dX8_faultOf_61 (by decide) (fun jc15 => ?_) (fun jc15 => ?_)
        · have hf := ite_f jc15 hf
          refine lv_aload_n hx hb dX8_faultOf_72 rfl (lv_at hl 0 rfl) ?_
          refine va_get (D := D) (ci := 8) (v := .ref a_t_tokens) (C := RX8) (T := TX8) (N := 7) hx hb hts iX8_faultOf_X8 hown hK.1 hP 0 rfl rfl 0 (by decide) (hts _ mX8_faultOf_1) (fun _ h9 => h9) rfl dX8_faultOf_73 ?_
          obtain ⟨jg16, jg17, jg18, jg19, je20, hf⟩ := bd4_inv hf
          refine callMV (As := []) (rest := []) (wr := [(a_t, .inr (8, [.ref a_t_tokens, .ref a_t_votes, .int jg4, .int jg5, .int jg6, .int jg7, .int jg8])), (a_t_votes, .inl (cI, 6, .inl jg13))]) (wn := [(a_t, .inr (8, [.ref a_t_tokens, .ref a_t_votes, .int jg4, .int jg5, .int jg6, .int jg7, .int jg8])), (a_t_tokens, .inr (9, [.ref a_t_tokens_text, .int jg16, .int jg17, .int jg18, .int jg19])), (a_t_tokens_text, .inr (2, [.ref a_t_tokens_text_letters, .int v_t_tokens_text_length])), (a_t_tokens_text_letters, .inl (cI, 120, .inl v_t_tokens_text_letters)), (a_t_votes, .inl (cI, 6, .inl jg13))]) S (ctX9_advance l D cI cZ sz0 ad av a_t_tokens a_t_tokens_text a_t_tokens_text_letters z_t_tokens z_t_tokens_text z_t_tokens_text_letters jg9 jg10 jg11 jg12 v_t_tokens_text_length v_t_tokens_text_letters jg16 jg17 jg18 jg19 je20) (cwV 0 hts gX8_faultOf_X9_advance rfl rfl rfl ⟨rfl, hdX9_advance⟩ ⟨Nat.le_of_ble_eq_true rfl, Nat.le_of_ble_eq_true rfl⟩) hP hD hS hA [1, 2, 3] [0, 4] [0, 2, 3, 4, 1] rfl rfl (by decide) (by decide) (by decide) (by decide) rfl XT.xs (hT.at hS hZ) (va_recv hK.1 hP (ci := 9) (q0 := 1) rfl rfl) rfl hl.1 rfl (Nat.le_of_ble_eq_true rfl) dX8_faultOf_76 ⟨Nat.zero_le _, Nat.zero_le _⟩ (fun H locs hP hD hS => ?_)
          refine W.eq (g2 := F0 m 79 ls []) rfl ?_
          refine lv_iinc (v := (jx1 + (1 : Int32))) (lv' := [(1, .int (jx1 + (1 : Int32))), (0, .ref a_t)]) hx hb dX8_faultOf_79 hl (k := 1) rfl rfl (by decide) rfl (fun ls hl => ?_)
          refine lv_goto (tgt := 41) hx hb dX8_faultOf_82 (by decide) ?_
          exact ih (jx1 + (1 : Int32)) jg4 jg5 jg6 jg7 jg8 jg16 jg17 jg18 jg19 jg13 ls _ _ hf (lv_sub hl [1, 0] rfl) hP hD hS
        · have hf := ite_t jc15 hf
          refine lv_aload_n hx hb dX8_faultOf_64 rfl (lv_at hl 0 rfl) ?_
          refine va_get (D := D) (ci := 8) (v := .ref a_t_tokens) (C := RX8) (T := TX8) (N := 7) hx hb hts iX8_faultOf_X8 hown hK.1 hP 0 rfl rfl 0 (by decide) (hts _ mX8_faultOf_1) (fun _ h9 => h9) rfl dX8_faultOf_65 ?_
          refine va_get (D := D) (ci := 9) (v := .int jg10) (C := RX9) (T := TX9) (N := 5) hx hb hts iX8_faultOf_X9 hown hK.1 hP 1 rfl rfl 2 (by decide) (hts _ mX8_faultOf_8) (fun _ h9 => h9) rfl dX8_faultOf_68 ?_
          obtain ⟨rfl, rfl, rfl, rfl, rfl, rfl, rfl, rfl, rfl, rfl, rfl⟩ := pr11_inv hf
          exact retM hx hb hr hlk hP hD hS dX8_faultOf_71
theorem hdX8_faultOf : yX8_faultOf.cls ≠ "java/lang/invoke/MethodHandle" ∧ yX8_faultOf.cls ≠ "java/lang/invoke/VarHandle" ∧ (parseMethodDescriptor yX8_faultOf.desc).map (fun d => d.parameters.length) = some 0 := by decide +kernel
set_option maxHeartbeats 4000000 in
set_option maxRecDepth 100000 in
theorem ctX8_faultOf (l : Launch) (D : va_G) (cI cZ : ClassId) (sz0 : Nat) (ad av : Nat → Nat) (a_t a_t_tokens a_t_votes a_t_tokens_text a_t_tokens_text_letters : Nat) (z_t : sz0 ≤ a_t) (z_t_tokens : sz0 ≤ a_t_tokens) (z_t_tokens_text : sz0 ≤ a_t_tokens_text) (z_t_tokens_text_letters : sz0 ≤ a_t_tokens_text_letters) (z_t_votes : sz0 ≤ a_t_votes) (v_t_witnesses : Int32) (v_t_copies : Int32) (v_t_read : Int32) (v_t_write : Int32) (v_t_items : Int32) (v_t_tokens_kind : Int32) (v_t_tokens_start : Int32) (v_t_tokens_number : Int32) (v_t_tokens_behind : Int32) (v_t_tokens_text_length : Int32) (v_t_tokens_text_letters : (Nat → Int32)) (v_t_votes : (Nat → Int32)) (r : Int32) (o_t_witnesses : Int32) (o_t_copies : Int32) (o_t_read : Int32) (o_t_write : Int32) (o_t_items : Int32) (o_t_tokens_kind : Int32) (o_t_tokens_start : Int32) (o_t_tokens_number : Int32) (o_t_tokens_behind : Int32) (o_t_votes : (Nat → Int32)) (hf : fX8_faultOf v_t_witnesses v_t_copies v_t_read v_t_write v_t_items v_t_tokens_kind v_t_tokens_start v_t_tokens_number v_t_tokens_behind v_t_tokens_text_length v_t_tokens_text_letters v_t_votes = some (r, o_t_witnesses, o_t_copies, o_t_read, o_t_write, o_t_items, o_t_tokens_kind, o_t_tokens_start, o_t_tokens_number, o_t_tokens_behind, o_t_votes)) : cM l yX8_faultOf wsX8_faultOf rmX8_faultOf [.ref a_t] D [(a_t, .inr (8, [.ref a_t_tokens, .ref a_t_votes, .int v_t_witnesses, .int v_t_copies, .int v_t_read, .int v_t_write, .int v_t_items])), (a_t_tokens, .inr (9, [.ref a_t_tokens_text, .int v_t_tokens_kind, .int v_t_tokens_start, .int v_t_tokens_number, .int v_t_tokens_behind])), (a_t_tokens_text, .inr (2, [.ref a_t_tokens_text_letters, .int v_t_tokens_text_length])), (a_t_tokens_text_letters, .inl (cI, 120, .inl v_t_tokens_text_letters)), (a_t_votes, .inl (cI, 6, .inl v_t_votes))] [(a_t, .inr (8, [.ref a_t_tokens, .ref a_t_votes, .int o_t_witnesses, .int o_t_copies, .int o_t_read, .int o_t_write, .int o_t_items])), (a_t_tokens, .inr (9, [.ref a_t_tokens_text, .int o_t_tokens_kind, .int o_t_tokens_start, .int o_t_tokens_number, .int o_t_tokens_behind])), (a_t_tokens_text, .inr (2, [.ref a_t_tokens_text_letters, .int v_t_tokens_text_length])), (a_t_tokens_text_letters, .inl (cI, 120, .inl v_t_tokens_text_letters)), (a_t_votes, .inl (cI, 6, .inl o_t_votes))] (XT D cI cZ sz0 ad av) (some (.int r)) := by
  refine cM_ofZ (cc := cX8_faultOf) (maxL := 2) (ret := some .int) (by decide +kernel) rfl _ (Nat.le_of_ble_eq_true rfl) (zc_cons z_t (zc_cons z_t_tokens (zc_cons z_t_tokens_text (zc_cons z_t_tokens_text_letters (zc_cons z_t_votes zc_nil))))) (fun U h => h.2.1) ?_
  intro p e s m below meth c ls A S hr hlk hP hT hl hD hA hZ hS
  have hK := hT.1
  obtain ⟨hx, hb, hml, hown, hts⟩ := id S
  have hl : lv_has ls 2 [(0, .ref a_t)] := hl
  unfold fX8_faultOf at hf
  refine lv_aload_n hx hb dX8_faultOf_0 rfl (lv_at hl 0 rfl) ?_
  refine va_get (D := D) (ci := 8) (v := .ref a_t_tokens) (C := RX8) (T := TX8) (N := 7) hx hb hts iX8_faultOf_X8 hown hK.1 hP 0 rfl rfl 0 (by decide) (hts _ mX8_faultOf_1) (fun _ h9 => h9) rfl dX8_faultOf_1 ?_
  obtain ⟨jg1, je2, hf⟩ := bd1_inv hf
  refine callMV (As := []) (rest := []) (wr := [(a_t, .inr (8, [.ref a_t_tokens, .ref a_t_votes, .int v_t_witnesses, .int v_t_copies, .int v_t_read, .int v_t_write, .int v_t_items])), (a_t_tokens_text, .inr (2, [.ref a_t_tokens_text_letters, .int v_t_tokens_text_length])), (a_t_tokens_text_letters, .inl (cI, 120, .inl v_t_tokens_text_letters)), (a_t_votes, .inl (cI, 6, .inl v_t_votes))]) (wn := [(a_t, .inr (8, [.ref a_t_tokens, .ref a_t_votes, .int v_t_witnesses, .int v_t_copies, .int v_t_read, .int v_t_write, .int v_t_items])), (a_t_tokens, .inr (9, [.ref a_t_tokens_text, .int v_t_tokens_kind, .int v_t_tokens_start, .int v_t_tokens_number, .int jg1])), (a_t_tokens_text, .inr (2, [.ref a_t_tokens_text_letters, .int v_t_tokens_text_length])), (a_t_tokens_text_letters, .inl (cI, 120, .inl v_t_tokens_text_letters)), (a_t_votes, .inl (cI, 6, .inl v_t_votes))]) S (ctX9_rewind l D cI cZ a_t_tokens a_t_tokens_text v_t_tokens_behind v_t_tokens_kind v_t_tokens_start v_t_tokens_number jg1 je2) (cwV 0 hts gX8_faultOf_X9_rewind rfl rfl rfl ⟨rfl, hdX9_rewind⟩ ⟨Nat.le_of_ble_eq_true rfl, Nat.le_of_ble_eq_true rfl⟩) hP hD hS hA [1] [0, 2, 3, 4] [0, 4, 1, 2, 3] rfl rfl (by decide) (by decide) (by decide) (by decide) rfl KX.xs (fun U _ hW => hK.warm hW) (va_recv hK.1 hP (ci := 9) (q0 := 1) rfl rfl) rfl hl.1 rfl (Nat.le_of_ble_eq_true rfl) dX8_faultOf_4 ⟨Nat.zero_le _, Nat.zero_le _⟩ (fun H locs hP hD hS => ?_)
  refine W.eq (g2 := F0 m 7 ls []) rfl ?_
  refine lv_aload_n hx hb dX8_faultOf_7 rfl (lv_at hl 0 rfl) ?_
  refine lv_iconst (v := 0) hx hb dX8_faultOf_8 (by decide) ?_
  refine va_put (D := D) (ci := 8) (v := .int (0 : Int32)) (ty := .int) (C := RX8) (T := TX8) (N := 7) hx hb hts iX8_faultOf_X8 tyX8 tyX8_ok nmX8 hown hK.1 hP hD hS 0 rfl rfl 2 (by decide) (hts _ mX8_faultOf_2) (fun _ h9 => h9) rfl (tyX8_ok 2 (by decide)) rfl rfl (Nat.le_of_ble_eq_true rfl) dX8_faultOf_9 (fun H locs hP hD hS => ?_)
  have hP : va_P D vwCl [(a_t, .inr (8, [.ref a_t_tokens, .ref a_t_votes, .int (0 : Int32), .int v_t_copies, .int v_t_read, .int v_t_write, .int v_t_items])), (a_t_tokens, .inr (9, [.ref a_t_tokens_text, .int v_t_tokens_kind, .int v_t_tokens_start, .int v_t_tokens_number, .int jg1])), (a_t_tokens_text, .inr (2, [.ref a_t_tokens_text_letters, .int v_t_tokens_text_length])), (a_t_tokens_text_letters, .inl (cI, 120, .inl v_t_tokens_text_letters)), (a_t_votes, .inl (cI, 6, .inl v_t_votes))] H := hP
  have hD : va_D A [(a_t, .inr (8, [.ref a_t_tokens, .ref a_t_votes, .int (0 : Int32), .int v_t_copies, .int v_t_read, .int v_t_write, .int v_t_items])), (a_t_tokens, .inr (9, [.ref a_t_tokens_text, .int v_t_tokens_kind, .int v_t_tokens_start, .int v_t_tokens_number, .int jg1])), (a_t_tokens_text, .inr (2, [.ref a_t_tokens_text_letters, .int v_t_tokens_text_length])), (a_t_tokens_text_letters, .inl (cI, 120, .inl v_t_tokens_text_letters)), (a_t_votes, .inl (cI, 6, .inl v_t_votes))] := hD
  refine lv_aload_n hx hb dX8_faultOf_12 rfl (lv_at hl 0 rfl) ?_
  refine lv_iconst (v := 0) hx hb dX8_faultOf_13 (by decide) ?_
  refine va_put (D := D) (ci := 8) (v := .int (0 : Int32)) (ty := .int) (C := RX8) (T := TX8) (N := 7) hx hb hts iX8_faultOf_X8 tyX8 tyX8_ok nmX8 hown hK.1 hP hD hS 0 rfl rfl 3 (by decide) (hts _ mX8_faultOf_3) (fun _ h9 => h9) rfl (tyX8_ok 3 (by decide)) rfl rfl (Nat.le_of_ble_eq_true rfl) dX8_faultOf_14 (fun H locs hP hD hS => ?_)
  have hP : va_P D vwCl [(a_t, .inr (8, [.ref a_t_tokens, .ref a_t_votes, .int (0 : Int32), .int (0 : Int32), .int v_t_read, .int v_t_write, .int v_t_items])), (a_t_tokens, .inr (9, [.ref a_t_tokens_text, .int v_t_tokens_kind, .int v_t_tokens_start, .int v_t_tokens_number, .int jg1])), (a_t_tokens_text, .inr (2, [.ref a_t_tokens_text_letters, .int v_t_tokens_text_length])), (a_t_tokens_text_letters, .inl (cI, 120, .inl v_t_tokens_text_letters)), (a_t_votes, .inl (cI, 6, .inl v_t_votes))] H := hP
  have hD : va_D A [(a_t, .inr (8, [.ref a_t_tokens, .ref a_t_votes, .int (0 : Int32), .int (0 : Int32), .int v_t_read, .int v_t_write, .int v_t_items])), (a_t_tokens, .inr (9, [.ref a_t_tokens_text, .int v_t_tokens_kind, .int v_t_tokens_start, .int v_t_tokens_number, .int jg1])), (a_t_tokens_text, .inr (2, [.ref a_t_tokens_text_letters, .int v_t_tokens_text_length])), (a_t_tokens_text_letters, .inl (cI, 120, .inl v_t_tokens_text_letters)), (a_t_votes, .inl (cI, 6, .inl v_t_votes))] := hD
  refine lv_aload_n hx hb dX8_faultOf_17 rfl (lv_at hl 0 rfl) ?_
  refine lv_iconst (v := 0) hx hb dX8_faultOf_18 (by decide) ?_
  refine va_put (D := D) (ci := 8) (v := .int (0 : Int32)) (ty := .int) (C := RX8) (T := TX8) (N := 7) hx hb hts iX8_faultOf_X8 tyX8 tyX8_ok nmX8 hown hK.1 hP hD hS 0 rfl rfl 4 (by decide) (hts _ mX8_faultOf_4) (fun _ h9 => h9) rfl (tyX8_ok 4 (by decide)) rfl rfl (Nat.le_of_ble_eq_true rfl) dX8_faultOf_19 (fun H locs hP hD hS => ?_)
  have hP : va_P D vwCl [(a_t, .inr (8, [.ref a_t_tokens, .ref a_t_votes, .int (0 : Int32), .int (0 : Int32), .int (0 : Int32), .int v_t_write, .int v_t_items])), (a_t_tokens, .inr (9, [.ref a_t_tokens_text, .int v_t_tokens_kind, .int v_t_tokens_start, .int v_t_tokens_number, .int jg1])), (a_t_tokens_text, .inr (2, [.ref a_t_tokens_text_letters, .int v_t_tokens_text_length])), (a_t_tokens_text_letters, .inl (cI, 120, .inl v_t_tokens_text_letters)), (a_t_votes, .inl (cI, 6, .inl v_t_votes))] H := hP
  have hD : va_D A [(a_t, .inr (8, [.ref a_t_tokens, .ref a_t_votes, .int (0 : Int32), .int (0 : Int32), .int (0 : Int32), .int v_t_write, .int v_t_items])), (a_t_tokens, .inr (9, [.ref a_t_tokens_text, .int v_t_tokens_kind, .int v_t_tokens_start, .int v_t_tokens_number, .int jg1])), (a_t_tokens_text, .inr (2, [.ref a_t_tokens_text_letters, .int v_t_tokens_text_length])), (a_t_tokens_text_letters, .inl (cI, 120, .inl v_t_tokens_text_letters)), (a_t_votes, .inl (cI, 6, .inl v_t_votes))] := hD
  refine lv_aload_n hx hb dX8_faultOf_22 rfl (lv_at hl 0 rfl) ?_
  refine lv_iconst (v := 0) hx hb dX8_faultOf_23 (by decide) ?_
  refine va_put (D := D) (ci := 8) (v := .int (0 : Int32)) (ty := .int) (C := RX8) (T := TX8) (N := 7) hx hb hts iX8_faultOf_X8 tyX8 tyX8_ok nmX8 hown hK.1 hP hD hS 0 rfl rfl 5 (by decide) (hts _ mX8_faultOf_5) (fun _ h9 => h9) rfl (tyX8_ok 5 (by decide)) rfl rfl (Nat.le_of_ble_eq_true rfl) dX8_faultOf_24 (fun H locs hP hD hS => ?_)
  have hP : va_P D vwCl [(a_t, .inr (8, [.ref a_t_tokens, .ref a_t_votes, .int (0 : Int32), .int (0 : Int32), .int (0 : Int32), .int (0 : Int32), .int v_t_items])), (a_t_tokens, .inr (9, [.ref a_t_tokens_text, .int v_t_tokens_kind, .int v_t_tokens_start, .int v_t_tokens_number, .int jg1])), (a_t_tokens_text, .inr (2, [.ref a_t_tokens_text_letters, .int v_t_tokens_text_length])), (a_t_tokens_text_letters, .inl (cI, 120, .inl v_t_tokens_text_letters)), (a_t_votes, .inl (cI, 6, .inl v_t_votes))] H := hP
  have hD : va_D A [(a_t, .inr (8, [.ref a_t_tokens, .ref a_t_votes, .int (0 : Int32), .int (0 : Int32), .int (0 : Int32), .int (0 : Int32), .int v_t_items])), (a_t_tokens, .inr (9, [.ref a_t_tokens_text, .int v_t_tokens_kind, .int v_t_tokens_start, .int v_t_tokens_number, .int jg1])), (a_t_tokens_text, .inr (2, [.ref a_t_tokens_text_letters, .int v_t_tokens_text_length])), (a_t_tokens_text_letters, .inl (cI, 120, .inl v_t_tokens_text_letters)), (a_t_votes, .inl (cI, 6, .inl v_t_votes))] := hD
  refine lv_aload_n hx hb dX8_faultOf_27 rfl (lv_at hl 0 rfl) ?_
  refine lv_iconst (v := 0) hx hb dX8_faultOf_28 (by decide) ?_
  refine va_put (D := D) (ci := 8) (v := .int (0 : Int32)) (ty := .int) (C := RX8) (T := TX8) (N := 7) hx hb hts iX8_faultOf_X8 tyX8 tyX8_ok nmX8 hown hK.1 hP hD hS 0 rfl rfl 6 (by decide) (hts _ mX8_faultOf_6) (fun _ h9 => h9) rfl (tyX8_ok 6 (by decide)) rfl rfl (Nat.le_of_ble_eq_true rfl) dX8_faultOf_29 (fun H locs hP hD hS => ?_)
  have hP : va_P D vwCl [(a_t, .inr (8, [.ref a_t_tokens, .ref a_t_votes, .int (0 : Int32), .int (0 : Int32), .int (0 : Int32), .int (0 : Int32), .int (0 : Int32)])), (a_t_tokens, .inr (9, [.ref a_t_tokens_text, .int v_t_tokens_kind, .int v_t_tokens_start, .int v_t_tokens_number, .int jg1])), (a_t_tokens_text, .inr (2, [.ref a_t_tokens_text_letters, .int v_t_tokens_text_length])), (a_t_tokens_text_letters, .inl (cI, 120, .inl v_t_tokens_text_letters)), (a_t_votes, .inl (cI, 6, .inl v_t_votes))] H := hP
  have hD : va_D A [(a_t, .inr (8, [.ref a_t_tokens, .ref a_t_votes, .int (0 : Int32), .int (0 : Int32), .int (0 : Int32), .int (0 : Int32), .int (0 : Int32)])), (a_t_tokens, .inr (9, [.ref a_t_tokens_text, .int v_t_tokens_kind, .int v_t_tokens_start, .int v_t_tokens_number, .int jg1])), (a_t_tokens_text, .inr (2, [.ref a_t_tokens_text_letters, .int v_t_tokens_text_length])), (a_t_tokens_text_letters, .inl (cI, 120, .inl v_t_tokens_text_letters)), (a_t_votes, .inl (cI, 6, .inl v_t_votes))] := hD
  refine lv_aload_n hx hb dX8_faultOf_32 rfl (lv_at hl 0 rfl) ?_
  refine va_get (D := D) (ci := 8) (v := .ref a_t_tokens) (C := RX8) (T := TX8) (N := 7) hx hb hts iX8_faultOf_X8 hown hK.1 hP 0 rfl rfl 0 (by decide) (hts _ mX8_faultOf_1) (fun _ h9 => h9) rfl dX8_faultOf_33 ?_
  obtain ⟨jg3, jg4, jg5, jg6, je7, hf⟩ := bd4_inv hf
  refine callMV (As := []) (rest := []) (wr := [(a_t, .inr (8, [.ref a_t_tokens, .ref a_t_votes, .int (0 : Int32), .int (0 : Int32), .int (0 : Int32), .int (0 : Int32), .int (0 : Int32)])), (a_t_votes, .inl (cI, 6, .inl v_t_votes))]) (wn := [(a_t, .inr (8, [.ref a_t_tokens, .ref a_t_votes, .int (0 : Int32), .int (0 : Int32), .int (0 : Int32), .int (0 : Int32), .int (0 : Int32)])), (a_t_tokens, .inr (9, [.ref a_t_tokens_text, .int jg3, .int jg4, .int jg5, .int jg6])), (a_t_tokens_text, .inr (2, [.ref a_t_tokens_text_letters, .int v_t_tokens_text_length])), (a_t_tokens_text_letters, .inl (cI, 120, .inl v_t_tokens_text_letters)), (a_t_votes, .inl (cI, 6, .inl v_t_votes))]) S (ctX9_advance l D cI cZ sz0 ad av a_t_tokens a_t_tokens_text a_t_tokens_text_letters z_t_tokens z_t_tokens_text z_t_tokens_text_letters v_t_tokens_kind v_t_tokens_start v_t_tokens_number jg1 v_t_tokens_text_length v_t_tokens_text_letters jg3 jg4 jg5 jg6 je7) (cwV 0 hts gX8_faultOf_X9_advance rfl rfl rfl ⟨rfl, hdX9_advance⟩ ⟨Nat.le_of_ble_eq_true rfl, Nat.le_of_ble_eq_true rfl⟩) hP hD hS hA [1, 2, 3] [0, 4] [0, 2, 3, 4, 1] rfl rfl (by decide) (by decide) (by decide) (by decide) rfl XT.xs (hT.at hS hZ) (va_recv hK.1 hP (ci := 9) (q0 := 1) rfl rfl) rfl hl.1 rfl (Nat.le_of_ble_eq_true rfl) dX8_faultOf_36 ⟨Nat.zero_le _, Nat.zero_le _⟩ (fun H locs hP hD hS => ?_)
  refine W.eq (g2 := F0 m 39 ls []) rfl ?_
  refine lv_iconst (v := 0) hx hb dX8_faultOf_39 (by decide) ?_
  refine lv_istore_n (lv' := [(1, .int (0 : Int32)), (0, .ref a_t)]) hx hb dX8_faultOf_40 rfl hl (by decide) rfl (fun ls hl => ?_)
  exact wX8_faultOf_41 S hr hlk hT z_t z_t_tokens z_t_tokens_text z_t_tokens_text_letters z_t_votes hA hZ fuel (0 : Int32) (0 : Int32) (0 : Int32) (0 : Int32) (0 : Int32) (0 : Int32) jg3 jg4 jg5 jg6 v_t_votes ls _ _ hf (lv_sub hl [1, 0] rfl) hP hD hS
